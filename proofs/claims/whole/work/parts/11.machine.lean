def et_X9_next_15  (w : Nat)  : Nat → em_M → Int32 → Int32 → Int32 → Int32 → Int32
  | 0, _, _, _, _, _ => 0
  | fu + 1, M, row, kept, winder, k =>
  (if k ≤ (1 : Int32) then (if winder = 0 then (0 : Int32) else let r5 := et_X9_below w M winder
  (if r5 = row then winder else (0 : Int32))) else let r7 := et_X9_below w M winder
  et_X9_next_15 w fu M row kept r7 (k + (-1 : Int32)))
def et_X9_next  (w : Nat) (M : em_M) (row : Int32) (kept : Int32) : Int32 :=
  let r1 := et_X9_height w M kept
  let r2 := et_X9_height w M row
  et_X9_next_15 w (((r1 - r2)).toInt.toNat + 1) M row kept kept (r1 - r2)
set_option maxHeartbeats 4000000 in
set_option maxRecDepth 100000 in
theorem el_X9_next_15 (X : em_X) (w : Nat) (hw : ew w)   (t0 : Int32) (hRm : ez_rm X = { frames := 2, cells := 0, slots := 0, locals := 42 }) (hnL : ez_nL X = 5) (hX : ez_ok X cX9_next RX9) (M : em_M) (hQ : ez_ret X (some .int) (some (.int t0)) 132 em_R (M) 0 0) : ∀ (fu : Nat) (row : Int32) (kept : Int32) (winder : Int32) (k : Int32), k.toInt.toNat < fu → et_X9_next_15 w fu M row kept winder k = t0 → ez_Z X 132 em_R M 0 0 15 [(0, .ref (ez_B X + (w + 17))), (1, .int row), (2, .int kept), (3, .int winder), (4, .int k)] [] := by
  intro fu
  induction fu with
  | zero =>
    intro row kept winder k hc hT
    exact absurd hc (by omega)
  | succ fu ih =>
    intro row kept winder k hc hT
    refine ez_iload hX 4 dX9_next_15 rfl ?_
    refine ez_iconst hX (1 : Int32) dX9_next_17 (by decide) ?_
    refine ez_icmp_le hX 33 dX9_next_18 (by decide) (fun c3 => ?_) (fun c3 => ?_)
    · -- c3 jump
      refine ez_iload_n hX 3 dX9_next_33 rfl ?_
      refine ez_if_eq hX 50 dX9_next_34 (by decide) (fun c4 => ?_) (fun c4 => ?_)
      · -- c4 jump
        refine ez_iconst hX (0 : Int32) dX9_next_50 (by decide) ?_
        have ht : t0 = (0 : Int32) := hT.symm.trans (by simp only [et_X9_next_15, if_pos c3, if_pos c4])
        subst ht
        exact ez_iret hX hQ dX9_next_51 rfl rfl
      · -- c4 on
        refine ez_aload_n hX 0 dX9_next_37 rfl ?_
        refine ez_iload_n hX 3 dX9_next_38 rfl ?_
        refine ez_callV hX (N0 := 0) (As := [.int winder]) (st := []) (kw_17 hw) (Nat.le_of_ble_eq_true rfl) (kw_lt hw 17 (by decide)) rfl (ec_X9_below _ _ _ w hw M winder) (Or.inl rfl) wm_X9_40 wv_X9_below we_X9_below wy_X9_below rfl wd_X9_below wi_X9 (ez_rok hRm rfl) (Nat.le_of_ble_eq_true rfl) dX9_next_39 ?_
        refine ez_nmI (fun r5 er5 => ?_)
        refine ez_iload_n hX 1 dX9_next_42 rfl ?_
        refine ez_icmp_ne hX 50 dX9_next_43 (by decide) (fun c6 => ?_) (fun c6 => ?_)
        · -- c6 jump
          refine ez_iconst hX (0 : Int32) dX9_next_50 (by decide) ?_
          have ht : t0 = (0 : Int32) := hT.symm.trans (by simp only [et_X9_next_15, if_pos c3, if_neg c4, er5, if_neg c6])
          subst ht
          exact ez_iret hX hQ dX9_next_51 rfl rfl
        · -- c6 on
          refine ez_iload_n hX 3 dX9_next_46 rfl ?_
          refine ez_goto hX 51 dX9_next_47 (by decide) ?_
          have ht : t0 = winder := hT.symm.trans (by simp only [et_X9_next_15, if_pos c3, if_neg c4, er5, if_pos c6])
          subst ht
          exact ez_iret hX hQ dX9_next_51 rfl rfl
    · -- c3 on
      refine ez_aload_n hX 0 dX9_next_21 rfl ?_
      refine ez_iload_n hX 3 dX9_next_22 rfl ?_
      refine ez_callV hX (N0 := 0) (As := [.int winder]) (st := []) (kw_17 hw) (Nat.le_of_ble_eq_true rfl) (kw_lt hw 17 (by decide)) rfl (ec_X9_below _ _ _ w hw M winder) (Or.inl rfl) wm_X9_40 wv_X9_below we_X9_below wy_X9_below rfl wd_X9_below wi_X9 (ez_rok hRm rfl) (Nat.le_of_ble_eq_true rfl) dX9_next_23 ?_
      refine ez_nmI (fun r7 er7 => ?_)
      refine ez_istore_n hX [(3, .int r7), (0, .ref (ez_B X + (w + 17))), (1, .int row), (2, .int kept), (4, .int k)] dX9_next_26 (ez_lt hnL rfl) rfl ?_
      refine ez_iinc hX (k + (-1 : Int32)) 4 [(4, .int (k + (-1 : Int32))), (3, .int r7), (0, .ref (ez_B X + (w + 17))), (1, .int row), (2, .int kept)] dX9_next_27 rfl rfl (ez_lt hnL rfl) rfl ?_
      refine ez_goto hX 15 dX9_next_30 (by decide) ?_
      refine ez_lv [2, 3, 4, 1, 0] rfl ?_
      exact ih row kept r7 (k + (-1 : Int32)) (by have e := ez_dec (Int32.not_le.mp c3); have h := Int32.not_le.mp c3; rw [Int32.lt_iff_toInt_lt] at h; have e2 : (1 : Int32).toInt = 1 := (by decide); omega) (Eq.trans (by simp only [et_X9_next_15, if_neg c3, er7]) hT)
set_option maxHeartbeats 4000000 in
set_option maxRecDepth 100000 in
theorem ec_X9_next (l : Launch) (D : em_G) (B : Nat) (w : Nat) (hw : ew w) (M : em_M) (row : Int32) (kept : Int32) : em_C l D B yX9_next cX9_next 5 (some .int) 2 42 0 0 false [.ref (B + (w + 17)), .int row, .int kept] 132 em_R M (some (.int (et_X9_next w M row kept))) 132 em_R (M) := by
  refine em_C_of RX9 [(0, .ref (B + (w + 17))), (1, .int row), (2, .int kept)] (by decide) rfl rfl (Nat.le_of_ble_eq_true rfl) ?_
  rintro X rfl rfl rfl hRm hnL hnm hsz hX hQ
  obtain ⟨t0, hT⟩ : ∃ tz, et_X9_next w M row kept = tz := ⟨_, rfl⟩
  rw [hT] at hQ
  refine ez_iload_n hX 2 dX9_next_0 rfl ?_
  refine ez_istore_n hX [(3, .int kept), (0, .ref (ez_B X + (w + 17))), (1, .int row), (2, .int kept)] dX9_next_1 (ez_lt hnL rfl) rfl ?_
  refine ez_aload_n hX 1 dX9_next_2 rfl ?_
  refine ez_iload_n hX 3 dX9_next_3 rfl ?_
  refine ez_callV hX (N0 := 0) (As := [.int kept]) (st := []) (kw_17 hw) (Nat.le_of_ble_eq_true rfl) (kw_lt hw 17 (by decide)) rfl (ec_X9_height _ _ _ w hw M kept) (Or.inl rfl) wm_X9_36 wv_X9_height we_X9_height wy_X9_height rfl wd_X9_height wi_X9 (ez_rok hRm rfl) (Nat.le_of_ble_eq_true rfl) dX9_next_4 ?_
  refine ez_nmI (fun r1 er1 => ?_)
  refine ez_aload_n hX 1 dX9_next_7 rfl ?_
  refine ez_iload_n hX 2 dX9_next_8 rfl ?_
  refine ez_callV hX (N0 := 0) (As := [.int row]) (st := [.int r1]) (kw_17 hw) (Nat.le_of_ble_eq_true rfl) (kw_lt hw 17 (by decide)) rfl (ec_X9_height _ _ _ w hw M row) (Or.inl rfl) wm_X9_36 wv_X9_height we_X9_height wy_X9_height rfl wd_X9_height wi_X9 (ez_rok hRm rfl) (Nat.le_of_ble_eq_true rfl) dX9_next_9 ?_
  refine ez_nmI (fun r2 er2 => ?_)
  refine ez_isub hX dX9_next_12 ?_
  refine ez_istore hX [(4, .int (r1 - r2)), (3, .int kept), (0, .ref (ez_B X + (w + 17))), (1, .int row), (2, .int kept)] dX9_next_13 (ez_lt hnL rfl) rfl ?_
  refine ez_lv [2, 3, 4, 1, 0] rfl ?_
  exact el_X9_next_15 X w hw t0 hRm hnL hX M hQ (((r1 - r2)).toInt.toNat + 1) row kept kept (r1 - r2) (Nat.lt_succ_self _) (Eq.trans (by simp only [et_X9_next, er1, er2]) hT)

def et_X4_shows_2  (o r : Nat)  : Nat → em_M → Int32 → Int32
  | 0, _, _ => 0
  | fu + 1, M, row =>
  (if (M.1 r 0) ≤ row then (1 : Int32) else let r2 := et_X11_at (r + 1) 10 M row
  (if (M.1 o 3) ≤ r2 then (0 : Int32) else let r4 := et_X11_at (o + 1) 40 M r2
  let r5 := et_X11_at (r + 2) 10 M row
  (if r4 = r5 then et_X4_shows_2 o r fu M (row + (1 : Int32)) else (0 : Int32))))
def et_X4_shows  (o r : Nat) (M : em_M) : Int32 :=
  et_X4_shows_2 o r ((M.1 r 0).toNatClampNeg + 1) M (0 : Int32)
set_option maxHeartbeats 4000000 in
set_option maxRecDepth 100000 in
theorem el_X4_shows_2 (X : em_X) (o : Nat) (ho : eo o) (r : Nat) (hr : er r)   (t0 : Int32) (hRm : ez_rm X = { frames := 1, cells := 0, slots := 0, locals := 21 }) (hnL : ez_nL X = 4) (hX : ez_ok X cX4_shows RX4) (M : em_M) (hQ : ez_ret X (some .boolean) (some (.int t0)) 132 em_R (M) 0 0) : ∀ (fu : Nat) (row : Int32), ez_cnt row (M.1 r 0) fu → et_X4_shows_2 o r fu M row = t0 → ez_Z X 132 em_R M 0 0 2 [(0, .ref (ez_B X + o)), (1, .ref (ez_B X + r)), (2, .int row)] [] := by
  intro fu
  induction fu with
  | zero =>
    intro row hc hT
    exact absurd hc ez_cntz
  | succ fu ih =>
    intro row hc hT
    refine ez_iload_n hX 2 dX4_shows_2 rfl ?_
    refine ez_aload_n hX 1 dX4_shows_3 rfl ?_
    refine ez_geti hX (kr_0 hr) rfl (Nat.le_of_ble_eq_true rfl) (kr_lt0 hr) (Nat.le_of_ble_eq_true rfl) inX6 rfl wf_X4_46 dX4_shows_4 ?_
    refine ez_icmp_ge hX 54 dX4_shows_7 (by decide) (fun c1 => ?_) (fun c1 => ?_)
    · -- c1 jump
      refine ez_iconst hX (1 : Int32) dX4_shows_54 (by decide) ?_
      have ht : t0 = (1 : Int32) := hT.symm.trans (by simp only [et_X4_shows_2, if_pos c1])
      subst ht
      exact ez_zret hX hQ dX4_shows_55 rfl rfl rfl
    · -- c1 on
      refine ez_aload_n hX 1 dX4_shows_10 rfl ?_
      refine ez_getr hX (kr_0 hr) rfl (Nat.le_of_ble_eq_true rfl) (kr_lt0 hr) (Nat.le_of_ble_eq_true rfl) inX6 (r + 1) rfl (rr_0_1 hr) wf_X4_49 dX4_shows_11 ?_
      refine ez_iload_n hX 2 dX4_shows_14 rfl ?_
      refine ez_callSN hX (N0 := 0) (As := [.ref (ez_B X + (r + 1)), .int row]) (st := []) (ec_X11_at _ _ _ (r + 1) 10 (kr_1 hr) (kr_lt hr 1 (by decide)) M row) (Or.inl rfl) wm_X4_42 ws_X11_at wy_X11_at rfl wd_X11_at wi_X11 (ez_rok hRm rfl) (Nat.le_of_ble_eq_true rfl) dX4_shows_15 ?_
      refine ez_nmI (fun r2 er2 => ?_)
      refine ez_istore_n hX [(3, .int r2), (0, .ref (ez_B X + o)), (1, .ref (ez_B X + r)), (2, .int row)] dX4_shows_18 (ez_lt hnL rfl) rfl ?_
      refine ez_iload_n hX 0 dX4_shows_19 rfl ?_
      refine ez_aload_n hX 1 dX4_shows_20 rfl ?_
      refine ez_geti hX (ko_0 ho) rfl (Nat.le_of_ble_eq_true rfl) (ko_lt0 ho) (Nat.le_of_ble_eq_true rfl) inX4 rfl wf_X4_25 dX4_shows_21 ?_
      refine ez_icmp_ge hX 46 dX4_shows_24 (by decide) (fun c3 => ?_) (fun c3 => ?_)
      · -- c3 jump
        refine ez_iconst hX (0 : Int32) dX4_shows_46 (by decide) ?_
        have ht : t0 = (0 : Int32) := hT.symm.trans (by simp only [et_X4_shows_2, if_neg c1, er2, if_pos c3])
        subst ht
        exact ez_zret hX hQ dX4_shows_47 rfl rfl rfl
      · -- c3 on
        refine ez_aload_n hX 1 dX4_shows_27 rfl ?_
        refine ez_getr hX (ko_0 ho) rfl (Nat.le_of_ble_eq_true rfl) (ko_lt0 ho) (Nat.le_of_ble_eq_true rfl) inX4 (o + 1) rfl (ro_0_4 ho) wf_X4_15 dX4_shows_28 ?_
        refine ez_iload_n hX 0 dX4_shows_31 rfl ?_
        refine ez_callSN hX (N0 := 0) (As := [.ref (ez_B X + (o + 1)), .int r2]) (st := []) (ec_X11_at _ _ _ (o + 1) 40 (ko_1 ho) (ko_lt ho 1 (by decide)) M r2) (Or.inl rfl) wm_X4_42 ws_X11_at wy_X11_at rfl wd_X11_at wi_X11 (ez_rok hRm rfl) (Nat.le_of_ble_eq_true rfl) dX4_shows_32 ?_
        refine ez_nmI (fun r4 er4 => ?_)
        refine ez_aload_n hX 2 dX4_shows_35 rfl ?_
        refine ez_getr hX (kr_0 hr) rfl (Nat.le_of_ble_eq_true rfl) (kr_lt0 hr) (Nat.le_of_ble_eq_true rfl) inX6 (r + 2) rfl (rr_0_2 hr) wf_X4_52 dX4_shows_36 ?_
        refine ez_iload_n hX 3 dX4_shows_39 rfl ?_
        refine ez_callSN hX (N0 := 0) (As := [.ref (ez_B X + (r + 2)), .int row]) (st := [.int r4]) (ec_X11_at _ _ _ (r + 2) 10 (kr_2 hr) (kr_lt hr 2 (by decide)) M row) (Or.inl rfl) wm_X4_42 ws_X11_at wy_X11_at rfl wd_X11_at wi_X11 (ez_rok hRm rfl) (Nat.le_of_ble_eq_true rfl) dX4_shows_40 ?_
        refine ez_nmI (fun r5 er5 => ?_)
        refine ez_icmp_eq hX 48 dX4_shows_43 (by decide) (fun c6 => ?_) (fun c6 => ?_)
        · -- c6 jump
          refine ez_iinc hX (row + (1 : Int32)) 3 [(2, .int (row + (1 : Int32))), (3, .int r2), (0, .ref (ez_B X + o)), (1, .ref (ez_B X + r))] dX4_shows_48 rfl rfl (ez_lt hnL rfl) rfl ?_
          refine ez_goto hX 2 dX4_shows_51 (by decide) ?_
          refine ez_lv [2, 3, 0] rfl ?_
          exact ih (row + (1 : Int32)) (ez_cnts' hc c1) (Eq.trans (by simp only [et_X4_shows_2, if_neg c1, er2, if_neg c3, er4, er5, if_pos c6]) hT)
        · -- c6 on
          refine ez_iconst hX (0 : Int32) dX4_shows_46 (by decide) ?_
          have ht : t0 = (0 : Int32) := hT.symm.trans (by simp only [et_X4_shows_2, if_neg c1, er2, if_neg c3, er4, er5, if_neg c6])
          subst ht
          exact ez_zret hX hQ dX4_shows_47 rfl rfl rfl
set_option maxHeartbeats 4000000 in
set_option maxRecDepth 100000 in
theorem ec_X4_shows (l : Launch) (D : em_G) (B : Nat) (o : Nat) (ho : eo o) (r : Nat) (hr : er r) (M : em_M) : em_C l D B yX4_shows cX4_shows 4 (some .boolean) 1 21 0 0 false [.ref (B + o), .ref (B + r)] 132 em_R M (some (.int (et_X4_shows o r M))) 132 em_R (M) := by
  refine em_C_of RX4 [(0, .ref (B + o)), (1, .ref (B + r))] (by decide) rfl rfl (Nat.le_of_ble_eq_true rfl) ?_
  rintro X rfl rfl rfl hRm hnL hnm hsz hX hQ
  obtain ⟨t0, hT⟩ : ∃ tz, et_X4_shows o r M = tz := ⟨_, rfl⟩
  rw [hT] at hQ
  refine ez_iconst hX (0 : Int32) dX4_shows_0 (by decide) ?_
  refine ez_istore_n hX [(2, .int (0 : Int32)), (0, .ref (ez_B X + o)), (1, .ref (ez_B X + r))] dX4_shows_1 (ez_lt hnL rfl) rfl ?_
  refine ez_lv [1, 2, 0] rfl ?_
  exact el_X4_shows_2 X o ho r hr t0 hRm hnL hX M hQ ((M.1 r 0).toNatClampNeg + 1) (0 : Int32) (ez_cnt0 _) (Eq.trans (by simp only [et_X4_shows]) hT)

def et_X4_sameAs_44  (o u : Nat)  : Nat → em_M → Int32 → Int32 → Int32
  | 0, _, _, _ => 0
  | fu + 1, M, same, k =>
  (if (M.1 o 3) ≤ k then same else (if same = 0 then same else let r4 := et_X11_at (o + 1) 40 M k
  let r5 := et_X11_at (u + 1) 40 M k
  (if r4 = r5 then et_X4_sameAs_44 o u fu M (1 : Int32) (k + (1 : Int32)) else et_X4_sameAs_44 o u fu M (0 : Int32) (k + (1 : Int32)))))
def et_X4_sameAs  (o u : Nat) (M : em_M) : Int32 :=
  (if (M.1 o 0) = (M.1 u 0) then (if (M.1 o 3) = (M.1 u 3) then let r8 := et_X4_answer o M (1 : Int32)
  let r9 := et_X4_answer u M (1 : Int32)
  (if (lg_cmp r8 r9) = 0 then et_X4_sameAs_44 o u ((M.1 o 3).toNatClampNeg + 1) M (1 : Int32) (0 : Int32) else et_X4_sameAs_44 o u ((M.1 o 3).toNatClampNeg + 1) M (0 : Int32) (0 : Int32)) else et_X4_sameAs_44 o u ((M.1 o 3).toNatClampNeg + 1) M (0 : Int32) (0 : Int32)) else et_X4_sameAs_44 o u ((M.1 o 3).toNatClampNeg + 1) M (0 : Int32) (0 : Int32))
set_option maxHeartbeats 4000000 in
set_option maxRecDepth 100000 in
theorem el_X4_sameAs_44 (X : em_X) (o : Nat) (ho : eo o) (u : Nat) (hu : eo u)   (t0 : Int32) (hRm : ez_rm X = { frames := 2, cells := 0, slots := 0, locals := 42 }) (hnL : ez_nL X = 4) (hX : ez_ok X cX4_sameAs RX4) (M : em_M) (hQ : ez_ret X (some .boolean) (some (.int t0)) 132 em_R (M) 0 0) : ∀ (fu : Nat) (same : Int32) (k : Int32), ez_cnt k (M.1 o 3) fu → same = 0 ∨ same = 1 → et_X4_sameAs_44 o u fu M same k = t0 → ez_Z X 132 em_R M 0 0 44 [(0, .ref (ez_B X + o)), (1, .ref (ez_B X + u)), (2, .int same), (3, .int k)] [] := by
  intro fu
  induction fu with
  | zero =>
    intro same k hc hs hT
    exact absurd hc ez_cntz
  | succ fu ih =>
    intro same k hc hs hT
    refine ez_iload_n hX 3 dX4_sameAs_44 rfl ?_
    refine ez_aload_n hX 0 dX4_sameAs_45 rfl ?_
    refine ez_geti hX (ko_0 ho) rfl (Nat.le_of_ble_eq_true rfl) (ko_lt0 ho) (Nat.le_of_ble_eq_true rfl) inX4 rfl wf_X4_25 dX4_sameAs_46 ?_
    refine ez_icmp_ge hX 87 dX4_sameAs_49 (by decide) (fun c2 => ?_) (fun c2 => ?_)
    · -- c2 jump
      refine ez_iload_n hX 2 dX4_sameAs_87 rfl ?_
      have ht : t0 = same := hT.symm.trans (by simp only [et_X4_sameAs_44, if_pos c2])
      subst ht
      exact ez_zret hX hQ dX4_sameAs_88 (by rcases hs with h | h <;> rw [h] <;> rfl) rfl rfl
    · -- c2 on
      refine ez_iload_n hX 2 dX4_sameAs_52 rfl ?_
      refine ez_if_eq hX 87 dX4_sameAs_53 (by decide) (fun c3 => ?_) (fun c3 => ?_)
      · -- c3 jump
        refine ez_iload_n hX 2 dX4_sameAs_87 rfl ?_
        have ht : t0 = same := hT.symm.trans (by simp only [et_X4_sameAs_44, if_neg c2, if_pos c3])
        subst ht
        exact ez_zret hX hQ dX4_sameAs_88 (by rcases hs with h | h <;> rw [h] <;> rfl) rfl rfl
      · -- c3 on
        refine ez_aload_n hX 0 dX4_sameAs_56 rfl ?_
        refine ez_getr hX (ko_0 ho) rfl (Nat.le_of_ble_eq_true rfl) (ko_lt0 ho) (Nat.le_of_ble_eq_true rfl) inX4 (o + 1) rfl (ro_0_4 ho) wf_X4_15 dX4_sameAs_57 ?_
        refine ez_iload_n hX 3 dX4_sameAs_60 rfl ?_
        refine ez_callSN hX (N0 := 0) (As := [.ref (ez_B X + (o + 1)), .int k]) (st := []) (ec_X11_at _ _ _ (o + 1) 40 (ko_1 ho) (ko_lt ho 1 (by decide)) M k) (Or.inl rfl) wm_X4_42 ws_X11_at wy_X11_at rfl wd_X11_at wi_X11 (ez_rok hRm rfl) (Nat.le_of_ble_eq_true rfl) dX4_sameAs_61 ?_
        refine ez_nmI (fun r4 er4 => ?_)
        refine ez_aload_n hX 1 dX4_sameAs_64 rfl ?_
        refine ez_getr hX (ko_0 hu) rfl (Nat.le_of_ble_eq_true rfl) (ko_lt0 hu) (Nat.le_of_ble_eq_true rfl) inX4 (u + 1) rfl (ro_0_4 hu) wf_X4_15 dX4_sameAs_65 ?_
        refine ez_iload_n hX 3 dX4_sameAs_68 rfl ?_
        refine ez_callSN hX (N0 := 0) (As := [.ref (ez_B X + (u + 1)), .int k]) (st := [.int r4]) (ec_X11_at _ _ _ (u + 1) 40 (ko_1 hu) (ko_lt hu 1 (by decide)) M k) (Or.inl rfl) wm_X4_42 ws_X11_at wy_X11_at rfl wd_X11_at wi_X11 (ez_rok hRm rfl) (Nat.le_of_ble_eq_true rfl) dX4_sameAs_69 ?_
        refine ez_nmI (fun r5 er5 => ?_)
        refine ez_icmp_ne hX 79 dX4_sameAs_72 (by decide) (fun c6 => ?_) (fun c6 => ?_)
        · -- c6 jump
          refine ez_iconst hX (0 : Int32) dX4_sameAs_79 (by decide) ?_
          refine ez_istore_n hX [(2, .int (0 : Int32)), (0, .ref (ez_B X + o)), (1, .ref (ez_B X + u)), (3, .int k)] dX4_sameAs_80 (ez_lt hnL rfl) rfl ?_
          refine ez_iinc hX (k + (1 : Int32)) 3 [(3, .int (k + (1 : Int32))), (2, .int (0 : Int32)), (0, .ref (ez_B X + o)), (1, .ref (ez_B X + u))] dX4_sameAs_81 rfl rfl (ez_lt hnL rfl) rfl ?_
          refine ez_goto hX 44 dX4_sameAs_84 (by decide) ?_
          refine ez_lv [2, 3, 1, 0] rfl ?_
          exact ih (0 : Int32) (k + (1 : Int32)) (ez_cnts' hc c2) (by decide) (Eq.trans (by simp only [et_X4_sameAs_44, if_neg c2, if_neg c3, er4, er5, if_neg c6]) hT)
        · -- c6 on
          refine ez_iconst hX (1 : Int32) dX4_sameAs_75 (by decide) ?_
          refine ez_goto hX 80 dX4_sameAs_76 (by decide) ?_
          refine ez_istore_n hX [(2, .int (1 : Int32)), (0, .ref (ez_B X + o)), (1, .ref (ez_B X + u)), (3, .int k)] dX4_sameAs_80 (ez_lt hnL rfl) rfl ?_
          refine ez_iinc hX (k + (1 : Int32)) 3 [(3, .int (k + (1 : Int32))), (2, .int (1 : Int32)), (0, .ref (ez_B X + o)), (1, .ref (ez_B X + u))] dX4_sameAs_81 rfl rfl (ez_lt hnL rfl) rfl ?_
          refine ez_goto hX 44 dX4_sameAs_84 (by decide) ?_
          refine ez_lv [2, 3, 1, 0] rfl ?_
          exact ih (1 : Int32) (k + (1 : Int32)) (ez_cnts' hc c2) (by decide) (Eq.trans (by simp only [et_X4_sameAs_44, if_neg c2, if_neg c3, er4, er5, if_pos c6]) hT)
set_option maxHeartbeats 4000000 in
set_option maxRecDepth 100000 in
theorem ec_X4_sameAs (l : Launch) (D : em_G) (B : Nat) (o : Nat) (ho : eo o) (u : Nat) (hu : eo u) (M : em_M) : em_C l D B yX4_sameAs cX4_sameAs 4 (some .boolean) 2 42 0 0 false [.ref (B + o), .ref (B + u)] 132 em_R M (some (.int (et_X4_sameAs o u M))) 132 em_R (M) := by
  refine em_C_of RX4 [(0, .ref (B + o)), (1, .ref (B + u))] (by decide) rfl rfl (Nat.le_of_ble_eq_true rfl) ?_
  rintro X rfl rfl rfl hRm hnL hnm hsz hX hQ
  obtain ⟨t0, hT⟩ : ∃ tz, et_X4_sameAs o u M = tz := ⟨_, rfl⟩
  rw [hT] at hQ
  refine ez_aload_n hX 0 dX4_sameAs_0 rfl ?_
  refine ez_geti hX (ko_0 ho) rfl (Nat.le_of_ble_eq_true rfl) (ko_lt0 ho) (Nat.le_of_ble_eq_true rfl) inX4 rfl wf_X4_9 dX4_sameAs_1 ?_
  refine ez_aload_n hX 1 dX4_sameAs_4 rfl ?_
  refine ez_geti hX (ko_0 hu) rfl (Nat.le_of_ble_eq_true rfl) (ko_lt0 hu) (Nat.le_of_ble_eq_true rfl) inX4 rfl wf_X4_9 dX4_sameAs_5 ?_
  refine ez_icmp_ne hX 40 dX4_sameAs_8 (by decide) (fun c1 => ?_) (fun c1 => ?_)
  · -- c1 jump
    refine ez_iconst hX (0 : Int32) dX4_sameAs_40 (by decide) ?_
    refine ez_istore_n hX [(2, .int (0 : Int32)), (0, .ref (ez_B X + o)), (1, .ref (ez_B X + u))] dX4_sameAs_41 (ez_lt hnL rfl) rfl ?_
    refine ez_iconst hX (0 : Int32) dX4_sameAs_42 (by decide) ?_
    refine ez_istore_n hX [(3, .int (0 : Int32)), (2, .int (0 : Int32)), (0, .ref (ez_B X + o)), (1, .ref (ez_B X + u))] dX4_sameAs_43 (ez_lt hnL rfl) rfl ?_
    refine ez_lv [2, 3, 1, 0] rfl ?_
    exact el_X4_sameAs_44 X o ho u hu t0 hRm hnL hX M hQ ((M.1 o 3).toNatClampNeg + 1) (0 : Int32) (0 : Int32) (ez_cnt0 _) (by decide) (Eq.trans (by simp only [et_X4_sameAs, if_neg c1]) hT)
  · -- c1 on
    refine ez_aload_n hX 0 dX4_sameAs_11 rfl ?_
    refine ez_geti hX (ko_0 ho) rfl (Nat.le_of_ble_eq_true rfl) (ko_lt0 ho) (Nat.le_of_ble_eq_true rfl) inX4 rfl wf_X4_25 dX4_sameAs_12 ?_
    refine ez_aload_n hX 1 dX4_sameAs_15 rfl ?_
    refine ez_geti hX (ko_0 hu) rfl (Nat.le_of_ble_eq_true rfl) (ko_lt0 hu) (Nat.le_of_ble_eq_true rfl) inX4 rfl wf_X4_25 dX4_sameAs_16 ?_
    refine ez_icmp_ne hX 40 dX4_sameAs_19 (by decide) (fun c7 => ?_) (fun c7 => ?_)
    · -- c7 jump
      refine ez_iconst hX (0 : Int32) dX4_sameAs_40 (by decide) ?_
      refine ez_istore_n hX [(2, .int (0 : Int32)), (0, .ref (ez_B X + o)), (1, .ref (ez_B X + u))] dX4_sameAs_41 (ez_lt hnL rfl) rfl ?_
      refine ez_iconst hX (0 : Int32) dX4_sameAs_42 (by decide) ?_
      refine ez_istore_n hX [(3, .int (0 : Int32)), (2, .int (0 : Int32)), (0, .ref (ez_B X + o)), (1, .ref (ez_B X + u))] dX4_sameAs_43 (ez_lt hnL rfl) rfl ?_
      refine ez_lv [2, 3, 1, 0] rfl ?_
      exact el_X4_sameAs_44 X o ho u hu t0 hRm hnL hX M hQ ((M.1 o 3).toNatClampNeg + 1) (0 : Int32) (0 : Int32) (ez_cnt0 _) (by decide) (Eq.trans (by simp only [et_X4_sameAs, if_pos c1, if_neg c7]) hT)
    · -- c7 on
      refine ez_aload_n hX 0 dX4_sameAs_22 rfl ?_
      refine ez_iconst hX (1 : Int32) dX4_sameAs_23 (by decide) ?_
      refine ez_callV hX (N0 := 0) (As := [.int (1 : Int32)]) (st := []) (ko_0 ho) (Nat.le_of_ble_eq_true rfl) (ko_lt0 ho) rfl (ec_X4_answer _ _ _ o ho M (1 : Int32)) (Or.inl rfl) wm_X4_55 wv_X4_answer we_X4_answer wy_X4_answer rfl wd_X4_answer wi_X4 (ez_rok hRm rfl) (Nat.le_of_ble_eq_true rfl) dX4_sameAs_24 ?_
      refine ez_nmL (fun r8 er8 => ?_)
      refine ez_aload_n hX 1 dX4_sameAs_27 rfl ?_
      refine ez_iconst hX (1 : Int32) dX4_sameAs_28 (by decide) ?_
      refine ez_callV hX (N0 := 0) (As := [.int (1 : Int32)]) (st := [.long r8]) (ko_0 hu) (Nat.le_of_ble_eq_true rfl) (ko_lt0 hu) rfl (ec_X4_answer _ _ _ u hu M (1 : Int32)) (Or.inl rfl) wm_X4_55 wv_X4_answer we_X4_answer wy_X4_answer rfl wd_X4_answer wi_X4 (ez_rok hRm rfl) (Nat.le_of_ble_eq_true rfl) dX4_sameAs_29 ?_
      refine ez_nmL (fun r9 er9 => ?_)
      refine ez_lcmp hX dX4_sameAs_32 ?_
      refine ez_if_ne hX 40 dX4_sameAs_33 (by decide) (fun c10 => ?_) (fun c10 => ?_)
      · -- c10 jump
        refine ez_iconst hX (0 : Int32) dX4_sameAs_40 (by decide) ?_
        refine ez_istore_n hX [(2, .int (0 : Int32)), (0, .ref (ez_B X + o)), (1, .ref (ez_B X + u))] dX4_sameAs_41 (ez_lt hnL rfl) rfl ?_
        refine ez_iconst hX (0 : Int32) dX4_sameAs_42 (by decide) ?_
        refine ez_istore_n hX [(3, .int (0 : Int32)), (2, .int (0 : Int32)), (0, .ref (ez_B X + o)), (1, .ref (ez_B X + u))] dX4_sameAs_43 (ez_lt hnL rfl) rfl ?_
        refine ez_lv [2, 3, 1, 0] rfl ?_
        exact el_X4_sameAs_44 X o ho u hu t0 hRm hnL hX M hQ ((M.1 o 3).toNatClampNeg + 1) (0 : Int32) (0 : Int32) (ez_cnt0 _) (by decide) (Eq.trans (by simp only [et_X4_sameAs, if_pos c1, if_pos c7, er8, er9, if_neg c10]) hT)
      · -- c10 on
        refine ez_iconst hX (1 : Int32) dX4_sameAs_36 (by decide) ?_
        refine ez_goto hX 41 dX4_sameAs_37 (by decide) ?_
        refine ez_istore_n hX [(2, .int (1 : Int32)), (0, .ref (ez_B X + o)), (1, .ref (ez_B X + u))] dX4_sameAs_41 (ez_lt hnL rfl) rfl ?_
        refine ez_iconst hX (0 : Int32) dX4_sameAs_42 (by decide) ?_
        refine ez_istore_n hX [(3, .int (0 : Int32)), (2, .int (1 : Int32)), (0, .ref (ez_B X + o)), (1, .ref (ez_B X + u))] dX4_sameAs_43 (ez_lt hnL rfl) rfl ?_
        refine ez_lv [2, 3, 1, 0] rfl ?_
        exact el_X4_sameAs_44 X o ho u hu t0 hRm hnL hX M hQ ((M.1 o 3).toNatClampNeg + 1) (1 : Int32) (0 : Int32) (ez_cnt0 _) (by decide) (Eq.trans (by simp only [et_X4_sameAs, if_pos c1, if_pos c7, er8, er9, if_pos c10]) hT)

def et_X4_sum_4  (o : Nat)  : Nat → em_M → Int64 → Int32 → Int64
  | 0, _, _, _ => 0
  | fu + 1, M, sum, k =>
  (if (M.1 o 3) ≤ k then sum else let r2 := et_X11_at (o + 1) 40 M k
  et_X4_sum_4 o fu M (sum + (r2).toInt64) (k + (1 : Int32)))
def et_X4_sum  (o : Nat) (M : em_M) : Int64 :=
  et_X4_sum_4 o ((M.1 o 3).toNatClampNeg + 1) M (0 : Int64) (0 : Int32)
set_option maxHeartbeats 4000000 in
set_option maxRecDepth 100000 in
theorem el_X4_sum_4 (X : em_X) (o : Nat) (ho : eo o)   (t0 : Int64) (hRm : ez_rm X = { frames := 1, cells := 0, slots := 0, locals := 21 }) (hnL : ez_nL X = 4) (hX : ez_ok X cX4_sum RX4) (M : em_M) (hQ : ez_ret X (some .long) (some (.long t0)) 132 em_R (M) 0 0) : ∀ (fu : Nat) (sum : Int64) (k : Int32), ez_cnt k (M.1 o 3) fu → et_X4_sum_4 o fu M sum k = t0 → ez_Z X 132 em_R M 0 0 4 [(0, .ref (ez_B X + o)), (1, .long sum), (3, .int k)] [] := by
  intro fu
  induction fu with
  | zero =>
    intro sum k hc hT
    exact absurd hc ez_cntz
  | succ fu ih =>
    intro sum k hc hT
    refine ez_iload_n hX 2 dX4_sum_4 rfl ?_
    refine ez_aload_n hX 0 dX4_sum_5 rfl ?_
    refine ez_geti hX (ko_0 ho) rfl (Nat.le_of_ble_eq_true rfl) (ko_lt0 ho) (Nat.le_of_ble_eq_true rfl) inX4 rfl wf_X4_25 dX4_sum_6 ?_
    refine ez_icmp_ge hX 30 dX4_sum_9 (by decide) (fun c1 => ?_) (fun c1 => ?_)
    · -- c1 jump
      refine ez_lload_n hX 1 dX4_sum_30 rfl ?_
      have ht : t0 = sum := hT.symm.trans (by simp only [et_X4_sum_4, if_pos c1])
      subst ht
      exact ez_lret hX hQ dX4_sum_31 rfl rfl
    · -- c1 on
      refine ez_lload_n hX 1 dX4_sum_12 rfl ?_
      refine ez_aload_n hX 0 dX4_sum_13 rfl ?_
      refine ez_getr hX (ko_0 ho) rfl (Nat.le_of_ble_eq_true rfl) (ko_lt0 ho) (Nat.le_of_ble_eq_true rfl) inX4 (o + 1) rfl (ro_0_4 ho) wf_X4_15 dX4_sum_14 ?_
      refine ez_iload_n hX 2 dX4_sum_17 rfl ?_
      refine ez_callSN hX (N0 := 0) (As := [.ref (ez_B X + (o + 1)), .int k]) (st := [.long sum]) (ec_X11_at _ _ _ (o + 1) 40 (ko_1 ho) (ko_lt ho 1 (by decide)) M k) (Or.inl rfl) wm_X4_42 ws_X11_at wy_X11_at rfl wd_X11_at wi_X11 (ez_rok hRm rfl) (Nat.le_of_ble_eq_true rfl) dX4_sum_18 ?_
      refine ez_nmI (fun r2 er2 => ?_)
      refine ez_i2l hX dX4_sum_21 ?_
      refine ez_ladd hX dX4_sum_22 ?_
      refine ez_lstore_n hX [(1, .long (sum + (r2).toInt64)), (0, .ref (ez_B X + o)), (3, .int k)] dX4_sum_23 (ez_lt hnL rfl) rfl ?_
      refine ez_iinc hX (k + (1 : Int32)) 2 [(3, .int (k + (1 : Int32))), (1, .long (sum + (r2).toInt64)), (0, .ref (ez_B X + o))] dX4_sum_24 rfl rfl (ez_lt hnL rfl) rfl ?_
      refine ez_goto hX 4 dX4_sum_27 (by decide) ?_
      refine ez_lv [2, 1, 0] rfl ?_
      exact ih (sum + (r2).toInt64) (k + (1 : Int32)) (ez_cnts' hc c1) (Eq.trans (by simp only [et_X4_sum_4, if_neg c1, er2]) hT)
set_option maxHeartbeats 4000000 in
set_option maxRecDepth 100000 in
theorem ec_X4_sum (l : Launch) (D : em_G) (B : Nat) (o : Nat) (ho : eo o) (M : em_M) : em_C l D B yX4_sum cX4_sum 4 (some .long) 1 21 0 0 false [.ref (B + o)] 132 em_R M (some (.long (et_X4_sum o M))) 132 em_R (M) := by
  refine em_C_of RX4 [(0, .ref (B + o))] (by decide) rfl rfl (Nat.le_of_ble_eq_true rfl) ?_
  rintro X rfl rfl rfl hRm hnL hnm hsz hX hQ
  obtain ⟨t0, hT⟩ : ∃ tz, et_X4_sum o M = tz := ⟨_, rfl⟩
  rw [hT] at hQ
  refine ez_lconst hX (0 : Int64) dX4_sum_0 (by decide) ?_
  refine ez_lstore_n hX [(1, .long (0 : Int64)), (0, .ref (ez_B X + o))] dX4_sum_1 (ez_lt hnL rfl) rfl ?_
  refine ez_iconst hX (0 : Int32) dX4_sum_2 (by decide) ?_
  refine ez_istore_n hX [(3, .int (0 : Int32)), (1, .long (0 : Int64)), (0, .ref (ez_B X + o))] dX4_sum_3 (ez_lt hnL rfl) rfl ?_
  refine ez_lv [2, 1, 0] rfl ?_
  exact el_X4_sum_4 X o ho t0 hRm hnL hX M hQ ((M.1 o 3).toNatClampNeg + 1) (0 : Int64) (0 : Int32) (ez_cnt0 _) (Eq.trans (by simp only [et_X4_sum]) hT)

def et_X3_start  (w : Nat) (M : em_M) (line : Int32) : em_M :=
  let M1 := et_X4_clear (w + 4) M
  let M2 := et_X7_clear w M1
  let M3 := et_X0_clear w M2
  let M4 := et_X9_clear w M3
  let M5 := em_pI M4 (w + 3) 8 (0 : Int32)
  let M6 := em_pI M5 (w + 3) 9 (0 : Int32)
  let r7 := et_X2_root M6 line
  let M8 := em_pI M6 (w + 3) 10 r7
  let M9 := em_pI M8 (w + 3) 11 (0 : Int32)
  let M10 := em_pI M9 (w + 3) 13 (0 : Int32)
  let M11 := em_pI M10 (w + 3) 14 (0 : Int32)
  M11
set_option maxHeartbeats 4000000 in
set_option maxRecDepth 100000 in
theorem ec_X3_start (l : Launch) (D : em_G) (B : Nat) (w : Nat) (hw : ew w) (M : em_M) (line : Int32) : em_C l D B yX3_start cX3_start 2 none 2 44 0 0 false [.ref (B + (w + 3)), .int line] 132 em_R M (none) 132 em_R ((et_X3_start w M line)) := by
  refine em_C_of RX3 [(0, .ref (B + (w + 3))), (1, .int line)] (by decide) rfl rfl (Nat.le_of_ble_eq_true rfl) ?_
  rintro X rfl rfl rfl hRm hnL hnm hsz hX hQ
  obtain ⟨t0, hT⟩ : ∃ tz, et_X3_start w M line = tz := ⟨_, rfl⟩
  rw [hT] at hQ
  refine ez_aload_n hX 0 dX3_start_0 rfl ?_
  refine ez_getr hX (kw_3 hw) rfl (Nat.le_of_ble_eq_true rfl) (kw_lt hw 3 (by decide)) (Nat.le_of_ble_eq_true rfl) inX3 (w + 4) rfl (rw_3_0 hw) wf_X3_12 dX3_start_1 ?_
  refine ez_callV hX (N0 := 0) (As := []) (st := []) (kw_4 hw) (Nat.le_of_ble_eq_true rfl) (kw_lt hw 4 (by decide)) rfl (ec_X4_clear _ _ _ (w + 4) (ew_eo hw) M) (Or.inl rfl) wm_X3_54 wv_X4_clear we_X4_clear wy_X4_clear rfl wd_X4_clear wi_X4 (ez_rok hRm rfl) (Nat.le_of_ble_eq_true rfl) dX3_start_4 ?_
  refine ez_nmM (fun M1 eM1 => ?_)
  refine ez_aload_n hX 0 dX3_start_7 rfl ?_
  refine ez_getr hX (kw_3 hw) rfl (Nat.le_of_ble_eq_true rfl) (kw_lt hw 3 (by decide)) (Nat.le_of_ble_eq_true rfl) inX3 (w + 6) rfl (rw_3_3 hw) wf_X3_21 dX3_start_8 ?_
  refine ez_callV hX (N0 := 0) (As := []) (st := []) (kw_6 hw) (Nat.le_of_ble_eq_true rfl) (kw_lt hw 6 (by decide)) rfl (ec_X7_clear _ _ _ w hw M1) (Or.inl rfl) wm_X3_57 wv_X7_clear we_X7_clear wy_X7_clear rfl wd_X7_clear wi_X7 (ez_rok hRm rfl) (Nat.le_of_ble_eq_true rfl) dX3_start_11 ?_
  refine ez_nmM (fun M2 eM2 => ?_)
  refine ez_aload_n hX 0 dX3_start_14 rfl ?_
  refine ez_getr hX (kw_3 hw) rfl (Nat.le_of_ble_eq_true rfl) (kw_lt hw 3 (by decide)) (Nat.le_of_ble_eq_true rfl) inX3 (w + 8) rfl (rw_3_4 hw) wf_X3_28 dX3_start_15 ?_
  refine ez_callV hX (N0 := 0) (As := []) (st := []) (kw_8 hw) (Nat.le_of_ble_eq_true rfl) (kw_lt hw 8 (by decide)) rfl (ec_X0_clear _ _ _ w hw M2) (Or.inl rfl) wm_X3_58 wv_X0_clear we_X0_clear wy_X0_clear rfl wd_X0_clear wi_X0 (ez_rok hRm rfl) (Nat.le_of_ble_eq_true rfl) dX3_start_18 ?_
  refine ez_nmM (fun M3 eM3 => ?_)
  refine ez_aload_n hX 0 dX3_start_21 rfl ?_
  refine ez_getr hX (kw_3 hw) rfl (Nat.le_of_ble_eq_true rfl) (kw_lt hw 3 (by decide)) (Nat.le_of_ble_eq_true rfl) inX3 (w + 17) rfl (rw_3_5 hw) wf_X3_35 dX3_start_22 ?_
  refine ez_callV hX (N0 := 0) (As := []) (st := []) (kw_17 hw) (Nat.le_of_ble_eq_true rfl) (kw_lt hw 17 (by decide)) rfl (ec_X9_clear _ _ _ w hw M3) (Or.inl rfl) wm_X3_59 wv_X9_clear we_X9_clear wy_X9_clear rfl wd_X9_clear wi_X9 (ez_rok hRm rfl) (Nat.le_of_ble_eq_true rfl) dX3_start_25 ?_
  refine ez_nmM (fun M4 eM4 => ?_)
  refine ez_aload_n hX 0 dX3_start_28 rfl ?_
  refine ez_iconst hX (0 : Int32) dX3_start_29 (by decide) ?_
  refine ez_puti hX (kw_3 hw) rfl (Nat.le_of_ble_eq_true rfl) (kw_lt hw 3 (by decide)) (Nat.le_of_ble_eq_true rfl) inX3 tyX3 tyX3_ok nmX3 (0 : Int32) rfl wf_X3_60 rfl rfl rfl dX3_start_30 ?_
  refine ez_nmM (fun M5 eM5 => ?_)
  refine ez_aload_n hX 0 dX3_start_33 rfl ?_
  refine ez_iconst hX (0 : Int32) dX3_start_34 (by decide) ?_
  refine ez_puti hX (kw_3 hw) rfl (Nat.le_of_ble_eq_true rfl) (kw_lt hw 3 (by decide)) (Nat.le_of_ble_eq_true rfl) inX3 tyX3 tyX3_ok nmX3 (0 : Int32) rfl wf_X3_64 rfl rfl rfl dX3_start_35 ?_
  refine ez_nmM (fun M6 eM6 => ?_)
  refine ez_aload_n hX 0 dX3_start_38 rfl ?_
  refine ez_aload_n hX 0 dX3_start_39 rfl ?_
  refine ez_getr hX (kw_3 hw) rfl (Nat.le_of_ble_eq_true rfl) (kw_lt hw 3 (by decide)) (Nat.le_of_ble_eq_true rfl) inX3 1 rfl (rw_3_1 hw) wf_X3_46 dX3_start_40 ?_
  refine ez_iload_n hX 1 dX3_start_43 rfl ?_
  refine ez_callV hX (N0 := 0) (As := [.int line]) (st := [.ref (ez_B X + (w + 3))]) kc_1 (Nat.le_of_ble_eq_true rfl) lc_1 rfl (ec_X2_root _ _ _ M6 line) (Or.inl rfl) wm_X3_68 wv_X2_root we_X2_root wy_X2_root rfl wd_X2_root wi_X2 (ez_rok hRm rfl) (Nat.le_of_ble_eq_true rfl) dX3_start_44 ?_
  refine ez_nmI (fun r7 er7 => ?_)
  refine ez_puti hX (kw_3 hw) rfl (Nat.le_of_ble_eq_true rfl) (kw_lt hw 3 (by decide)) (Nat.le_of_ble_eq_true rfl) inX3 tyX3 tyX3_ok nmX3 r7 rfl wf_X3_74 rfl rfl rfl dX3_start_47 ?_
  refine ez_nmM (fun M8 eM8 => ?_)
  refine ez_aload_n hX 0 dX3_start_50 rfl ?_
  refine ez_iconst hX (0 : Int32) dX3_start_51 (by decide) ?_
  refine ez_puti hX (kw_3 hw) rfl (Nat.le_of_ble_eq_true rfl) (kw_lt hw 3 (by decide)) (Nat.le_of_ble_eq_true rfl) inX3 tyX3 tyX3_ok nmX3 (0 : Int32) rfl wf_X3_77 rfl rfl rfl dX3_start_52 ?_
  refine ez_nmM (fun M9 eM9 => ?_)
  refine ez_aload_n hX 0 dX3_start_55 rfl ?_
  refine ez_iconst hX (0 : Int32) dX3_start_56 (by decide) ?_
  refine ez_puti hX (kw_3 hw) rfl (Nat.le_of_ble_eq_true rfl) (kw_lt hw 3 (by decide)) (Nat.le_of_ble_eq_true rfl) inX3 tyX3 tyX3_ok nmX3 (0 : Int32) rfl wf_X3_80 rfl rfl rfl dX3_start_57 ?_
  refine ez_nmM (fun M10 eM10 => ?_)
  refine ez_aload_n hX 0 dX3_start_60 rfl ?_
  refine ez_iconst hX (0 : Int32) dX3_start_61 (by decide) ?_
  refine ez_puti hX (kw_3 hw) rfl (Nat.le_of_ble_eq_true rfl) (kw_lt hw 3 (by decide)) (Nat.le_of_ble_eq_true rfl) inX3 tyX3 tyX3_ok nmX3 (0 : Int32) rfl wf_X3_83 rfl rfl rfl dX3_start_62 ?_
  refine ez_nmM (fun M11 eM11 => ?_)
  have ht : t0 = M11 := hT.symm.trans (by simp only [et_X3_start, eM1, eM2, eM3, eM4, eM5, eM6, er7, eM8, eM9, eM10, eM11])
  subst ht
  exact ez_vret hX hQ dX3_start_65 rfl rfl

def et_X3_state  (w : Nat) (M : em_M) (what : Int32) : Int64 :=
  (if (M.1 (w + 4) 0) = (-5 : Int32) then (if what = (5 : Int32) then let r3 := et_X0_height w M (M.1 (w + 3) 13)
  (r3).toInt64
  else (if what = (6 : Int32) then let r5 := et_X9_height w M (M.1 (w + 3) 14)
  (r5).toInt64
  else (if what = (7 : Int32) then (if (M.1 (w + 3) 9) = 0 then (0 : Int64) else (1 : Int64))
  else (if what = (8 : Int32) then (if (M.1 (w + 3) 13) = 0 then (-5 : Int64) else let r10 := et_X0_sort w M (M.1 (w + 3) 13)
  (r10).toInt64)
  else (-9223372036854775808 : Int64))))) else (-9223372036854775808 : Int64))
set_option maxHeartbeats 4000000 in
set_option maxRecDepth 100000 in
theorem ec_X3_state (l : Launch) (D : em_G) (B : Nat) (w : Nat) (hw : ew w) (M : em_M) (what : Int32) : em_C l D B yX3_state cX3_state 2 (some .long) 2 42 0 0 false [.ref (B + (w + 3)), .int what] 132 em_R M (some (.long (et_X3_state w M what))) 132 em_R (M) := by
  refine em_C_of RX3 [(0, .ref (B + (w + 3))), (1, .int what)] (by decide) rfl rfl (Nat.le_of_ble_eq_true rfl) ?_
  rintro X rfl rfl rfl hRm hnL hnm hsz hX hQ
  obtain ⟨t0, hT⟩ : ∃ tz, et_X3_state w M what = tz := ⟨_, rfl⟩
  rw [hT] at hQ
  refine ez_aload_n hX 0 dX3_state_0 rfl ?_
  refine ez_getr hX (kw_3 hw) rfl (Nat.le_of_ble_eq_true rfl) (kw_lt hw 3 (by decide)) (Nat.le_of_ble_eq_true rfl) inX3 (w + 4) rfl (rw_3_0 hw) wf_X3_12 dX3_state_1 ?_
  refine ez_geti hX (kw_4 hw) rfl (Nat.le_of_ble_eq_true rfl) (kw_lt hw 4 (by decide)) (Nat.le_of_ble_eq_true rfl) inX4 rfl wf_X3_86 dX3_state_4 ?_
  refine ez_bipush hX (-5 : Int32) dX3_state_7 (by decide) ?_
  refine ez_icmp_eq hX 16 dX3_state_9 (by decide) (fun c1 => ?_) (fun c1 => ?_)
  · -- c1 jump
    refine ez_iload_n hX 1 dX3_state_16 rfl ?_
    by_cases c2 : what = (5 : Int32)
    · have cx : (what).toInt = 5 := by rw [c2]; rfl
      refine ez_tsIn hX (5) (31) 48 dX3_state_17 cx ⟨by decide, by decide, rfl, by decide⟩ ?_
      refine ez_aload_n hX 0 dX3_state_48 rfl ?_
      refine ez_getr hX (kw_3 hw) rfl (Nat.le_of_ble_eq_true rfl) (kw_lt hw 3 (by decide)) (Nat.le_of_ble_eq_true rfl) inX3 (w + 8) rfl (rw_3_4 hw) wf_X3_28 dX3_state_49 ?_
      refine ez_aload_n hX 0 dX3_state_52 rfl ?_
      refine ez_geti hX (kw_3 hw) rfl (Nat.le_of_ble_eq_true rfl) (kw_lt hw 3 (by decide)) (Nat.le_of_ble_eq_true rfl) inX3 rfl wf_X3_80 dX3_state_53 ?_
      refine ez_callV hX (N0 := 0) (As := [.int (M.1 (w + 3) 13)]) (st := []) (kw_8 hw) (Nat.le_of_ble_eq_true rfl) (kw_lt hw 8 (by decide)) rfl (ec_X0_height _ _ _ w hw M (M.1 (w + 3) 13)) (Or.inl rfl) wm_X3_100 wv_X0_height we_X0_height wy_X0_height rfl wd_X0_height wi_X0 (ez_rok hRm rfl) (Nat.le_of_ble_eq_true rfl) dX3_state_56 ?_
      refine ez_nmI (fun r3 er3 => ?_)
      refine ez_i2l hX dX3_state_59 ?_
      have ht : t0 = (r3).toInt64 := hT.symm.trans (by simp only [et_X3_state, if_pos c1, if_pos c2, er3])
      subst ht
      exact ez_lret hX hQ dX3_state_60 rfl rfl
    · skip
      by_cases c4 : what = (6 : Int32)
      · have cx : (what).toInt = 6 := by rw [c4]; rfl
        refine ez_tsIn hX (6) (44) 61 dX3_state_17 cx ⟨by decide, by decide, rfl, by decide⟩ ?_
        refine ez_aload_n hX 0 dX3_state_61 rfl ?_
        refine ez_getr hX (kw_3 hw) rfl (Nat.le_of_ble_eq_true rfl) (kw_lt hw 3 (by decide)) (Nat.le_of_ble_eq_true rfl) inX3 (w + 17) rfl (rw_3_5 hw) wf_X3_35 dX3_state_62 ?_
        refine ez_aload_n hX 0 dX3_state_65 rfl ?_
        refine ez_geti hX (kw_3 hw) rfl (Nat.le_of_ble_eq_true rfl) (kw_lt hw 3 (by decide)) (Nat.le_of_ble_eq_true rfl) inX3 rfl wf_X3_83 dX3_state_66 ?_
        refine ez_callV hX (N0 := 0) (As := [.int (M.1 (w + 3) 14)]) (st := []) (kw_17 hw) (Nat.le_of_ble_eq_true rfl) (kw_lt hw 17 (by decide)) rfl (ec_X9_height _ _ _ w hw M (M.1 (w + 3) 14)) (Or.inl rfl) wm_X3_103 wv_X9_height we_X9_height wy_X9_height rfl wd_X9_height wi_X9 (ez_rok hRm rfl) (Nat.le_of_ble_eq_true rfl) dX3_state_69 ?_
        refine ez_nmI (fun r5 er5 => ?_)
        refine ez_i2l hX dX3_state_72 ?_
        have ht : t0 = (r5).toInt64 := hT.symm.trans (by simp only [et_X3_state, if_pos c1, if_neg c2, if_pos c4, er5])
        subst ht
        exact ez_lret hX hQ dX3_state_73 rfl rfl
      · skip
        by_cases c6 : what = (7 : Int32)
        · have cx : (what).toInt = 7 := by rw [c6]; rfl
          refine ez_tsIn hX (7) (57) 74 dX3_state_17 cx ⟨by decide, by decide, rfl, by decide⟩ ?_
          refine ez_aload_n hX 0 dX3_state_74 rfl ?_
          refine ez_geti hX (kw_3 hw) rfl (Nat.le_of_ble_eq_true rfl) (kw_lt hw 3 (by decide)) (Nat.le_of_ble_eq_true rfl) inX3 rfl wf_X3_64 dX3_state_75 ?_
          refine ez_if_eq hX 85 dX3_state_78 (by decide) (fun c7 => ?_) (fun c7 => ?_)
          · -- c7 jump
            refine ez_lconst hX (0 : Int64) dX3_state_85 (by decide) ?_
            have ht : t0 = (0 : Int64) := hT.symm.trans (by simp only [et_X3_state, if_pos c1, if_neg c2, if_neg c4, if_pos c6, if_pos c7])
            subst ht
            exact ez_lret hX hQ dX3_state_86 rfl rfl
          · -- c7 on
            refine ez_lconst hX (1 : Int64) dX3_state_81 (by decide) ?_
            refine ez_goto hX 86 dX3_state_82 (by decide) ?_
            have ht : t0 = (1 : Int64) := hT.symm.trans (by simp only [et_X3_state, if_pos c1, if_neg c2, if_neg c4, if_pos c6, if_neg c7])
            subst ht
            exact ez_lret hX hQ dX3_state_86 rfl rfl
        · skip
          by_cases c8 : what = (8 : Int32)
          · have cx : (what).toInt = 8 := by rw [c8]; rfl
            refine ez_tsIn hX (8) (70) 87 dX3_state_17 cx ⟨by decide, by decide, rfl, by decide⟩ ?_
            refine ez_aload_n hX 0 dX3_state_87 rfl ?_
            refine ez_geti hX (kw_3 hw) rfl (Nat.le_of_ble_eq_true rfl) (kw_lt hw 3 (by decide)) (Nat.le_of_ble_eq_true rfl) inX3 rfl wf_X3_80 dX3_state_88 ?_
            refine ez_if_ne hX 100 dX3_state_91 (by decide) (fun c9 => ?_) (fun c9 => ?_)
            · -- c9 jump
              refine ez_aload_n hX 0 dX3_state_100 rfl ?_
              refine ez_getr hX (kw_3 hw) rfl (Nat.le_of_ble_eq_true rfl) (kw_lt hw 3 (by decide)) (Nat.le_of_ble_eq_true rfl) inX3 (w + 8) rfl (rw_3_4 hw) wf_X3_28 dX3_state_101 ?_
              refine ez_aload_n hX 0 dX3_state_104 rfl ?_
              refine ez_geti hX (kw_3 hw) rfl (Nat.le_of_ble_eq_true rfl) (kw_lt hw 3 (by decide)) (Nat.le_of_ble_eq_true rfl) inX3 rfl wf_X3_80 dX3_state_105 ?_
              refine ez_callV hX (N0 := 0) (As := [.int (M.1 (w + 3) 13)]) (st := []) (kw_8 hw) (Nat.le_of_ble_eq_true rfl) (kw_lt hw 8 (by decide)) rfl (ec_X0_sort _ _ _ w hw M (M.1 (w + 3) 13)) (Or.inl rfl) wm_X3_106 wv_X0_sort we_X0_sort wy_X0_sort rfl wd_X0_sort wi_X0 (ez_rok hRm rfl) (Nat.le_of_ble_eq_true rfl) dX3_state_108 ?_
              refine ez_nmI (fun r10 er10 => ?_)
              refine ez_i2l hX dX3_state_111 ?_
              have ht : t0 = (r10).toInt64 := hT.symm.trans (by simp only [et_X3_state, if_pos c1, if_neg c2, if_neg c4, if_neg c6, if_pos c8, if_neg c9, er10])
              subst ht
              exact ez_lret hX hQ dX3_state_112 rfl rfl
            · -- c9 on
              refine ez_ldc2 hX wl_X3_104 dX3_state_94 ?_
              refine ez_goto hX 112 dX3_state_97 (by decide) ?_
              have ht : t0 = (-5 : Int64) := hT.symm.trans (by simp only [et_X3_state, if_pos c1, if_neg c2, if_neg c4, if_neg c6, if_pos c8, if_pos c9])
              subst ht
              exact ez_lret hX hQ dX3_state_112 rfl rfl
          · skip
            refine ez_tsD hX [5, 6, 7, 8] 113 dX3_state_17 (List.forall_mem_cons.mpr ⟨lv_neT c2 rfl, (List.forall_mem_cons.mpr ⟨lv_neT c4 rfl, (List.forall_mem_cons.mpr ⟨lv_neT c6 rfl, (List.forall_mem_cons.mpr ⟨lv_neT c8 rfl, (fun _ h => absurd h List.not_mem_nil)⟩)⟩)⟩)⟩) (by decide +kernel) (by decide) ?_
            refine ez_ldc2 hX wl_X3_98 dX3_state_113 ?_
            have ht : t0 = (-9223372036854775808 : Int64) := hT.symm.trans (by simp only [et_X3_state, if_pos c1, if_neg c2, if_neg c4, if_neg c6, if_neg c8])
            subst ht
            exact ez_lret hX hQ dX3_state_116 rfl rfl
  · -- c1 on
    refine ez_ldc2 hX wl_X3_98 dX3_state_12 ?_
    have ht : t0 = (-9223372036854775808 : Int64) := hT.symm.trans (by simp only [et_X3_state, if_neg c1])
    subst ht
    exact ez_lret hX hQ dX3_state_15 rfl rfl

def et_X3_give  (w : Nat) (M : em_M) (v : Int64) : em_M :=
  let M1 := em_pL M (w + 3) 12 v
  let M2 := em_pI M1 (w + 3) 9 (1 : Int32)
  M2
set_option maxHeartbeats 4000000 in
set_option maxRecDepth 100000 in
theorem ec_X3_give (l : Launch) (D : em_G) (B : Nat) (w : Nat) (hw : ew w) (M : em_M) (v : Int64) : em_C l D B yX3_give cX3_give 3 none 0 0 0 0 false [.ref (B + (w + 3)), .long v] 132 em_R M (none) 132 em_R ((et_X3_give w M v)) := by
  refine em_C_of RX3 [(0, .ref (B + (w + 3))), (1, .long v)] (by decide) rfl rfl (Nat.le_of_ble_eq_true rfl) ?_
  rintro X rfl rfl rfl hRm hnL hnm hsz hX hQ
  obtain ⟨t0, hT⟩ : ∃ tz, et_X3_give w M v = tz := ⟨_, rfl⟩
  rw [hT] at hQ
  refine ez_aload_n hX 0 dX3_give_0 rfl ?_
  refine ez_lload_n hX 1 dX3_give_1 rfl ?_
  refine ez_putl hX (kw_3 hw) rfl (Nat.le_of_ble_eq_true rfl) (kw_lt hw 3 (by decide)) (Nat.le_of_ble_eq_true rfl) inX3 tyX3 tyX3_ok nmX3 v rfl wf_X3_155 rfl rfl rfl dX3_give_2 ?_
  refine ez_nmM (fun M1 eM1 => ?_)
  refine ez_aload_n hX 0 dX3_give_5 rfl ?_
  refine ez_iconst hX (1 : Int32) dX3_give_6 (by decide) ?_
  refine ez_puti hX (kw_3 hw) rfl (Nat.le_of_ble_eq_true rfl) (kw_lt hw 3 (by decide)) (Nat.le_of_ble_eq_true rfl) inX3 tyX3 tyX3_ok nmX3 (1 : Int32) rfl wf_X3_64 rfl rfl rfl dX3_give_7 ?_
  refine ez_nmM (fun M2 eM2 => ?_)
  have ht : t0 = M2 := hT.symm.trans (by simp only [et_X3_give, eM1, eM2])
  subst ht
  exact ez_vret hX hQ dX3_give_10 rfl rfl

def et_X3_workOn  (w : Nat) (M : em_M) (k : Int32) : em_M :=
  let r1 := et_X2_part M (M.1 (w + 3) 10) k
  let M2 := em_pI M (w + 3) 10 r1
  let M3 := em_pI M2 (w + 3) 9 (0 : Int32)
  M3
set_option maxHeartbeats 4000000 in
set_option maxRecDepth 100000 in
theorem ec_X3_workOn (l : Launch) (D : em_G) (B : Nat) (w : Nat) (hw : ew w) (M : em_M) (k : Int32) : em_C l D B yX3_workOn cX3_workOn 2 none 2 43 0 0 false [.ref (B + (w + 3)), .int k] 132 em_R M (none) 132 em_R ((et_X3_workOn w M k)) := by
  refine em_C_of RX3 [(0, .ref (B + (w + 3))), (1, .int k)] (by decide) rfl rfl (Nat.le_of_ble_eq_true rfl) ?_
  rintro X rfl rfl rfl hRm hnL hnm hsz hX hQ
  obtain ⟨t0, hT⟩ : ∃ tz, et_X3_workOn w M k = tz := ⟨_, rfl⟩
  rw [hT] at hQ
  refine ez_aload_n hX 0 dX3_workOn_0 rfl ?_
  refine ez_aload_n hX 0 dX3_workOn_1 rfl ?_
  refine ez_getr hX (kw_3 hw) rfl (Nat.le_of_ble_eq_true rfl) (kw_lt hw 3 (by decide)) (Nat.le_of_ble_eq_true rfl) inX3 1 rfl (rw_3_1 hw) wf_X3_46 dX3_workOn_2 ?_
  refine ez_aload_n hX 0 dX3_workOn_5 rfl ?_
  refine ez_geti hX (kw_3 hw) rfl (Nat.le_of_ble_eq_true rfl) (kw_lt hw 3 (by decide)) (Nat.le_of_ble_eq_true rfl) inX3 rfl wf_X3_74 dX3_workOn_6 ?_
  refine ez_iload_n hX 1 dX3_workOn_9 rfl ?_
  refine ez_callV hX (N0 := 0) (As := [.int (M.1 (w + 3) 10), .int k]) (st := [.ref (ez_B X + (w + 3))]) kc_1 (Nat.le_of_ble_eq_true rfl) lc_1 rfl (ec_X2_part _ _ _ M (M.1 (w + 3) 10) k) (Or.inl rfl) wm_X3_135 wv_X2_part we_X2_part wy_X2_part rfl wd_X2_part wi_X2 (ez_rok hRm rfl) (Nat.le_of_ble_eq_true rfl) dX3_workOn_10 ?_
  refine ez_nmI (fun r1 er1 => ?_)
  refine ez_puti hX (kw_3 hw) rfl (Nat.le_of_ble_eq_true rfl) (kw_lt hw 3 (by decide)) (Nat.le_of_ble_eq_true rfl) inX3 tyX3 tyX3_ok nmX3 r1 rfl wf_X3_74 rfl rfl rfl dX3_workOn_13 ?_
  refine ez_nmM (fun M2 eM2 => ?_)
  refine ez_aload_n hX 0 dX3_workOn_16 rfl ?_
  refine ez_iconst hX (0 : Int32) dX3_workOn_17 (by decide) ?_
  refine ez_puti hX (kw_3 hw) rfl (Nat.le_of_ble_eq_true rfl) (kw_lt hw 3 (by decide)) (Nat.le_of_ble_eq_true rfl) inX3 tyX3 tyX3_ok nmX3 (0 : Int32) rfl wf_X3_64 rfl rfl rfl dX3_workOn_18 ?_
  refine ez_nmM (fun M3 eM3 => ?_)
  have ht : t0 = M3 := hT.symm.trans (by simp only [et_X3_workOn, er1, eM2, eM3])
  subst ht
  exact ez_vret hX hQ dX3_workOn_21 rfl rfl

def et_X3_lookUp  (w : Nat) (M : em_M) (name : Int32) : Int64 :=
  let r1 := et_X7_thing w M (M.1 (w + 3) 11) name
  (if (lg_cmp r1 (-9223372036854775808 : Int64)) = 0 then let r3 := et_X11_at (w + 1) 4 M name
  (r3).toInt64 else r1)
set_option maxHeartbeats 4000000 in
set_option maxRecDepth 100000 in
theorem ec_X3_lookUp (l : Launch) (D : em_G) (B : Nat) (w : Nat) (hw : ew w) (M : em_M) (name : Int32) : em_C l D B yX3_lookUp cX3_lookUp 4 (some .long) 2 43 0 0 false [.ref (B + (w + 3)), .int name] 132 em_R M (some (.long (et_X3_lookUp w M name))) 132 em_R (M) := by
  refine em_C_of RX3 [(0, .ref (B + (w + 3))), (1, .int name)] (by decide) rfl rfl (Nat.le_of_ble_eq_true rfl) ?_
  rintro X rfl rfl rfl hRm hnL hnm hsz hX hQ
  obtain ⟨t0, hT⟩ : ∃ tz, et_X3_lookUp w M name = tz := ⟨_, rfl⟩
  rw [hT] at hQ
  refine ez_aload_n hX 0 dX3_lookUp_0 rfl ?_
  refine ez_getr hX (kw_3 hw) rfl (Nat.le_of_ble_eq_true rfl) (kw_lt hw 3 (by decide)) (Nat.le_of_ble_eq_true rfl) inX3 (w + 6) rfl (rw_3_3 hw) wf_X3_21 dX3_lookUp_1 ?_
  refine ez_aload_n hX 0 dX3_lookUp_4 rfl ?_
  refine ez_geti hX (kw_3 hw) rfl (Nat.le_of_ble_eq_true rfl) (kw_lt hw 3 (by decide)) (Nat.le_of_ble_eq_true rfl) inX3 rfl wf_X3_77 dX3_lookUp_5 ?_
  refine ez_iload_n hX 1 dX3_lookUp_8 rfl ?_
  refine ez_callV hX (N0 := 0) (As := [.int (M.1 (w + 3) 11), .int name]) (st := []) (kw_6 hw) (Nat.le_of_ble_eq_true rfl) (kw_lt hw 6 (by decide)) rfl (ec_X7_thing _ _ _ w hw M (M.1 (w + 3) 11) name) (Or.inl rfl) wm_X3_227 wv_X7_thing we_X7_thing wy_X7_thing rfl wd_X7_thing wi_X7 (ez_rok hRm rfl) (Nat.le_of_ble_eq_true rfl) dX3_lookUp_9 ?_
  refine ez_nmL (fun r1 er1 => ?_)
  refine ez_lstore_n hX [(2, .long r1), (0, .ref (ez_B X + (w + 3))), (1, .int name)] dX3_lookUp_12 (ez_lt hnL rfl) rfl ?_
  refine ez_lload_n hX 0 dX3_lookUp_13 rfl ?_
  refine ez_ldc2 hX wl_X3_98 dX3_lookUp_14 ?_
  refine ez_lcmp hX dX3_lookUp_17 ?_
  refine ez_if_ne hX 36 dX3_lookUp_18 (by decide) (fun c2 => ?_) (fun c2 => ?_)
  · -- c2 jump
    refine ez_lload_n hX 0 dX3_lookUp_36 rfl ?_
    have ht : t0 = r1 := hT.symm.trans (by simp only [et_X3_lookUp, er1, if_neg c2])
    subst ht
    exact ez_lret hX hQ dX3_lookUp_37 rfl rfl
  · -- c2 on
    refine ez_aload_n hX 1 dX3_lookUp_21 rfl ?_
    refine ez_getr hX (kw_3 hw) rfl (Nat.le_of_ble_eq_true rfl) (kw_lt hw 3 (by decide)) (Nat.le_of_ble_eq_true rfl) inX3 w rfl (rw_3_2 hw) wf_X3_50 dX3_lookUp_22 ?_
    refine ez_getr hX (kw_0 hw) rfl (Nat.le_of_ble_eq_true rfl) (kw_lt0 hw) (Nat.le_of_ble_eq_true rfl) inX10 (w + 1) rfl (rw_0_0 hw) wf_X3_194 dX3_lookUp_25 ?_
    refine ez_iload_n hX 2 dX3_lookUp_28 rfl ?_
    refine ez_callSN hX (N0 := 0) (As := [.ref (ez_B X + (w + 1)), .int name]) (st := []) (ec_X11_at _ _ _ (w + 1) 4 (kw_1 hw) (kw_lt hw 1 (by decide)) M name) (Or.inl rfl) wm_X3_177 ws_X11_at wy_X11_at rfl wd_X11_at wi_X11 (ez_rok hRm rfl) (Nat.le_of_ble_eq_true rfl) dX3_lookUp_29 ?_
    refine ez_nmI (fun r3 er3 => ?_)
    refine ez_i2l hX dX3_lookUp_32 ?_
    refine ez_goto hX 37 dX3_lookUp_33 (by decide) ?_
    have ht : t0 = (r3).toInt64 := hT.symm.trans (by simp only [et_X3_lookUp, er1, if_pos c2, er3])
    subst ht
    exact ez_lret hX hQ dX3_lookUp_37 rfl rfl

def et_X3_made  (M : em_M) (sign : Int32) (left : Int32) (right : Int32) : Int32 :=
  (if sign = (42 : Int32) then (left * right)
  else (if sign = (43 : Int32) then (left + right)
  else (if sign = (45 : Int32) then (left - right)
  else (if right ≤ left then (0 : Int32) else (1 : Int32)))))
set_option maxHeartbeats 4000000 in
set_option maxRecDepth 100000 in
theorem ec_X3_made (l : Launch) (D : em_G) (B : Nat) (M : em_M) (sign : Int32) (left : Int32) (right : Int32) : em_C l D B yX3_made cX3_made 3 (some .int) 0 0 0 0 false [.int sign, .int left, .int right] 132 em_R M (some (.int (et_X3_made M sign left right))) 132 em_R (M) := by
  refine em_C_of RX3 [(0, .int sign), (1, .int left), (2, .int right)] (by decide) rfl rfl (Nat.le_of_ble_eq_true rfl) ?_
  rintro X rfl rfl rfl hRm hnL hnm hsz hX hQ
  obtain ⟨t0, hT⟩ : ∃ tz, et_X3_made M sign left right = tz := ⟨_, rfl⟩
  rw [hT] at hQ
  refine ez_iload_n hX 0 dX3_made_0 rfl ?_
  by_cases c1 : sign = (42 : Int32)
  · have cx : (sign).toInt = 42 := by rw [c1]; rfl
    refine ez_tsIn hX (42) (39) 40 dX3_made_1 cx ⟨by decide, by decide, rfl, by decide⟩ ?_
    refine ez_iload_n hX 1 dX3_made_40 rfl ?_
    refine ez_iload_n hX 2 dX3_made_41 rfl ?_
    refine ez_imul hX dX3_made_42 ?_
    have ht : t0 = (left * right) := hT.symm.trans (by simp only [et_X3_made, if_pos c1])
    subst ht
    exact ez_iret hX hQ dX3_made_43 rfl rfl
  · skip
    by_cases c2 : sign = (43 : Int32)
    · have cx : (sign).toInt = 43 := by rw [c2]; rfl
      refine ez_tsIn hX (43) (31) 32 dX3_made_1 cx ⟨by decide, by decide, rfl, by decide⟩ ?_
      refine ez_iload_n hX 1 dX3_made_32 rfl ?_
      refine ez_iload_n hX 2 dX3_made_33 rfl ?_
      refine ez_iadd hX dX3_made_34 ?_
      have ht : t0 = (left + right) := hT.symm.trans (by simp only [et_X3_made, if_neg c1, if_pos c2])
      subst ht
      exact ez_iret hX hQ dX3_made_35 rfl rfl
    · skip
      by_cases c3 : sign = (45 : Int32)
      · have cx : (sign).toInt = 45 := by rw [c3]; rfl
        refine ez_tsIn hX (45) (35) 36 dX3_made_1 cx ⟨by decide, by decide, rfl, by decide⟩ ?_
        refine ez_iload_n hX 1 dX3_made_36 rfl ?_
        refine ez_iload_n hX 2 dX3_made_37 rfl ?_
        refine ez_isub hX dX3_made_38 ?_
        have ht : t0 = (left - right) := hT.symm.trans (by simp only [et_X3_made, if_neg c1, if_neg c2, if_pos c3])
        subst ht
        exact ez_iret hX hQ dX3_made_39 rfl rfl
      · skip
        refine ez_tsD hX [42, 43, 45] 44 dX3_made_1 (List.forall_mem_cons.mpr ⟨lv_neT c1 rfl, (List.forall_mem_cons.mpr ⟨lv_neT c2 rfl, (List.forall_mem_cons.mpr ⟨lv_neT c3 rfl, (fun _ h => absurd h List.not_mem_nil)⟩)⟩)⟩) (by decide +kernel) (by decide) ?_
        refine ez_iload_n hX 1 dX3_made_44 rfl ?_
        refine ez_iload_n hX 2 dX3_made_45 rfl ?_
        refine ez_icmp_ge hX 53 dX3_made_46 (by decide) (fun c4 => ?_) (fun c4 => ?_)
        · -- c4 jump
          refine ez_iconst hX (0 : Int32) dX3_made_53 (by decide) ?_
          have ht : t0 = (0 : Int32) := hT.symm.trans (by simp only [et_X3_made, if_neg c1, if_neg c2, if_neg c3, if_pos c4])
          subst ht
          exact ez_iret hX hQ dX3_made_54 rfl rfl
        · -- c4 on
          refine ez_iconst hX (1 : Int32) dX3_made_49 (by decide) ?_
          refine ez_goto hX 54 dX3_made_50 (by decide) ?_
          have ht : t0 = (1 : Int32) := hT.symm.trans (by simp only [et_X3_made, if_neg c1, if_neg c2, if_neg c3, if_neg c4])
          subst ht
          exact ez_iret hX hQ dX3_made_54 rfl rfl

def et_X3_caught  (w : Nat) (M : em_M) : Int64 × em_M :=
  let M1 := em_pI M (w + 3) 8 ((M.1 (w + 3) 8) + (1 : Int32))
  let M2 := et_X11_put (w + 22) 301 M1 (M.1 (w + 3) 8) (M1.1 (w + 3) 13)
  let M3 := et_X11_put (w + 23) 301 M2 (M.1 (w + 3) 8) (M2.1 (w + 3) 14)
  (((4294967296 : Int64) + ((M.1 (w + 3) 8)).toInt64), M3)
set_option maxHeartbeats 4000000 in
set_option maxRecDepth 100000 in
theorem ec_X3_caught (l : Launch) (D : em_G) (B : Nat) (w : Nat) (hw : ew w) (M : em_M) : em_C l D B yX3_caught cX3_caught 2 (some .long) 1 22 0 0 false [.ref (B + (w + 3))] 132 em_R M (some (.long (et_X3_caught w M).1)) 132 em_R ((et_X3_caught w M).2) := by
  refine em_C_of RX3 [(0, .ref (B + (w + 3)))] (by decide) rfl rfl (Nat.le_of_ble_eq_true rfl) ?_
  rintro X rfl rfl rfl hRm hnL hnm hsz hX hQ
  obtain ⟨t0, hT⟩ : ∃ tz, et_X3_caught w M = tz := ⟨_, rfl⟩
  rw [hT] at hQ
  refine ez_aload_n hX 0 dX3_caught_0 rfl ?_
  refine ez_geti hX (kw_3 hw) rfl (Nat.le_of_ble_eq_true rfl) (kw_lt hw 3 (by decide)) (Nat.le_of_ble_eq_true rfl) inX3 rfl wf_X3_60 dX3_caught_1 ?_
  refine ez_istore_n hX [(1, .int (M.1 (w + 3) 8)), (0, .ref (ez_B X + (w + 3)))] dX3_caught_4 (ez_lt hnL rfl) rfl ?_
  refine ez_aload_n hX 1 dX3_caught_5 rfl ?_
  refine ez_dup hX dX3_caught_6 rfl ?_
  refine ez_geti hX (kw_3 hw) rfl (Nat.le_of_ble_eq_true rfl) (kw_lt hw 3 (by decide)) (Nat.le_of_ble_eq_true rfl) inX3 rfl wf_X3_60 dX3_caught_7 ?_
  refine ez_iconst hX (1 : Int32) dX3_caught_10 (by decide) ?_
  refine ez_iadd hX dX3_caught_11 ?_
  refine ez_puti hX (kw_3 hw) rfl (Nat.le_of_ble_eq_true rfl) (kw_lt hw 3 (by decide)) (Nat.le_of_ble_eq_true rfl) inX3 tyX3 tyX3_ok nmX3 ((M.1 (w + 3) 8) + (1 : Int32)) rfl wf_X3_60 rfl rfl rfl dX3_caught_12 ?_
  refine ez_nmM (fun M1 eM1 => ?_)
  refine ez_aload_n hX 1 dX3_caught_15 rfl ?_
  refine ez_getr hX (kw_3 hw) rfl (Nat.le_of_ble_eq_true rfl) (kw_lt hw 3 (by decide)) (Nat.le_of_ble_eq_true rfl) inX3 (w + 22) rfl (rw_3_6 hw) wf_X3_39 dX3_caught_16 ?_
  refine ez_iload_n hX 0 dX3_caught_19 rfl ?_
  refine ez_aload_n hX 1 dX3_caught_20 rfl ?_
  refine ez_geti hX (kw_3 hw) rfl (Nat.le_of_ble_eq_true rfl) (kw_lt hw 3 (by decide)) (Nat.le_of_ble_eq_true rfl) inX3 rfl wf_X3_80 dX3_caught_21 ?_
  refine ez_callSN hX (N0 := 0) (As := [.ref (ez_B X + (w + 22)), .int (M.1 (w + 3) 8), .int (M1.1 (w + 3) 13)]) (st := []) (ec_X11_put _ _ _ (w + 22) 301 (kw_22 hw) (kw_lt hw 22 (by decide)) M1 (M.1 (w + 3) 8) (M1.1 (w + 3) 13)) (Or.inl rfl) wm_X3_197 ws_X11_put wy_X11_put rfl wd_X11_put wi_X11 (ez_rok hRm rfl) (Nat.le_of_ble_eq_true rfl) dX3_caught_24 ?_
  refine ez_nmM (fun M2 eM2 => ?_)
  refine ez_aload_n hX 1 dX3_caught_27 rfl ?_
  refine ez_getr hX (kw_3 hw) rfl (Nat.le_of_ble_eq_true rfl) (kw_lt hw 3 (by decide)) (Nat.le_of_ble_eq_true rfl) inX3 (w + 23) rfl (rw_3_7 hw) wf_X3_43 dX3_caught_28 ?_
  refine ez_iload_n hX 0 dX3_caught_31 rfl ?_
  refine ez_aload_n hX 1 dX3_caught_32 rfl ?_
  refine ez_geti hX (kw_3 hw) rfl (Nat.le_of_ble_eq_true rfl) (kw_lt hw 3 (by decide)) (Nat.le_of_ble_eq_true rfl) inX3 rfl wf_X3_83 dX3_caught_33 ?_
  refine ez_callSN hX (N0 := 0) (As := [.ref (ez_B X + (w + 23)), .int (M.1 (w + 3) 8), .int (M2.1 (w + 3) 14)]) (st := []) (ec_X11_put _ _ _ (w + 23) 301 (kw_23 hw) (kw_lt hw 23 (by decide)) M2 (M.1 (w + 3) 8) (M2.1 (w + 3) 14)) (Or.inl rfl) wm_X3_197 ws_X11_put wy_X11_put rfl wd_X11_put wi_X11 (ez_rok hRm rfl) (Nat.le_of_ble_eq_true rfl) dX3_caught_36 ?_
  refine ez_nmM (fun M3 eM3 => ?_)
  refine ez_ldc2 hX wl_X3_149 dX3_caught_39 ?_
  refine ez_iload_n hX 0 dX3_caught_42 rfl ?_
  refine ez_i2l hX dX3_caught_43 ?_
  refine ez_ladd hX dX3_caught_44 ?_
  have ht : t0 = (((4294967296 : Int64) + ((M.1 (w + 3) 8)).toInt64), M3) := hT.symm.trans (by simp only [et_X3_caught, eM1, eM2, eM3])
  subst ht
  exact ez_lret hX hQ dX3_caught_45 rfl rfl

def et_X3_comes  (w : Nat) (M : em_M) (sort : Int32) (behind : Int32) : Int32 × em_M :=
  let q3 := et_X0_add w M (M.1 (w + 3) 13) sort behind (M.1 (w + 3) 10) (M.1 (w + 3) 11)
  let r1 := q3.1
  let M2 := q3.2
  (if r1 = 0 then let M9 := em_pI M2 (w + 4) 0 (4 : Int32)
  ((0 : Int32), M9) else let M5 := em_pI M2 (w + 3) 13 r1
  let r6 := et_X0_height w M5 r1
  let r7 : Int32 := (if (M5.1 (w + 4) 2) < r6 then r6 else (M5.1 (w + 4) 2))
  let M8 := em_pI M5 (w + 4) 2 r7
  (r1, M8))
set_option maxHeartbeats 4000000 in
set_option maxRecDepth 100000 in
theorem ec_X3_comes (l : Launch) (D : em_G) (B : Nat) (w : Nat) (hw : ew w) (M : em_M) (sort : Int32) (behind : Int32) : em_C l D B yX3_comes cX3_comes 4 (some .int) 2 50 0 0 false [.ref (B + (w + 3)), .int sort, .int behind] 132 em_R M (some (.int (et_X3_comes w M sort behind).1)) 132 em_R ((et_X3_comes w M sort behind).2) := by
  refine em_C_of RX3 [(0, .ref (B + (w + 3))), (1, .int sort), (2, .int behind)] (by decide) rfl rfl (Nat.le_of_ble_eq_true rfl) ?_
  rintro X rfl rfl rfl hRm hnL hnm hsz hX hQ
  obtain ⟨t0, hT⟩ : ∃ tz, et_X3_comes w M sort behind = tz := ⟨_, rfl⟩
  rw [hT] at hQ
  refine ez_aload_n hX 0 dX3_comes_0 rfl ?_
  refine ez_getr hX (kw_3 hw) rfl (Nat.le_of_ble_eq_true rfl) (kw_lt hw 3 (by decide)) (Nat.le_of_ble_eq_true rfl) inX3 (w + 8) rfl (rw_3_4 hw) wf_X3_28 dX3_comes_1 ?_
  refine ez_aload_n hX 0 dX3_comes_4 rfl ?_
  refine ez_geti hX (kw_3 hw) rfl (Nat.le_of_ble_eq_true rfl) (kw_lt hw 3 (by decide)) (Nat.le_of_ble_eq_true rfl) inX3 rfl wf_X3_80 dX3_comes_5 ?_
  refine ez_iload_n hX 1 dX3_comes_8 rfl ?_
  refine ez_iload_n hX 2 dX3_comes_9 rfl ?_
  refine ez_aload_n hX 0 dX3_comes_10 rfl ?_
  refine ez_geti hX (kw_3 hw) rfl (Nat.le_of_ble_eq_true rfl) (kw_lt hw 3 (by decide)) (Nat.le_of_ble_eq_true rfl) inX3 rfl wf_X3_74 dX3_comes_11 ?_
  refine ez_aload_n hX 0 dX3_comes_14 rfl ?_
  refine ez_geti hX (kw_3 hw) rfl (Nat.le_of_ble_eq_true rfl) (kw_lt hw 3 (by decide)) (Nat.le_of_ble_eq_true rfl) inX3 rfl wf_X3_77 dX3_comes_15 ?_
  refine ez_callV hX (N0 := 0) (As := [.int (M.1 (w + 3) 13), .int sort, .int behind, .int (M.1 (w + 3) 10), .int (M.1 (w + 3) 11)]) (st := []) (kw_8 hw) (Nat.le_of_ble_eq_true rfl) (kw_lt hw 8 (by decide)) rfl (ec_X0_add _ _ _ w hw M (M.1 (w + 3) 13) sort behind (M.1 (w + 3) 10) (M.1 (w + 3) 11)) (Or.inl rfl) wm_X3_230 wv_X0_add we_X0_add wy_X0_add rfl wd_X0_add wi_X0 (ez_rok hRm rfl) (Nat.le_of_ble_eq_true rfl) dX3_comes_18 ?_
  refine ez_nmIM (fun r1 M2 eM2 => ?_)
  refine ez_istore_n hX [(3, .int r1), (0, .ref (ez_B X + (w + 3))), (1, .int sort), (2, .int behind)] dX3_comes_21 (ez_lt hnL rfl) rfl ?_
  refine ez_iload_n hX 0 dX3_comes_22 rfl ?_
  refine ez_if_ne hX 36 dX3_comes_23 (by decide) (fun c4 => ?_) (fun c4 => ?_)
  · -- c4 jump
    refine ez_aload_n hX 1 dX3_comes_36 rfl ?_
    refine ez_iload_n hX 0 dX3_comes_37 rfl ?_
    refine ez_puti hX (kw_3 hw) rfl (Nat.le_of_ble_eq_true rfl) (kw_lt hw 3 (by decide)) (Nat.le_of_ble_eq_true rfl) inX3 tyX3 tyX3_ok nmX3 r1 rfl wf_X3_80 rfl rfl rfl dX3_comes_38 ?_
    refine ez_nmM (fun M5 eM5 => ?_)
    refine ez_aload_n hX 1 dX3_comes_41 rfl ?_
    refine ez_getr hX (kw_3 hw) rfl (Nat.le_of_ble_eq_true rfl) (kw_lt hw 3 (by decide)) (Nat.le_of_ble_eq_true rfl) inX3 (w + 4) rfl (rw_3_0 hw) wf_X3_12 dX3_comes_42 ?_
    refine ez_aload_n hX 1 dX3_comes_45 rfl ?_
    refine ez_getr hX (kw_3 hw) rfl (Nat.le_of_ble_eq_true rfl) (kw_lt hw 3 (by decide)) (Nat.le_of_ble_eq_true rfl) inX3 (w + 4) rfl (rw_3_0 hw) wf_X3_12 dX3_comes_46 ?_
    refine ez_geti hX (kw_4 hw) rfl (Nat.le_of_ble_eq_true rfl) (kw_lt hw 4 (by decide)) (Nat.le_of_ble_eq_true rfl) inX4 rfl wf_X3_233 dX3_comes_49 ?_
    refine ez_aload_n hX 1 dX3_comes_52 rfl ?_
    refine ez_getr hX (kw_3 hw) rfl (Nat.le_of_ble_eq_true rfl) (kw_lt hw 3 (by decide)) (Nat.le_of_ble_eq_true rfl) inX3 (w + 8) rfl (rw_3_4 hw) wf_X3_28 dX3_comes_53 ?_
    refine ez_iload_n hX 0 dX3_comes_56 rfl ?_
    refine ez_callV hX (N0 := 0) (As := [.int r1]) (st := [.int (M5.1 (w + 4) 2), .ref (ez_B X + (w + 4))]) (kw_8 hw) (Nat.le_of_ble_eq_true rfl) (kw_lt hw 8 (by decide)) rfl (ec_X0_height _ _ _ w hw M5 r1) (Or.inl rfl) wm_X3_100 wv_X0_height we_X0_height wy_X0_height rfl wd_X0_height wi_X0 (ez_rok hRm rfl) (Nat.le_of_ble_eq_true rfl) dX3_comes_57 ?_
    refine ez_nmI (fun r6 er6 => ?_)
    refine ez_mmax hX wm_X3_236 (ez_rok2 hRm rfl) dX3_comes_60 ?_
    refine ez_nmI (fun r7 er7 => ?_)
    refine ez_puti hX (kw_4 hw) rfl (Nat.le_of_ble_eq_true rfl) (kw_lt hw 4 (by decide)) (Nat.le_of_ble_eq_true rfl) inX4 tyX4 tyX4_ok nmX4 r7 rfl wf_X3_233 rfl rfl rfl dX3_comes_63 ?_
    refine ez_nmM (fun M8 eM8 => ?_)
    refine ez_iload_n hX 0 dX3_comes_66 rfl ?_
    have ht : t0 = (r1, M8) := hT.symm.trans (by simp only [et_X3_comes, eM2, if_neg c4, eM5, er6, er7, eM8])
    subst ht
    exact ez_iret hX hQ dX3_comes_67 rfl rfl
  · -- c4 on
    refine ez_aload_n hX 1 dX3_comes_26 rfl ?_
    refine ez_getr hX (kw_3 hw) rfl (Nat.le_of_ble_eq_true rfl) (kw_lt hw 3 (by decide)) (Nat.le_of_ble_eq_true rfl) inX3 (w + 4) rfl (rw_3_0 hw) wf_X3_12 dX3_comes_27 ?_
    refine ez_iconst hX (4 : Int32) dX3_comes_30 (by decide) ?_
    refine ez_puti hX (kw_4 hw) rfl (Nat.le_of_ble_eq_true rfl) (kw_lt hw 4 (by decide)) (Nat.le_of_ble_eq_true rfl) inX4 tyX4 tyX4_ok nmX4 (4 : Int32) rfl wf_X3_86 rfl rfl rfl dX3_comes_31 ?_
    refine ez_nmM (fun M9 eM9 => ?_)
    refine ez_iconst hX (0 : Int32) dX3_comes_34 (by decide) ?_
    have ht : t0 = ((0 : Int32), M9) := hT.symm.trans (by simp only [et_X3_comes, eM2, if_pos c4, eM9])
    subst ht
    exact ez_iret hX hQ dX3_comes_35 rfl rfl

def et_X3_call  (w : Nat) (M : em_M) (line : Int32) : em_M :=
  let r1 := et_X2_has M line
  (if r1 = 0 then let M10 := em_pI M (w + 4) 0 (3 : Int32)
  M10 else let q5 := et_X7_bind w M (0 : Int32) (0 : Int32) (M.2 (w + 3) 12)
  let r3 := q5.1
  let M4 := q5.2
  let M6 := em_pI M4 (w + 3) 11 r3
  let r7 := et_X2_root M6 line
  let M8 := em_pI M6 (w + 3) 10 r7
  let M9 := em_pI M8 (w + 3) 9 (0 : Int32)
  M9)
set_option maxHeartbeats 4000000 in
set_option maxRecDepth 100000 in
theorem ec_X3_call (l : Launch) (D : em_G) (B : Nat) (w : Nat) (hw : ew w) (M : em_M) (line : Int32) : em_C l D B yX3_call cX3_call 2 none 3 69 0 0 false [.ref (B + (w + 3)), .int line] 132 em_R M (none) 132 em_R ((et_X3_call w M line)) := by
  refine em_C_of RX3 [(0, .ref (B + (w + 3))), (1, .int line)] (by decide) rfl rfl (Nat.le_of_ble_eq_true rfl) ?_
  rintro X rfl rfl rfl hRm hnL hnm hsz hX hQ
  obtain ⟨t0, hT⟩ : ∃ tz, et_X3_call w M line = tz := ⟨_, rfl⟩
  rw [hT] at hQ
  refine ez_aload_n hX 0 dX3_call_0 rfl ?_
  refine ez_getr hX (kw_3 hw) rfl (Nat.le_of_ble_eq_true rfl) (kw_lt hw 3 (by decide)) (Nat.le_of_ble_eq_true rfl) inX3 1 rfl (rw_3_1 hw) wf_X3_46 dX3_call_1 ?_
  refine ez_iload_n hX 1 dX3_call_4 rfl ?_
  refine ez_callV hX (N0 := 0) (As := [.int line]) (st := []) kc_1 (Nat.le_of_ble_eq_true rfl) lc_1 rfl (ec_X2_has _ _ _ M line) (Or.inl rfl) wm_X3_221 wv_X2_has we_X2_has wy_X2_has rfl wd_X2_has wi_X2 (ez_rok hRm rfl) (Nat.le_of_ble_eq_true rfl) dX3_call_5 ?_
  refine ez_nmI (fun r1 er1 => ?_)
  refine ez_if_ne hX 20 dX3_call_8 (by decide) (fun c2 => ?_) (fun c2 => ?_)
  · -- c2 jump
    refine ez_aload_n hX 0 dX3_call_20 rfl ?_
    refine ez_aload_n hX 0 dX3_call_21 rfl ?_
    refine ez_getr hX (kw_3 hw) rfl (Nat.le_of_ble_eq_true rfl) (kw_lt hw 3 (by decide)) (Nat.le_of_ble_eq_true rfl) inX3 (w + 6) rfl (rw_3_3 hw) wf_X3_21 dX3_call_22 ?_
    refine ez_iconst hX (0 : Int32) dX3_call_25 (by decide) ?_
    refine ez_iconst hX (0 : Int32) dX3_call_26 (by decide) ?_
    refine ez_aload_n hX 0 dX3_call_27 rfl ?_
    refine ez_getl hX (kw_3 hw) rfl (Nat.le_of_ble_eq_true rfl) (kw_lt hw 3 (by decide)) (Nat.le_of_ble_eq_true rfl) inX3 rfl wf_X3_155 dX3_call_28 ?_
    refine ez_callV hX (N0 := 0) (As := [.int (0 : Int32), .int (0 : Int32), .long (M.2 (w + 3) 12)]) (st := [.ref (ez_B X + (w + 3))]) (kw_6 hw) (Nat.le_of_ble_eq_true rfl) (kw_lt hw 6 (by decide)) rfl (ec_X7_bind _ _ _ w hw M (0 : Int32) (0 : Int32) (M.2 (w + 3) 12)) (Or.inl rfl) wm_X3_127 wv_X7_bind we_X7_bind wy_X7_bind rfl wd_X7_bind wi_X7 (ez_rok hRm rfl) (Nat.le_of_ble_eq_true rfl) dX3_call_31 ?_
    refine ez_nmIM (fun r3 M4 eM4 => ?_)
    refine ez_puti hX (kw_3 hw) rfl (Nat.le_of_ble_eq_true rfl) (kw_lt hw 3 (by decide)) (Nat.le_of_ble_eq_true rfl) inX3 tyX3 tyX3_ok nmX3 r3 rfl wf_X3_77 rfl rfl rfl dX3_call_34 ?_
    refine ez_nmM (fun M6 eM6 => ?_)
    refine ez_aload_n hX 0 dX3_call_37 rfl ?_
    refine ez_aload_n hX 0 dX3_call_38 rfl ?_
    refine ez_getr hX (kw_3 hw) rfl (Nat.le_of_ble_eq_true rfl) (kw_lt hw 3 (by decide)) (Nat.le_of_ble_eq_true rfl) inX3 1 rfl (rw_3_1 hw) wf_X3_46 dX3_call_39 ?_
    refine ez_iload_n hX 1 dX3_call_42 rfl ?_
    refine ez_callV hX (N0 := 0) (As := [.int line]) (st := [.ref (ez_B X + (w + 3))]) kc_1 (Nat.le_of_ble_eq_true rfl) lc_1 rfl (ec_X2_root _ _ _ M6 line) (Or.inl rfl) wm_X3_68 wv_X2_root we_X2_root wy_X2_root rfl wd_X2_root wi_X2 (ez_rok hRm rfl) (Nat.le_of_ble_eq_true rfl) dX3_call_43 ?_
    refine ez_nmI (fun r7 er7 => ?_)
    refine ez_puti hX (kw_3 hw) rfl (Nat.le_of_ble_eq_true rfl) (kw_lt hw 3 (by decide)) (Nat.le_of_ble_eq_true rfl) inX3 tyX3 tyX3_ok nmX3 r7 rfl wf_X3_74 rfl rfl rfl dX3_call_46 ?_
    refine ez_nmM (fun M8 eM8 => ?_)
    refine ez_aload_n hX 0 dX3_call_49 rfl ?_
    refine ez_iconst hX (0 : Int32) dX3_call_50 (by decide) ?_
    refine ez_puti hX (kw_3 hw) rfl (Nat.le_of_ble_eq_true rfl) (kw_lt hw 3 (by decide)) (Nat.le_of_ble_eq_true rfl) inX3 tyX3 tyX3_ok nmX3 (0 : Int32) rfl wf_X3_64 rfl rfl rfl dX3_call_51 ?_
    refine ez_nmM (fun M9 eM9 => ?_)
    have ht : t0 = M9 := hT.symm.trans (by simp only [et_X3_call, er1, if_neg c2, eM4, eM6, er7, eM8, eM9])
    subst ht
    exact ez_vret hX hQ dX3_call_54 rfl rfl
  · -- c2 on
    refine ez_aload_n hX 0 dX3_call_11 rfl ?_
    refine ez_getr hX (kw_3 hw) rfl (Nat.le_of_ble_eq_true rfl) (kw_lt hw 3 (by decide)) (Nat.le_of_ble_eq_true rfl) inX3 (w + 4) rfl (rw_3_0 hw) wf_X3_12 dX3_call_12 ?_
    refine ez_iconst hX (3 : Int32) dX3_call_15 (by decide) ?_
    refine ez_puti hX (kw_4 hw) rfl (Nat.le_of_ble_eq_true rfl) (kw_lt hw 4 (by decide)) (Nat.le_of_ble_eq_true rfl) inX4 tyX4 tyX4_ok nmX4 (3 : Int32) rfl wf_X3_86 rfl rfl rfl dX3_call_16 ?_
    refine ez_nmM (fun M10 eM10 => ?_)
    have ht : t0 = M10 := hT.symm.trans (by simp only [et_X3_call, er1, if_pos c2, eM10])
    subst ht
    exact ez_vret hX hQ dX3_call_19 rfl rfl

def et_X3_go  (w : Nat) (M : em_M) (escape : Int32) (v : Int64) : em_M :=
  let r1 := et_X11_at (w + 23) 301 M escape
  (if r1 = (M.1 (w + 3) 14) then let r28 := et_X11_at (w + 22) 301 M escape
  let M29 := em_pI M (w + 3) 13 r28
  let M30 := et_X3_give w M29 v
  M30 else let r3 := et_X9_next w M (M.1 (w + 3) 14) r1
  (if r3 = 0 then let r16 := et_X9_below w M (M.1 (w + 3) 14)
  let M17 := em_pI M (w + 3) 14 r16
  let r18 := et_X9_expression w M17 (M.1 (w + 3) 14)
  let M19 := em_pI M17 (w + 3) 10 r18
  let r20 := et_X9_scope w M19 (M.1 (w + 3) 14)
  let M21 := em_pI M19 (w + 3) 11 r20
  let M22 := em_pI M21 (w + 3) 13 (0 : Int32)
  let q25 := et_X3_comes w M22 (9 : Int32) (0 : Int32)
  let r23 := q25.1
  let M24 := q25.2
  let M26 := et_X0_keep w M24 r23 v escape
  let M27 := et_X3_workOn w M26 (2 : Int32)
  M27 else let M5 := em_pI M (w + 3) 14 (M.1 (w + 3) 14)
  let r6 := et_X9_expression w M5 r3
  let M7 := em_pI M5 (w + 3) 10 r6
  let r8 := et_X9_scope w M7 r3
  let M9 := em_pI M7 (w + 3) 11 r8
  let M10 := em_pI M9 (w + 3) 13 (0 : Int32)
  let q13 := et_X3_comes w M10 (10 : Int32) (0 : Int32)
  let r11 := q13.1
  let M12 := q13.2
  let M14 := et_X0_keep w M12 r11 v escape
  let M15 := et_X3_workOn w M14 (0 : Int32)
  M15))
set_option maxHeartbeats 4000000 in
set_option maxRecDepth 100000 in
theorem ec_X3_go (l : Launch) (D : em_G) (B : Nat) (w : Nat) (hw : ew w) (M : em_M) (escape : Int32) (v : Int64) : em_C l D B yX3_go cX3_go 8 none 3 73 0 0 false [.ref (B + (w + 3)), .int escape, .long v] 132 em_R M (none) 132 em_R ((et_X3_go w M escape v)) := by
  refine em_C_of RX3 [(0, .ref (B + (w + 3))), (1, .int escape), (2, .long v)] (by decide) rfl rfl (Nat.le_of_ble_eq_true rfl) ?_
  rintro X rfl rfl rfl hRm hnL hnm hsz hX hQ
  obtain ⟨t0, hT⟩ : ∃ tz, et_X3_go w M escape v = tz := ⟨_, rfl⟩
  rw [hT] at hQ
  refine ez_aload_n hX 0 dX3_go_0 rfl ?_
  refine ez_getr hX (kw_3 hw) rfl (Nat.le_of_ble_eq_true rfl) (kw_lt hw 3 (by decide)) (Nat.le_of_ble_eq_true rfl) inX3 (w + 23) rfl (rw_3_7 hw) wf_X3_43 dX3_go_1 ?_
  refine ez_iload_n hX 1 dX3_go_4 rfl ?_
  refine ez_callSN hX (N0 := 0) (As := [.ref (ez_B X + (w + 23)), .int escape]) (st := []) (ec_X11_at _ _ _ (w + 23) 301 (kw_23 hw) (kw_lt hw 23 (by decide)) M escape) (Or.inl rfl) wm_X3_177 ws_X11_at wy_X11_at rfl wd_X11_at wi_X11 (ez_rok hRm rfl) (Nat.le_of_ble_eq_true rfl) dX3_go_5 ?_
  refine ez_nmI (fun r1 er1 => ?_)
  refine ez_istore hX [(4, .int r1), (0, .ref (ez_B X + (w + 3))), (1, .int escape), (2, .long v)] dX3_go_8 (ez_lt hnL rfl) rfl ?_
  refine ez_iload hX 0 dX3_go_10 rfl ?_
  refine ez_aload_n hX 1 dX3_go_12 rfl ?_
  refine ez_geti hX (kw_3 hw) rfl (Nat.le_of_ble_eq_true rfl) (kw_lt hw 3 (by decide)) (Nat.le_of_ble_eq_true rfl) inX3 rfl wf_X3_83 dX3_go_13 ?_
  refine ez_icmp_ne hX 37 dX3_go_16 (by decide) (fun c2 => ?_) (fun c2 => ?_)
  · -- c2 jump
    refine ez_aload_n hX 1 dX3_go_37 rfl ?_
    refine ez_getr hX (kw_3 hw) rfl (Nat.le_of_ble_eq_true rfl) (kw_lt hw 3 (by decide)) (Nat.le_of_ble_eq_true rfl) inX3 (w + 17) rfl (rw_3_5 hw) wf_X3_35 dX3_go_38 ?_
    refine ez_aload_n hX 1 dX3_go_41 rfl ?_
    refine ez_geti hX (kw_3 hw) rfl (Nat.le_of_ble_eq_true rfl) (kw_lt hw 3 (by decide)) (Nat.le_of_ble_eq_true rfl) inX3 rfl wf_X3_83 dX3_go_42 ?_
    refine ez_iload hX 0 dX3_go_45 rfl ?_
    refine ez_callV hX (N0 := 0) (As := [.int (M.1 (w + 3) 14), .int r1]) (st := []) (kw_17 hw) (Nat.le_of_ble_eq_true rfl) (kw_lt hw 17 (by decide)) rfl (ec_X9_next _ _ _ w hw M (M.1 (w + 3) 14) r1) (Or.inl rfl) wm_X3_204 wv_X9_next we_X9_next wy_X9_next rfl wd_X9_next wi_X9 (ez_rok hRm rfl) (Nat.le_of_ble_eq_true rfl) dX3_go_47 ?_
    refine ez_nmI (fun r3 er3 => ?_)
    refine ez_istore hX [(5, .int r3), (4, .int r1), (0, .ref (ez_B X + (w + 3))), (1, .int escape), (2, .long v)] dX3_go_50 (ez_lt hnL rfl) rfl ?_
    refine ez_iload hX 0 dX3_go_52 rfl ?_
    refine ez_if_ne hX 61 dX3_go_54 (by decide) (fun c4 => ?_) (fun c4 => ?_)
    · -- c4 jump
      refine ez_iconst hX (0 : Int32) dX3_go_61 (by decide) ?_
      refine ez_istore hX [(6, .int (0 : Int32)), (5, .int r3), (4, .int r1), (0, .ref (ez_B X + (w + 3))), (1, .int escape), (2, .long v)] dX3_go_62 (ez_lt hnL rfl) rfl ?_
      refine ez_iload hX 0 dX3_go_64 rfl ?_
      refine ez_if_eq hX 76 dX3_go_66 (by decide) (fun _ => ?_) (fun c => absurd c (by decide))
      refine ez_iload hX 1 dX3_go_76 rfl ?_
      refine ez_istore hX [(7, .int r3), (6, .int (0 : Int32)), (5, .int r3), (4, .int r1), (0, .ref (ez_B X + (w + 3))), (1, .int escape), (2, .long v)] dX3_go_78 (ez_lt hnL rfl) rfl ?_
      refine ez_aload_n hX 4 dX3_go_80 rfl ?_
      refine ez_iload hX 1 dX3_go_81 rfl ?_
      refine ez_if_eq hX 100 dX3_go_83 (by decide) (fun _ => ?_) (fun c => absurd c (by decide))
      refine ez_aload_n hX 4 dX3_go_100 rfl ?_
      refine ez_geti hX (kw_3 hw) rfl (Nat.le_of_ble_eq_true rfl) (kw_lt hw 3 (by decide)) (Nat.le_of_ble_eq_true rfl) inX3 rfl wf_X3_83 dX3_go_101 ?_
      refine ez_puti hX (kw_3 hw) rfl (Nat.le_of_ble_eq_true rfl) (kw_lt hw 3 (by decide)) (Nat.le_of_ble_eq_true rfl) inX3 tyX3 tyX3_ok nmX3 (M.1 (w + 3) 14) rfl wf_X3_83 rfl rfl rfl dX3_go_104 ?_
      refine ez_nmM (fun M5 eM5 => ?_)
      refine ez_aload_n hX 4 dX3_go_107 rfl ?_
      refine ez_aload_n hX 4 dX3_go_108 rfl ?_
      refine ez_getr hX (kw_3 hw) rfl (Nat.le_of_ble_eq_true rfl) (kw_lt hw 3 (by decide)) (Nat.le_of_ble_eq_true rfl) inX3 (w + 17) rfl (rw_3_5 hw) wf_X3_35 dX3_go_109 ?_
      refine ez_iload hX 0 dX3_go_112 rfl ?_
      refine ez_callV hX (N0 := 0) (As := [.int r3]) (st := [.ref (ez_B X + (w + 3))]) (kw_17 hw) (Nat.le_of_ble_eq_true rfl) (kw_lt hw 17 (by decide)) rfl (ec_X9_expression _ _ _ w hw M5 r3) (Or.inl rfl) wm_X3_225 wv_X9_expression we_X9_expression wy_X9_expression rfl wd_X9_expression wi_X9 (ez_rok hRm rfl) (Nat.le_of_ble_eq_true rfl) dX3_go_114 ?_
      refine ez_nmI (fun r6 er6 => ?_)
      refine ez_puti hX (kw_3 hw) rfl (Nat.le_of_ble_eq_true rfl) (kw_lt hw 3 (by decide)) (Nat.le_of_ble_eq_true rfl) inX3 tyX3 tyX3_ok nmX3 r6 rfl wf_X3_74 rfl rfl rfl dX3_go_117 ?_
      refine ez_nmM (fun M7 eM7 => ?_)
      refine ez_aload_n hX 4 dX3_go_120 rfl ?_
      refine ez_aload_n hX 4 dX3_go_121 rfl ?_
      refine ez_getr hX (kw_3 hw) rfl (Nat.le_of_ble_eq_true rfl) (kw_lt hw 3 (by decide)) (Nat.le_of_ble_eq_true rfl) inX3 (w + 17) rfl (rw_3_5 hw) wf_X3_35 dX3_go_122 ?_
      refine ez_iload hX 0 dX3_go_125 rfl ?_
      refine ez_callV hX (N0 := 0) (As := [.int r3]) (st := [.ref (ez_B X + (w + 3))]) (kw_17 hw) (Nat.le_of_ble_eq_true rfl) (kw_lt hw 17 (by decide)) rfl (ec_X9_scope _ _ _ w hw M7 r3) (Or.inl rfl) wm_X3_226 wv_X9_scope we_X9_scope wy_X9_scope rfl wd_X9_scope wi_X9 (ez_rok hRm rfl) (Nat.le_of_ble_eq_true rfl) dX3_go_127 ?_
      refine ez_nmI (fun r8 er8 => ?_)
      refine ez_puti hX (kw_3 hw) rfl (Nat.le_of_ble_eq_true rfl) (kw_lt hw 3 (by decide)) (Nat.le_of_ble_eq_true rfl) inX3 tyX3 tyX3_ok nmX3 r8 rfl wf_X3_77 rfl rfl rfl dX3_go_130 ?_
      refine ez_nmM (fun M9 eM9 => ?_)
      refine ez_aload_n hX 4 dX3_go_133 rfl ?_
      refine ez_iconst hX (0 : Int32) dX3_go_134 (by decide) ?_
      refine ez_puti hX (kw_3 hw) rfl (Nat.le_of_ble_eq_true rfl) (kw_lt hw 3 (by decide)) (Nat.le_of_ble_eq_true rfl) inX3 tyX3 tyX3_ok nmX3 (0 : Int32) rfl wf_X3_80 rfl rfl rfl dX3_go_135 ?_
      refine ez_nmM (fun M10 eM10 => ?_)
      refine ez_aload_n hX 4 dX3_go_138 rfl ?_
      refine ez_getr hX (kw_3 hw) rfl (Nat.le_of_ble_eq_true rfl) (kw_lt hw 3 (by decide)) (Nat.le_of_ble_eq_true rfl) inX3 (w + 8) rfl (rw_3_4 hw) wf_X3_28 dX3_go_139 ?_
      refine ez_aload_n hX 4 dX3_go_142 rfl ?_
      refine ez_iload hX 1 dX3_go_143 rfl ?_
      refine ez_if_eq hX 153 dX3_go_145 (by decide) (fun _ => ?_) (fun c => absurd c (by decide))
      refine ez_bipush hX (10 : Int32) dX3_go_153 (by decide) ?_
      refine ez_iconst hX (0 : Int32) dX3_go_155 (by decide) ?_
      refine ez_callV hX (N0 := 0) (As := [.int (10 : Int32), .int (0 : Int32)]) (st := [.ref (ez_B X + (w + 8))]) (kw_3 hw) (Nat.le_of_ble_eq_true rfl) (kw_lt hw 3 (by decide)) rfl (ec_X3_comes _ _ _ w hw M10 (10 : Int32) (0 : Int32)) (Or.inl rfl) wm_X3_142 wv_X3_comes we_X3_comes wy_X3_comes rfl wd_X3_comes wi_X3 (ez_rok hRm rfl) (Nat.le_of_ble_eq_true rfl) dX3_go_156 ?_
      refine ez_nmIM (fun r11 M12 eM12 => ?_)
      refine ez_lload_n hX 6 dX3_go_159 rfl ?_
      refine ez_iload_n hX 5 dX3_go_160 rfl ?_
      refine ez_callV hX (N0 := 0) (As := [.int r11, .long v, .int escape]) (st := []) (kw_8 hw) (Nat.le_of_ble_eq_true rfl) (kw_lt hw 8 (by decide)) rfl (ec_X0_keep _ _ _ w hw M12 r11 v escape) (Or.inl rfl) wm_X3_151 wv_X0_keep we_X0_keep wy_X0_keep rfl wd_X0_keep wi_X0 (ez_rok hRm rfl) (Nat.le_of_ble_eq_true rfl) dX3_go_161 ?_
      refine ez_nmM (fun M14 eM14 => ?_)
      refine ez_aload_n hX 4 dX3_go_164 rfl ?_
      refine ez_iload hX 1 dX3_go_165 rfl ?_
      refine ez_if_eq hX 174 dX3_go_167 (by decide) (fun _ => ?_) (fun c => absurd c (by decide))
      refine ez_iconst hX (0 : Int32) dX3_go_174 (by decide) ?_
      refine ez_callV hX (N0 := 0) (As := [.int (0 : Int32)]) (st := []) (kw_3 hw) (Nat.le_of_ble_eq_true rfl) (kw_lt hw 3 (by decide)) rfl (ec_X3_workOn _ _ _ w hw M14 (0 : Int32)) (Or.inl rfl) wm_X3_131 wv_X3_workOn we_X3_workOn wy_X3_workOn rfl wd_X3_workOn wi_X3 (ez_rok hRm rfl) (Nat.le_of_ble_eq_true rfl) dX3_go_175 ?_
      refine ez_nmM (fun M15 eM15 => ?_)
      have ht : t0 = M15 := hT.symm.trans (by simp only [et_X3_go, er1, if_neg c2, er3, if_neg c4, eM5, er6, eM7, er8, eM9, eM10, eM12, eM14, eM15])
      subst ht
      exact ez_vret hX hQ dX3_go_178 rfl rfl
    · -- c4 on
      refine ez_iconst hX (1 : Int32) dX3_go_57 (by decide) ?_
      refine ez_goto hX 62 dX3_go_58 (by decide) ?_
      refine ez_istore hX [(6, .int (1 : Int32)), (5, .int r3), (4, .int r1), (0, .ref (ez_B X + (w + 3))), (1, .int escape), (2, .long v)] dX3_go_62 (ez_lt hnL rfl) rfl ?_
      refine ez_iload hX 0 dX3_go_64 rfl ?_
      refine ez_if_eq hX 76 dX3_go_66 (by decide) (fun c => absurd c (by decide)) (fun _ => ?_)
      refine ez_aload_n hX 3 dX3_go_69 rfl ?_
      refine ez_geti hX (kw_3 hw) rfl (Nat.le_of_ble_eq_true rfl) (kw_lt hw 3 (by decide)) (Nat.le_of_ble_eq_true rfl) inX3 rfl wf_X3_83 dX3_go_70 ?_
      refine ez_goto hX 78 dX3_go_73 (by decide) ?_
      refine ez_istore hX [(7, .int (M.1 (w + 3) 14)), (6, .int (1 : Int32)), (5, .int r3), (4, .int r1), (0, .ref (ez_B X + (w + 3))), (1, .int escape), (2, .long v)] dX3_go_78 (ez_lt hnL rfl) rfl ?_
      refine ez_aload_n hX 4 dX3_go_80 rfl ?_
      refine ez_iload hX 1 dX3_go_81 rfl ?_
      refine ez_if_eq hX 100 dX3_go_83 (by decide) (fun c => absurd c (by decide)) (fun _ => ?_)
      refine ez_aload_n hX 4 dX3_go_86 rfl ?_
      refine ez_getr hX (kw_3 hw) rfl (Nat.le_of_ble_eq_true rfl) (kw_lt hw 3 (by decide)) (Nat.le_of_ble_eq_true rfl) inX3 (w + 17) rfl (rw_3_5 hw) wf_X3_35 dX3_go_87 ?_
      refine ez_aload_n hX 4 dX3_go_90 rfl ?_
      refine ez_geti hX (kw_3 hw) rfl (Nat.le_of_ble_eq_true rfl) (kw_lt hw 3 (by decide)) (Nat.le_of_ble_eq_true rfl) inX3 rfl wf_X3_83 dX3_go_91 ?_
      refine ez_callV hX (N0 := 0) (As := [.int (M.1 (w + 3) 14)]) (st := [.ref (ez_B X + (w + 3))]) (kw_17 hw) (Nat.le_of_ble_eq_true rfl) (kw_lt hw 17 (by decide)) rfl (ec_X9_below _ _ _ w hw M (M.1 (w + 3) 14)) (Or.inl rfl) wm_X3_220 wv_X9_below we_X9_below wy_X9_below rfl wd_X9_below wi_X9 (ez_rok hRm rfl) (Nat.le_of_ble_eq_true rfl) dX3_go_94 ?_
      refine ez_nmI (fun r16 er16 => ?_)
      refine ez_goto hX 104 dX3_go_97 (by decide) ?_
      refine ez_puti hX (kw_3 hw) rfl (Nat.le_of_ble_eq_true rfl) (kw_lt hw 3 (by decide)) (Nat.le_of_ble_eq_true rfl) inX3 tyX3 tyX3_ok nmX3 r16 rfl wf_X3_83 rfl rfl rfl dX3_go_104 ?_
      refine ez_nmM (fun M17 eM17 => ?_)
      refine ez_aload_n hX 4 dX3_go_107 rfl ?_
      refine ez_aload_n hX 4 dX3_go_108 rfl ?_
      refine ez_getr hX (kw_3 hw) rfl (Nat.le_of_ble_eq_true rfl) (kw_lt hw 3 (by decide)) (Nat.le_of_ble_eq_true rfl) inX3 (w + 17) rfl (rw_3_5 hw) wf_X3_35 dX3_go_109 ?_
      refine ez_iload hX 0 dX3_go_112 rfl ?_
      refine ez_callV hX (N0 := 0) (As := [.int (M.1 (w + 3) 14)]) (st := [.ref (ez_B X + (w + 3))]) (kw_17 hw) (Nat.le_of_ble_eq_true rfl) (kw_lt hw 17 (by decide)) rfl (ec_X9_expression _ _ _ w hw M17 (M.1 (w + 3) 14)) (Or.inl rfl) wm_X3_225 wv_X9_expression we_X9_expression wy_X9_expression rfl wd_X9_expression wi_X9 (ez_rok hRm rfl) (Nat.le_of_ble_eq_true rfl) dX3_go_114 ?_
      refine ez_nmI (fun r18 er18 => ?_)
      refine ez_puti hX (kw_3 hw) rfl (Nat.le_of_ble_eq_true rfl) (kw_lt hw 3 (by decide)) (Nat.le_of_ble_eq_true rfl) inX3 tyX3 tyX3_ok nmX3 r18 rfl wf_X3_74 rfl rfl rfl dX3_go_117 ?_
      refine ez_nmM (fun M19 eM19 => ?_)
      refine ez_aload_n hX 4 dX3_go_120 rfl ?_
      refine ez_aload_n hX 4 dX3_go_121 rfl ?_
      refine ez_getr hX (kw_3 hw) rfl (Nat.le_of_ble_eq_true rfl) (kw_lt hw 3 (by decide)) (Nat.le_of_ble_eq_true rfl) inX3 (w + 17) rfl (rw_3_5 hw) wf_X3_35 dX3_go_122 ?_
      refine ez_iload hX 0 dX3_go_125 rfl ?_
      refine ez_callV hX (N0 := 0) (As := [.int (M.1 (w + 3) 14)]) (st := [.ref (ez_B X + (w + 3))]) (kw_17 hw) (Nat.le_of_ble_eq_true rfl) (kw_lt hw 17 (by decide)) rfl (ec_X9_scope _ _ _ w hw M19 (M.1 (w + 3) 14)) (Or.inl rfl) wm_X3_226 wv_X9_scope we_X9_scope wy_X9_scope rfl wd_X9_scope wi_X9 (ez_rok hRm rfl) (Nat.le_of_ble_eq_true rfl) dX3_go_127 ?_
      refine ez_nmI (fun r20 er20 => ?_)
      refine ez_puti hX (kw_3 hw) rfl (Nat.le_of_ble_eq_true rfl) (kw_lt hw 3 (by decide)) (Nat.le_of_ble_eq_true rfl) inX3 tyX3 tyX3_ok nmX3 r20 rfl wf_X3_77 rfl rfl rfl dX3_go_130 ?_
      refine ez_nmM (fun M21 eM21 => ?_)
      refine ez_aload_n hX 4 dX3_go_133 rfl ?_
      refine ez_iconst hX (0 : Int32) dX3_go_134 (by decide) ?_
      refine ez_puti hX (kw_3 hw) rfl (Nat.le_of_ble_eq_true rfl) (kw_lt hw 3 (by decide)) (Nat.le_of_ble_eq_true rfl) inX3 tyX3 tyX3_ok nmX3 (0 : Int32) rfl wf_X3_80 rfl rfl rfl dX3_go_135 ?_
      refine ez_nmM (fun M22 eM22 => ?_)
      refine ez_aload_n hX 4 dX3_go_138 rfl ?_
      refine ez_getr hX (kw_3 hw) rfl (Nat.le_of_ble_eq_true rfl) (kw_lt hw 3 (by decide)) (Nat.le_of_ble_eq_true rfl) inX3 (w + 8) rfl (rw_3_4 hw) wf_X3_28 dX3_go_139 ?_
      refine ez_aload_n hX 4 dX3_go_142 rfl ?_
      refine ez_iload hX 1 dX3_go_143 rfl ?_
      refine ez_if_eq hX 153 dX3_go_145 (by decide) (fun c => absurd c (by decide)) (fun _ => ?_)
      refine ez_bipush hX (9 : Int32) dX3_go_148 (by decide) ?_
      refine ez_goto hX 155 dX3_go_150 (by decide) ?_
      refine ez_iconst hX (0 : Int32) dX3_go_155 (by decide) ?_
      refine ez_callV hX (N0 := 0) (As := [.int (9 : Int32), .int (0 : Int32)]) (st := [.ref (ez_B X + (w + 8))]) (kw_3 hw) (Nat.le_of_ble_eq_true rfl) (kw_lt hw 3 (by decide)) rfl (ec_X3_comes _ _ _ w hw M22 (9 : Int32) (0 : Int32)) (Or.inl rfl) wm_X3_142 wv_X3_comes we_X3_comes wy_X3_comes rfl wd_X3_comes wi_X3 (ez_rok hRm rfl) (Nat.le_of_ble_eq_true rfl) dX3_go_156 ?_
      refine ez_nmIM (fun r23 M24 eM24 => ?_)
      refine ez_lload_n hX 6 dX3_go_159 rfl ?_
      refine ez_iload_n hX 5 dX3_go_160 rfl ?_
      refine ez_callV hX (N0 := 0) (As := [.int r23, .long v, .int escape]) (st := []) (kw_8 hw) (Nat.le_of_ble_eq_true rfl) (kw_lt hw 8 (by decide)) rfl (ec_X0_keep _ _ _ w hw M24 r23 v escape) (Or.inl rfl) wm_X3_151 wv_X0_keep we_X0_keep wy_X0_keep rfl wd_X0_keep wi_X0 (ez_rok hRm rfl) (Nat.le_of_ble_eq_true rfl) dX3_go_161 ?_
      refine ez_nmM (fun M26 eM26 => ?_)
      refine ez_aload_n hX 4 dX3_go_164 rfl ?_
      refine ez_iload hX 1 dX3_go_165 rfl ?_
      refine ez_if_eq hX 174 dX3_go_167 (by decide) (fun c => absurd c (by decide)) (fun _ => ?_)
      refine ez_iconst hX (2 : Int32) dX3_go_170 (by decide) ?_
      refine ez_goto hX 175 dX3_go_171 (by decide) ?_
      refine ez_callV hX (N0 := 0) (As := [.int (2 : Int32)]) (st := []) (kw_3 hw) (Nat.le_of_ble_eq_true rfl) (kw_lt hw 3 (by decide)) rfl (ec_X3_workOn _ _ _ w hw M26 (2 : Int32)) (Or.inl rfl) wm_X3_131 wv_X3_workOn we_X3_workOn wy_X3_workOn rfl wd_X3_workOn wi_X3 (ez_rok hRm rfl) (Nat.le_of_ble_eq_true rfl) dX3_go_175 ?_
      refine ez_nmM (fun M27 eM27 => ?_)
      have ht : t0 = M27 := hT.symm.trans (by simp only [et_X3_go, er1, if_neg c2, er3, if_pos c4, er16, eM17, er18, eM19, er20, eM21, eM22, eM24, eM26, eM27])
      subst ht
      exact ez_vret hX hQ dX3_go_178 rfl rfl
  · -- c2 on
    refine ez_aload_n hX 1 dX3_go_19 rfl ?_
    refine ez_aload_n hX 1 dX3_go_20 rfl ?_
    refine ez_getr hX (kw_3 hw) rfl (Nat.le_of_ble_eq_true rfl) (kw_lt hw 3 (by decide)) (Nat.le_of_ble_eq_true rfl) inX3 (w + 22) rfl (rw_3_6 hw) wf_X3_39 dX3_go_21 ?_
    refine ez_iload_n hX 2 dX3_go_24 rfl ?_
    refine ez_callSN hX (N0 := 0) (As := [.ref (ez_B X + (w + 22)), .int escape]) (st := [.ref (ez_B X + (w + 3))]) (ec_X11_at _ _ _ (w + 22) 301 (kw_22 hw) (kw_lt hw 22 (by decide)) M escape) (Or.inl rfl) wm_X3_177 ws_X11_at wy_X11_at rfl wd_X11_at wi_X11 (ez_rok hRm rfl) (Nat.le_of_ble_eq_true rfl) dX3_go_25 ?_
    refine ez_nmI (fun r28 er28 => ?_)
    refine ez_puti hX (kw_3 hw) rfl (Nat.le_of_ble_eq_true rfl) (kw_lt hw 3 (by decide)) (Nat.le_of_ble_eq_true rfl) inX3 tyX3 tyX3_ok nmX3 r28 rfl wf_X3_80 rfl rfl rfl dX3_go_28 ?_
    refine ez_nmM (fun M29 eM29 => ?_)
    refine ez_aload_n hX 1 dX3_go_31 rfl ?_
    refine ez_lload_n hX 3 dX3_go_32 rfl ?_
    refine ez_callV hX (N0 := 0) (As := [.long v]) (st := []) (kw_3 hw) (Nat.le_of_ble_eq_true rfl) (kw_lt hw 3 (by decide)) rfl (ec_X3_give _ _ _ w hw M29 v) (Or.inl rfl) wm_X3_115 wv_X3_give we_X3_give wy_X3_give rfl wd_X3_give wi_X3 (ez_rok hRm rfl) (Nat.le_of_ble_eq_true rfl) dX3_go_33 ?_
    refine ez_nmM (fun M30 eM30 => ?_)
    have ht : t0 = M30 := hT.symm.trans (by simp only [et_X3_go, er1, if_pos c2, er28, eM29, eM30])
    subst ht
    exact ez_vret hX hQ dX3_go_36 rfl rfl

def et_X3_workToGo  (w : Nat) (M : em_M) (aim : Int64) : em_M :=
  let r1 := et_X11_isNumber M aim
  (if r1 = 0 then let q5 := et_X3_comes w M (5 : Int32) (0 : Int32)
  let r3 := q5.1
  let M4 := q5.2
  let M6 := et_X0_keep w M4 r3 (0 : Int64) (((aim - (4294967296 : Int64))).toInt32)
  let M7 := et_X3_workOn w M6 (0 : Int32)
  M7 else let M8 := em_pI M (w + 4) 0 (2 : Int32)
  M8)
set_option maxHeartbeats 4000000 in
set_option maxRecDepth 100000 in
theorem ec_X3_workToGo (l : Launch) (D : em_G) (B : Nat) (w : Nat) (hw : ew w) (M : em_M) (aim : Int64) : em_C l D B yX3_workToGo cX3_workToGo 3 none 3 73 0 0 false [.ref (B + (w + 3)), .long aim] 132 em_R M (none) 132 em_R ((et_X3_workToGo w M aim)) := by
  refine em_C_of RX3 [(0, .ref (B + (w + 3))), (1, .long aim)] (by decide) rfl rfl (Nat.le_of_ble_eq_true rfl) ?_
  rintro X rfl rfl rfl hRm hnL hnm hsz hX hQ
  obtain ⟨t0, hT⟩ : ∃ tz, et_X3_workToGo w M aim = tz := ⟨_, rfl⟩
  rw [hT] at hQ
  refine ez_lload_n hX 1 dX3_workToGo_0 rfl ?_
  refine ez_callSN hX (N0 := 0) (As := [.long aim]) (st := []) (ec_X11_isNumber _ _ _ M aim) (Or.inl rfl) wm_X3_145 ws_X11_isNumber wy_X11_isNumber rfl wd_X11_isNumber wi_X11 (ez_rok hRm rfl) (Nat.le_of_ble_eq_true rfl) dX3_workToGo_1 ?_
  refine ez_nmI (fun r1 er1 => ?_)
  refine ez_if_eq hX 16 dX3_workToGo_4 (by decide) (fun c2 => ?_) (fun c2 => ?_)
  · -- c2 jump
    refine ez_aload_n hX 0 dX3_workToGo_16 rfl ?_
    refine ez_getr hX (kw_3 hw) rfl (Nat.le_of_ble_eq_true rfl) (kw_lt hw 3 (by decide)) (Nat.le_of_ble_eq_true rfl) inX3 (w + 8) rfl (rw_3_4 hw) wf_X3_28 dX3_workToGo_17 ?_
    refine ez_aload_n hX 0 dX3_workToGo_20 rfl ?_
    refine ez_iconst hX (5 : Int32) dX3_workToGo_21 (by decide) ?_
    refine ez_iconst hX (0 : Int32) dX3_workToGo_22 (by decide) ?_
    refine ez_callV hX (N0 := 0) (As := [.int (5 : Int32), .int (0 : Int32)]) (st := [.ref (ez_B X + (w + 8))]) (kw_3 hw) (Nat.le_of_ble_eq_true rfl) (kw_lt hw 3 (by decide)) rfl (ec_X3_comes _ _ _ w hw M (5 : Int32) (0 : Int32)) (Or.inl rfl) wm_X3_142 wv_X3_comes we_X3_comes wy_X3_comes rfl wd_X3_comes wi_X3 (ez_rok hRm rfl) (Nat.le_of_ble_eq_true rfl) dX3_workToGo_23 ?_
    refine ez_nmIM (fun r3 M4 eM4 => ?_)
    refine ez_lconst hX (0 : Int64) dX3_workToGo_26 (by decide) ?_
    refine ez_lload_n hX 1 dX3_workToGo_27 rfl ?_
    refine ez_ldc2 hX wl_X3_149 dX3_workToGo_28 ?_
    refine ez_lsub hX dX3_workToGo_31 ?_
    refine ez_l2i hX dX3_workToGo_32 ?_
    refine ez_callV hX (N0 := 0) (As := [.int r3, .long (0 : Int64), .int (((aim - (4294967296 : Int64))).toInt32)]) (st := []) (kw_8 hw) (Nat.le_of_ble_eq_true rfl) (kw_lt hw 8 (by decide)) rfl (ec_X0_keep _ _ _ w hw M4 r3 (0 : Int64) (((aim - (4294967296 : Int64))).toInt32)) (Or.inl rfl) wm_X3_151 wv_X0_keep we_X0_keep wy_X0_keep rfl wd_X0_keep wi_X0 (ez_rok hRm rfl) (Nat.le_of_ble_eq_true rfl) dX3_workToGo_33 ?_
    refine ez_nmM (fun M6 eM6 => ?_)
    refine ez_aload_n hX 0 dX3_workToGo_36 rfl ?_
    refine ez_iconst hX (0 : Int32) dX3_workToGo_37 (by decide) ?_
    refine ez_callV hX (N0 := 0) (As := [.int (0 : Int32)]) (st := []) (kw_3 hw) (Nat.le_of_ble_eq_true rfl) (kw_lt hw 3 (by decide)) rfl (ec_X3_workOn _ _ _ w hw M6 (0 : Int32)) (Or.inl rfl) wm_X3_131 wv_X3_workOn we_X3_workOn wy_X3_workOn rfl wd_X3_workOn wi_X3 (ez_rok hRm rfl) (Nat.le_of_ble_eq_true rfl) dX3_workToGo_38 ?_
    refine ez_nmM (fun M7 eM7 => ?_)
    have ht : t0 = M7 := hT.symm.trans (by simp only [et_X3_workToGo, er1, if_pos c2, eM4, eM6, eM7])
    subst ht
    exact ez_vret hX hQ dX3_workToGo_41 rfl rfl
  · -- c2 on
    refine ez_aload_n hX 0 dX3_workToGo_7 rfl ?_
    refine ez_getr hX (kw_3 hw) rfl (Nat.le_of_ble_eq_true rfl) (kw_lt hw 3 (by decide)) (Nat.le_of_ble_eq_true rfl) inX3 (w + 4) rfl (rw_3_0 hw) wf_X3_12 dX3_workToGo_8 ?_
    refine ez_iconst hX (2 : Int32) dX3_workToGo_11 (by decide) ?_
    refine ez_puti hX (kw_4 hw) rfl (Nat.le_of_ble_eq_true rfl) (kw_lt hw 4 (by decide)) (Nat.le_of_ble_eq_true rfl) inX4 tyX4 tyX4_ok nmX4 (2 : Int32) rfl wf_X3_86 rfl rfl rfl dX3_workToGo_12 ?_
    refine ez_nmM (fun M8 eM8 => ?_)
    have ht : t0 = M8 := hT.symm.trans (by simp only [et_X3_workToGo, er1, if_neg c2, eM8])
    subst ht
    exact ez_vret hX hQ dX3_workToGo_15 rfl rfl

def et_X3_receiveWind  (w : Nat) (M : em_M) (frame : Int32) : em_M :=
  let r1 := et_X0_behind w M frame
  (if r1 = (0 : Int32) then let q5 := et_X9_add w M (M.1 (w + 3) 14) (M.1 (w + 3) 10) (M.1 (w + 3) 11)
  let r3 := q5.1
  let M4 := q5.2
  let M6 := em_pI M4 (w + 3) 14 r3
  let q9 := et_X3_comes w M6 (8 : Int32) (1 : Int32)
  let r7 := q9.1
  let M8 := q9.2
  let M10 := et_X3_workOn w M8 (1 : Int32)
  M10
  else (if r1 = (1 : Int32) then let r12 := et_X9_below w M (M.1 (w + 3) 14)
  let M13 := em_pI M (w + 3) 14 r12
  let q16 := et_X3_comes w M13 (8 : Int32) (2 : Int32)
  let r14 := q16.1
  let M15 := q16.2
  let M17 := et_X0_keep w M15 r14 (M15.2 (w + 3) 12) (0 : Int32)
  let M18 := et_X3_workOn w M17 (2 : Int32)
  M18
  else let r19 := et_X0_kept w M frame
  let M20 := et_X3_give w M r19
  M20))
set_option maxHeartbeats 4000000 in
set_option maxRecDepth 100000 in
theorem ec_X3_receiveWind (l : Launch) (D : em_G) (B : Nat) (w : Nat) (hw : ew w) (M : em_M) (frame : Int32) : em_C l D B yX3_receiveWind cX3_receiveWind 2 none 3 73 0 0 false [.ref (B + (w + 3)), .int frame] 132 em_R M (none) 132 em_R ((et_X3_receiveWind w M frame)) := by
  refine em_C_of RX3 [(0, .ref (B + (w + 3))), (1, .int frame)] (by decide) rfl rfl (Nat.le_of_ble_eq_true rfl) ?_
  rintro X rfl rfl rfl hRm hnL hnm hsz hX hQ
  obtain ⟨t0, hT⟩ : ∃ tz, et_X3_receiveWind w M frame = tz := ⟨_, rfl⟩
  rw [hT] at hQ
  refine ez_aload_n hX 0 dX3_receiveWind_0 rfl ?_
  refine ez_getr hX (kw_3 hw) rfl (Nat.le_of_ble_eq_true rfl) (kw_lt hw 3 (by decide)) (Nat.le_of_ble_eq_true rfl) inX3 (w + 8) rfl (rw_3_4 hw) wf_X3_28 dX3_receiveWind_1 ?_
  refine ez_iload_n hX 1 dX3_receiveWind_4 rfl ?_
  refine ez_callV hX (N0 := 0) (As := [.int frame]) (st := []) (kw_8 hw) (Nat.le_of_ble_eq_true rfl) (kw_lt hw 8 (by decide)) rfl (ec_X0_behind _ _ _ w hw M frame) (Or.inl rfl) wm_X3_210 wv_X0_behind we_X0_behind wy_X0_behind rfl wd_X0_behind wi_X0 (ez_rok hRm rfl) (Nat.le_of_ble_eq_true rfl) dX3_receiveWind_5 ?_
  refine ez_nmI (fun r1 er1 => ?_)
  by_cases c2 : r1 = (0 : Int32)
  · have cx : (r1).toInt = 0 := by rw [c2]; rfl
    refine ez_ls hX (28) 36 dX3_receiveWind_8 (by decide) (by rw [cx]; rfl) (by decide) ?_
    refine ez_aload_n hX 0 dX3_receiveWind_36 rfl ?_
    refine ez_aload_n hX 0 dX3_receiveWind_37 rfl ?_
    refine ez_getr hX (kw_3 hw) rfl (Nat.le_of_ble_eq_true rfl) (kw_lt hw 3 (by decide)) (Nat.le_of_ble_eq_true rfl) inX3 (w + 17) rfl (rw_3_5 hw) wf_X3_35 dX3_receiveWind_38 ?_
    refine ez_aload_n hX 0 dX3_receiveWind_41 rfl ?_
    refine ez_geti hX (kw_3 hw) rfl (Nat.le_of_ble_eq_true rfl) (kw_lt hw 3 (by decide)) (Nat.le_of_ble_eq_true rfl) inX3 rfl wf_X3_83 dX3_receiveWind_42 ?_
    refine ez_aload_n hX 0 dX3_receiveWind_45 rfl ?_
    refine ez_geti hX (kw_3 hw) rfl (Nat.le_of_ble_eq_true rfl) (kw_lt hw 3 (by decide)) (Nat.le_of_ble_eq_true rfl) inX3 rfl wf_X3_74 dX3_receiveWind_46 ?_
    refine ez_aload_n hX 0 dX3_receiveWind_49 rfl ?_
    refine ez_geti hX (kw_3 hw) rfl (Nat.le_of_ble_eq_true rfl) (kw_lt hw 3 (by decide)) (Nat.le_of_ble_eq_true rfl) inX3 rfl wf_X3_77 dX3_receiveWind_50 ?_
    refine ez_callV hX (N0 := 0) (As := [.int (M.1 (w + 3) 14), .int (M.1 (w + 3) 10), .int (M.1 (w + 3) 11)]) (st := [.ref (ez_B X + (w + 3))]) (kw_17 hw) (Nat.le_of_ble_eq_true rfl) (kw_lt hw 17 (by decide)) rfl (ec_X9_add _ _ _ w hw M (M.1 (w + 3) 14) (M.1 (w + 3) 10) (M.1 (w + 3) 11)) (Or.inl rfl) wm_X3_217 wv_X9_add we_X9_add wy_X9_add rfl wd_X9_add wi_X9 (ez_rok hRm rfl) (Nat.le_of_ble_eq_true rfl) dX3_receiveWind_53 ?_
    refine ez_nmIM (fun r3 M4 eM4 => ?_)
    refine ez_puti hX (kw_3 hw) rfl (Nat.le_of_ble_eq_true rfl) (kw_lt hw 3 (by decide)) (Nat.le_of_ble_eq_true rfl) inX3 tyX3 tyX3_ok nmX3 r3 rfl wf_X3_83 rfl rfl rfl dX3_receiveWind_56 ?_
    refine ez_nmM (fun M6 eM6 => ?_)
    refine ez_aload_n hX 0 dX3_receiveWind_59 rfl ?_
    refine ez_bipush hX (8 : Int32) dX3_receiveWind_60 (by decide) ?_
    refine ez_iconst hX (1 : Int32) dX3_receiveWind_62 (by decide) ?_
    refine ez_callV hX (N0 := 0) (As := [.int (8 : Int32), .int (1 : Int32)]) (st := []) (kw_3 hw) (Nat.le_of_ble_eq_true rfl) (kw_lt hw 3 (by decide)) rfl (ec_X3_comes _ _ _ w hw M6 (8 : Int32) (1 : Int32)) (Or.inl rfl) wm_X3_142 wv_X3_comes we_X3_comes wy_X3_comes rfl wd_X3_comes wi_X3 (ez_rok hRm rfl) (Nat.le_of_ble_eq_true rfl) dX3_receiveWind_63 ?_
    refine ez_nmIM (fun r7 M8 eM8 => ?_)
    refine ez_pop hX dX3_receiveWind_66 rfl ?_
    refine ez_aload_n hX 0 dX3_receiveWind_67 rfl ?_
    refine ez_iconst hX (1 : Int32) dX3_receiveWind_68 (by decide) ?_
    refine ez_callV hX (N0 := 0) (As := [.int (1 : Int32)]) (st := []) (kw_3 hw) (Nat.le_of_ble_eq_true rfl) (kw_lt hw 3 (by decide)) rfl (ec_X3_workOn _ _ _ w hw M8 (1 : Int32)) (Or.inl rfl) wm_X3_131 wv_X3_workOn we_X3_workOn wy_X3_workOn rfl wd_X3_workOn wi_X3 (ez_rok hRm rfl) (Nat.le_of_ble_eq_true rfl) dX3_receiveWind_69 ?_
    refine ez_nmM (fun M10 eM10 => ?_)
    refine ez_goto hX 129 dX3_receiveWind_72 (by decide) ?_
    have ht : t0 = M10 := hT.symm.trans (by simp only [et_X3_receiveWind, er1, if_pos c2, eM4, eM6, eM8, eM10])
    subst ht
    exact ez_vret hX hQ dX3_receiveWind_129 rfl rfl
  · skip
    by_cases c11 : r1 = (1 : Int32)
    · have cx : (r1).toInt = 1 := by rw [c11]; rfl
      refine ez_ls hX (67) 75 dX3_receiveWind_8 (by decide) (by rw [cx]; rfl) (by decide) ?_
      refine ez_aload_n hX 0 dX3_receiveWind_75 rfl ?_
      refine ez_aload_n hX 0 dX3_receiveWind_76 rfl ?_
      refine ez_getr hX (kw_3 hw) rfl (Nat.le_of_ble_eq_true rfl) (kw_lt hw 3 (by decide)) (Nat.le_of_ble_eq_true rfl) inX3 (w + 17) rfl (rw_3_5 hw) wf_X3_35 dX3_receiveWind_77 ?_
      refine ez_aload_n hX 0 dX3_receiveWind_80 rfl ?_
      refine ez_geti hX (kw_3 hw) rfl (Nat.le_of_ble_eq_true rfl) (kw_lt hw 3 (by decide)) (Nat.le_of_ble_eq_true rfl) inX3 rfl wf_X3_83 dX3_receiveWind_81 ?_
      refine ez_callV hX (N0 := 0) (As := [.int (M.1 (w + 3) 14)]) (st := [.ref (ez_B X + (w + 3))]) (kw_17 hw) (Nat.le_of_ble_eq_true rfl) (kw_lt hw 17 (by decide)) rfl (ec_X9_below _ _ _ w hw M (M.1 (w + 3) 14)) (Or.inl rfl) wm_X3_220 wv_X9_below we_X9_below wy_X9_below rfl wd_X9_below wi_X9 (ez_rok hRm rfl) (Nat.le_of_ble_eq_true rfl) dX3_receiveWind_84 ?_
      refine ez_nmI (fun r12 er12 => ?_)
      refine ez_puti hX (kw_3 hw) rfl (Nat.le_of_ble_eq_true rfl) (kw_lt hw 3 (by decide)) (Nat.le_of_ble_eq_true rfl) inX3 tyX3 tyX3_ok nmX3 r12 rfl wf_X3_83 rfl rfl rfl dX3_receiveWind_87 ?_
      refine ez_nmM (fun M13 eM13 => ?_)
      refine ez_aload_n hX 0 dX3_receiveWind_90 rfl ?_
      refine ez_getr hX (kw_3 hw) rfl (Nat.le_of_ble_eq_true rfl) (kw_lt hw 3 (by decide)) (Nat.le_of_ble_eq_true rfl) inX3 (w + 8) rfl (rw_3_4 hw) wf_X3_28 dX3_receiveWind_91 ?_
      refine ez_aload_n hX 0 dX3_receiveWind_94 rfl ?_
      refine ez_bipush hX (8 : Int32) dX3_receiveWind_95 (by decide) ?_
      refine ez_iconst hX (2 : Int32) dX3_receiveWind_97 (by decide) ?_
      refine ez_callV hX (N0 := 0) (As := [.int (8 : Int32), .int (2 : Int32)]) (st := [.ref (ez_B X + (w + 8))]) (kw_3 hw) (Nat.le_of_ble_eq_true rfl) (kw_lt hw 3 (by decide)) rfl (ec_X3_comes _ _ _ w hw M13 (8 : Int32) (2 : Int32)) (Or.inl rfl) wm_X3_142 wv_X3_comes we_X3_comes wy_X3_comes rfl wd_X3_comes wi_X3 (ez_rok hRm rfl) (Nat.le_of_ble_eq_true rfl) dX3_receiveWind_98 ?_
      refine ez_nmIM (fun r14 M15 eM15 => ?_)
      refine ez_aload_n hX 0 dX3_receiveWind_101 rfl ?_
      refine ez_getl hX (kw_3 hw) rfl (Nat.le_of_ble_eq_true rfl) (kw_lt hw 3 (by decide)) (Nat.le_of_ble_eq_true rfl) inX3 rfl wf_X3_155 dX3_receiveWind_102 ?_
      refine ez_iconst hX (0 : Int32) dX3_receiveWind_105 (by decide) ?_
      refine ez_callV hX (N0 := 0) (As := [.int r14, .long (M15.2 (w + 3) 12), .int (0 : Int32)]) (st := []) (kw_8 hw) (Nat.le_of_ble_eq_true rfl) (kw_lt hw 8 (by decide)) rfl (ec_X0_keep _ _ _ w hw M15 r14 (M15.2 (w + 3) 12) (0 : Int32)) (Or.inl rfl) wm_X3_151 wv_X0_keep we_X0_keep wy_X0_keep rfl wd_X0_keep wi_X0 (ez_rok hRm rfl) (Nat.le_of_ble_eq_true rfl) dX3_receiveWind_106 ?_
      refine ez_nmM (fun M17 eM17 => ?_)
      refine ez_aload_n hX 0 dX3_receiveWind_109 rfl ?_
      refine ez_iconst hX (2 : Int32) dX3_receiveWind_110 (by decide) ?_
      refine ez_callV hX (N0 := 0) (As := [.int (2 : Int32)]) (st := []) (kw_3 hw) (Nat.le_of_ble_eq_true rfl) (kw_lt hw 3 (by decide)) rfl (ec_X3_workOn _ _ _ w hw M17 (2 : Int32)) (Or.inl rfl) wm_X3_131 wv_X3_workOn we_X3_workOn wy_X3_workOn rfl wd_X3_workOn wi_X3 (ez_rok hRm rfl) (Nat.le_of_ble_eq_true rfl) dX3_receiveWind_111 ?_
      refine ez_nmM (fun M18 eM18 => ?_)
      refine ez_goto hX 129 dX3_receiveWind_114 (by decide) ?_
      have ht : t0 = M18 := hT.symm.trans (by simp only [et_X3_receiveWind, er1, if_neg c2, if_pos c11, er12, eM13, eM15, eM17, eM18])
      subst ht
      exact ez_vret hX hQ dX3_receiveWind_129 rfl rfl
    · skip
      refine ez_lsD hX 117 dX3_receiveWind_8 (by decide) (List.forall_mem_cons.mpr ⟨lv_neT c2 rfl, (List.forall_mem_cons.mpr ⟨lv_neT c11 rfl, (fun _ h => absurd h List.not_mem_nil)⟩)⟩) (by decide) ?_
      refine ez_aload_n hX 0 dX3_receiveWind_117 rfl ?_
      refine ez_aload_n hX 0 dX3_receiveWind_118 rfl ?_
      refine ez_getr hX (kw_3 hw) rfl (Nat.le_of_ble_eq_true rfl) (kw_lt hw 3 (by decide)) (Nat.le_of_ble_eq_true rfl) inX3 (w + 8) rfl (rw_3_4 hw) wf_X3_28 dX3_receiveWind_119 ?_
      refine ez_iload_n hX 1 dX3_receiveWind_122 rfl ?_
      refine ez_callV hX (N0 := 0) (As := [.int frame]) (st := [.ref (ez_B X + (w + 3))]) (kw_8 hw) (Nat.le_of_ble_eq_true rfl) (kw_lt hw 8 (by decide)) rfl (ec_X0_kept _ _ _ w hw M frame) (Or.inl rfl) wm_X3_207 wv_X0_kept we_X0_kept wy_X0_kept rfl wd_X0_kept wi_X0 (ez_rok hRm rfl) (Nat.le_of_ble_eq_true rfl) dX3_receiveWind_123 ?_
      refine ez_nmL (fun r19 er19 => ?_)
      refine ez_callV hX (N0 := 0) (As := [.long r19]) (st := []) (kw_3 hw) (Nat.le_of_ble_eq_true rfl) (kw_lt hw 3 (by decide)) rfl (ec_X3_give _ _ _ w hw M r19) (Or.inl rfl) wm_X3_115 wv_X3_give we_X3_give wy_X3_give rfl wd_X3_give wi_X3 (ez_rok hRm rfl) (Nat.le_of_ble_eq_true rfl) dX3_receiveWind_126 ?_
      refine ez_nmM (fun M20 eM20 => ?_)
      have ht : t0 = M20 := hT.symm.trans (by simp only [et_X3_receiveWind, er1, if_neg c2, if_neg c11, er19, eM20])
      subst ht
      exact ez_vret hX hQ dX3_receiveWind_129 rfl rfl

def et_X3_receiveOp  (w : Nat) (M : em_M) (frame : Int32) : em_M :=
  let r1 := et_X0_behind w M frame
  (if r1 = 0 then let q15 := et_X3_comes w M (0 : Int32) (1 : Int32)
  let r13 := q15.1
  let M14 := q15.2
  let M16 := et_X0_keep w M14 r13 (M14.2 (w + 3) 12) (0 : Int32)
  let M17 := et_X3_workOn w M16 (1 : Int32)
  M17 else let r3 := et_X0_kept w M frame
  let r4 := et_X11_isNumber M r3
  (if r4 = 0 then let M6 := em_pI M (w + 4) 0 (2 : Int32)
  M6 else let r7 := et_X11_isNumber M (M.2 (w + 3) 12)
  (if r7 = 0 then let M12 := em_pI M (w + 4) 0 (2 : Int32)
  M12 else let r9 := et_X2_mark M (M.1 (w + 3) 10)
  let r10 := et_X3_made M r9 ((r3).toInt32) (((M.2 (w + 3) 12)).toInt32)
  let M11 := et_X3_give w M ((r10).toInt64)
  M11)))
set_option maxHeartbeats 4000000 in
set_option maxRecDepth 100000 in
theorem ec_X3_receiveOp (l : Launch) (D : em_G) (B : Nat) (w : Nat) (hw : ew w) (M : em_M) (frame : Int32) : em_C l D B yX3_receiveOp cX3_receiveOp 4 none 3 73 0 0 false [.ref (B + (w + 3)), .int frame] 132 em_R M (none) 132 em_R ((et_X3_receiveOp w M frame)) := by
  refine em_C_of RX3 [(0, .ref (B + (w + 3))), (1, .int frame)] (by decide) rfl rfl (Nat.le_of_ble_eq_true rfl) ?_
  rintro X rfl rfl rfl hRm hnL hnm hsz hX hQ
  obtain ⟨t0, hT⟩ : ∃ tz, et_X3_receiveOp w M frame = tz := ⟨_, rfl⟩
  rw [hT] at hQ
  refine ez_aload_n hX 0 dX3_receiveOp_0 rfl ?_
  refine ez_getr hX (kw_3 hw) rfl (Nat.le_of_ble_eq_true rfl) (kw_lt hw 3 (by decide)) (Nat.le_of_ble_eq_true rfl) inX3 (w + 8) rfl (rw_3_4 hw) wf_X3_28 dX3_receiveOp_1 ?_
  refine ez_iload_n hX 1 dX3_receiveOp_4 rfl ?_
  refine ez_callV hX (N0 := 0) (As := [.int frame]) (st := []) (kw_8 hw) (Nat.le_of_ble_eq_true rfl) (kw_lt hw 8 (by decide)) rfl (ec_X0_behind _ _ _ w hw M frame) (Or.inl rfl) wm_X3_210 wv_X0_behind we_X0_behind wy_X0_behind rfl wd_X0_behind wi_X0 (ez_rok hRm rfl) (Nat.le_of_ble_eq_true rfl) dX3_receiveOp_5 ?_
  refine ez_nmI (fun r1 er1 => ?_)
  refine ez_if_ne hX 35 dX3_receiveOp_8 (by decide) (fun c2 => ?_) (fun c2 => ?_)
  · -- c2 jump
    refine ez_aload_n hX 0 dX3_receiveOp_35 rfl ?_
    refine ez_getr hX (kw_3 hw) rfl (Nat.le_of_ble_eq_true rfl) (kw_lt hw 3 (by decide)) (Nat.le_of_ble_eq_true rfl) inX3 (w + 8) rfl (rw_3_4 hw) wf_X3_28 dX3_receiveOp_36 ?_
    refine ez_iload_n hX 1 dX3_receiveOp_39 rfl ?_
    refine ez_callV hX (N0 := 0) (As := [.int frame]) (st := []) (kw_8 hw) (Nat.le_of_ble_eq_true rfl) (kw_lt hw 8 (by decide)) rfl (ec_X0_kept _ _ _ w hw M frame) (Or.inl rfl) wm_X3_207 wv_X0_kept we_X0_kept wy_X0_kept rfl wd_X0_kept wi_X0 (ez_rok hRm rfl) (Nat.le_of_ble_eq_true rfl) dX3_receiveOp_40 ?_
    refine ez_nmL (fun r3 er3 => ?_)
    refine ez_lstore_n hX [(2, .long r3), (0, .ref (ez_B X + (w + 3))), (1, .int frame)] dX3_receiveOp_43 (ez_lt hnL rfl) rfl ?_
    refine ez_lload_n hX 0 dX3_receiveOp_44 rfl ?_
    refine ez_callSN hX (N0 := 0) (As := [.long r3]) (st := []) (ec_X11_isNumber _ _ _ M r3) (Or.inl rfl) wm_X3_145 ws_X11_isNumber wy_X11_isNumber rfl wd_X11_isNumber wi_X11 (ez_rok hRm rfl) (Nat.le_of_ble_eq_true rfl) dX3_receiveOp_45 ?_
    refine ez_nmI (fun r4 er4 => ?_)
    refine ez_if_eq hX 61 dX3_receiveOp_48 (by decide) (fun c5 => ?_) (fun c5 => ?_)
    · -- c5 jump
      refine ez_aload_n hX 1 dX3_receiveOp_61 rfl ?_
      refine ez_getr hX (kw_3 hw) rfl (Nat.le_of_ble_eq_true rfl) (kw_lt hw 3 (by decide)) (Nat.le_of_ble_eq_true rfl) inX3 (w + 4) rfl (rw_3_0 hw) wf_X3_12 dX3_receiveOp_62 ?_
      refine ez_iconst hX (2 : Int32) dX3_receiveOp_65 (by decide) ?_
      refine ez_puti hX (kw_4 hw) rfl (Nat.le_of_ble_eq_true rfl) (kw_lt hw 4 (by decide)) (Nat.le_of_ble_eq_true rfl) inX4 tyX4 tyX4_ok nmX4 (2 : Int32) rfl wf_X3_86 rfl rfl rfl dX3_receiveOp_66 ?_
      refine ez_nmM (fun M6 eM6 => ?_)
      have ht : t0 = M6 := hT.symm.trans (by simp only [et_X3_receiveOp, er1, if_neg c2, er3, er4, if_pos c5, eM6])
      subst ht
      exact ez_vret hX hQ dX3_receiveOp_69 rfl rfl
    · -- c5 on
      refine ez_aload_n hX 1 dX3_receiveOp_51 rfl ?_
      refine ez_getl hX (kw_3 hw) rfl (Nat.le_of_ble_eq_true rfl) (kw_lt hw 3 (by decide)) (Nat.le_of_ble_eq_true rfl) inX3 rfl wf_X3_155 dX3_receiveOp_52 ?_
      refine ez_callSN hX (N0 := 0) (As := [.long (M.2 (w + 3) 12)]) (st := []) (ec_X11_isNumber _ _ _ M (M.2 (w + 3) 12)) (Or.inl rfl) wm_X3_145 ws_X11_isNumber wy_X11_isNumber rfl wd_X11_isNumber wi_X11 (ez_rok hRm rfl) (Nat.le_of_ble_eq_true rfl) dX3_receiveOp_55 ?_
      refine ez_nmI (fun r7 er7 => ?_)
      refine ez_if_ne hX 70 dX3_receiveOp_58 (by decide) (fun c8 => ?_) (fun c8 => ?_)
      · -- c8 jump
        refine ez_aload_n hX 1 dX3_receiveOp_70 rfl ?_
        refine ez_aload_n hX 1 dX3_receiveOp_71 rfl ?_
        refine ez_getr hX (kw_3 hw) rfl (Nat.le_of_ble_eq_true rfl) (kw_lt hw 3 (by decide)) (Nat.le_of_ble_eq_true rfl) inX3 1 rfl (rw_3_1 hw) wf_X3_46 dX3_receiveOp_72 ?_
        refine ez_aload_n hX 1 dX3_receiveOp_75 rfl ?_
        refine ez_geti hX (kw_3 hw) rfl (Nat.le_of_ble_eq_true rfl) (kw_lt hw 3 (by decide)) (Nat.le_of_ble_eq_true rfl) inX3 rfl wf_X3_74 dX3_receiveOp_76 ?_
        refine ez_callV hX (N0 := 0) (As := [.int (M.1 (w + 3) 10)]) (st := [.ref (ez_B X + (w + 3))]) kc_1 (Nat.le_of_ble_eq_true rfl) lc_1 rfl (ec_X2_mark _ _ _ M (M.1 (w + 3) 10)) (Or.inl rfl) wm_X3_112 wv_X2_mark we_X2_mark wy_X2_mark rfl wd_X2_mark wi_X2 (ez_rok hRm rfl) (Nat.le_of_ble_eq_true rfl) dX3_receiveOp_79 ?_
        refine ez_nmI (fun r9 er9 => ?_)
        refine ez_lload_n hX 0 dX3_receiveOp_82 rfl ?_
        refine ez_l2i hX dX3_receiveOp_83 ?_
        refine ez_aload_n hX 1 dX3_receiveOp_84 rfl ?_
        refine ez_getl hX (kw_3 hw) rfl (Nat.le_of_ble_eq_true rfl) (kw_lt hw 3 (by decide)) (Nat.le_of_ble_eq_true rfl) inX3 rfl wf_X3_155 dX3_receiveOp_85 ?_
        refine ez_l2i hX dX3_receiveOp_88 ?_
        refine ez_callS hX (N0 := 0) (As := [.int r9, .int ((r3).toInt32), .int (((M.2 (w + 3) 12)).toInt32)]) (st := [.ref (ez_B X + (w + 3))]) (ec_X3_made _ _ _ M r9 ((r3).toInt32) (((M.2 (w + 3) 12)).toInt32)) (Or.inl rfl) wm_X3_213 ws_X3_made wy_X3_made rfl wd_X3_made wi_X3 (ez_rok hRm rfl) (Nat.le_of_ble_eq_true rfl) dX3_receiveOp_89 ?_
        refine ez_nmI (fun r10 er10 => ?_)
        refine ez_i2l hX dX3_receiveOp_92 ?_
        refine ez_callV hX (N0 := 0) (As := [.long ((r10).toInt64)]) (st := []) (kw_3 hw) (Nat.le_of_ble_eq_true rfl) (kw_lt hw 3 (by decide)) rfl (ec_X3_give _ _ _ w hw M ((r10).toInt64)) (Or.inl rfl) wm_X3_115 wv_X3_give we_X3_give wy_X3_give rfl wd_X3_give wi_X3 (ez_rok hRm rfl) (Nat.le_of_ble_eq_true rfl) dX3_receiveOp_93 ?_
        refine ez_nmM (fun M11 eM11 => ?_)
        have ht : t0 = M11 := hT.symm.trans (by simp only [et_X3_receiveOp, er1, if_neg c2, er3, er4, if_neg c5, er7, if_neg c8, er9, er10, eM11])
        subst ht
        exact ez_vret hX hQ dX3_receiveOp_96 rfl rfl
      · -- c8 on
        refine ez_aload_n hX 1 dX3_receiveOp_61 rfl ?_
        refine ez_getr hX (kw_3 hw) rfl (Nat.le_of_ble_eq_true rfl) (kw_lt hw 3 (by decide)) (Nat.le_of_ble_eq_true rfl) inX3 (w + 4) rfl (rw_3_0 hw) wf_X3_12 dX3_receiveOp_62 ?_
        refine ez_iconst hX (2 : Int32) dX3_receiveOp_65 (by decide) ?_
        refine ez_puti hX (kw_4 hw) rfl (Nat.le_of_ble_eq_true rfl) (kw_lt hw 4 (by decide)) (Nat.le_of_ble_eq_true rfl) inX4 tyX4 tyX4_ok nmX4 (2 : Int32) rfl wf_X3_86 rfl rfl rfl dX3_receiveOp_66 ?_
        refine ez_nmM (fun M12 eM12 => ?_)
        have ht : t0 = M12 := hT.symm.trans (by simp only [et_X3_receiveOp, er1, if_neg c2, er3, er4, if_neg c5, er7, if_pos c8, eM12])
        subst ht
        exact ez_vret hX hQ dX3_receiveOp_69 rfl rfl
  · -- c2 on
    refine ez_aload_n hX 0 dX3_receiveOp_11 rfl ?_
    refine ez_getr hX (kw_3 hw) rfl (Nat.le_of_ble_eq_true rfl) (kw_lt hw 3 (by decide)) (Nat.le_of_ble_eq_true rfl) inX3 (w + 8) rfl (rw_3_4 hw) wf_X3_28 dX3_receiveOp_12 ?_
    refine ez_aload_n hX 0 dX3_receiveOp_15 rfl ?_
    refine ez_iconst hX (0 : Int32) dX3_receiveOp_16 (by decide) ?_
    refine ez_iconst hX (1 : Int32) dX3_receiveOp_17 (by decide) ?_
    refine ez_callV hX (N0 := 0) (As := [.int (0 : Int32), .int (1 : Int32)]) (st := [.ref (ez_B X + (w + 8))]) (kw_3 hw) (Nat.le_of_ble_eq_true rfl) (kw_lt hw 3 (by decide)) rfl (ec_X3_comes _ _ _ w hw M (0 : Int32) (1 : Int32)) (Or.inl rfl) wm_X3_142 wv_X3_comes we_X3_comes wy_X3_comes rfl wd_X3_comes wi_X3 (ez_rok hRm rfl) (Nat.le_of_ble_eq_true rfl) dX3_receiveOp_18 ?_
    refine ez_nmIM (fun r13 M14 eM14 => ?_)
    refine ez_aload_n hX 0 dX3_receiveOp_21 rfl ?_
    refine ez_getl hX (kw_3 hw) rfl (Nat.le_of_ble_eq_true rfl) (kw_lt hw 3 (by decide)) (Nat.le_of_ble_eq_true rfl) inX3 rfl wf_X3_155 dX3_receiveOp_22 ?_
    refine ez_iconst hX (0 : Int32) dX3_receiveOp_25 (by decide) ?_
    refine ez_callV hX (N0 := 0) (As := [.int r13, .long (M14.2 (w + 3) 12), .int (0 : Int32)]) (st := []) (kw_8 hw) (Nat.le_of_ble_eq_true rfl) (kw_lt hw 8 (by decide)) rfl (ec_X0_keep _ _ _ w hw M14 r13 (M14.2 (w + 3) 12) (0 : Int32)) (Or.inl rfl) wm_X3_151 wv_X0_keep we_X0_keep wy_X0_keep rfl wd_X0_keep wi_X0 (ez_rok hRm rfl) (Nat.le_of_ble_eq_true rfl) dX3_receiveOp_26 ?_
    refine ez_nmM (fun M16 eM16 => ?_)
    refine ez_aload_n hX 0 dX3_receiveOp_29 rfl ?_
    refine ez_iconst hX (1 : Int32) dX3_receiveOp_30 (by decide) ?_
    refine ez_callV hX (N0 := 0) (As := [.int (1 : Int32)]) (st := []) (kw_3 hw) (Nat.le_of_ble_eq_true rfl) (kw_lt hw 3 (by decide)) rfl (ec_X3_workOn _ _ _ w hw M16 (1 : Int32)) (Or.inl rfl) wm_X3_131 wv_X3_workOn we_X3_workOn wy_X3_workOn rfl wd_X3_workOn wi_X3 (ez_rok hRm rfl) (Nat.le_of_ble_eq_true rfl) dX3_receiveOp_31 ?_
    refine ez_nmM (fun M17 eM17 => ?_)
    have ht : t0 = M17 := hT.symm.trans (by simp only [et_X3_receiveOp, er1, if_pos c2, eM14, eM16, eM17])
    subst ht
    exact ez_vret hX hQ dX3_receiveOp_34 rfl rfl

def et_X3_work  (w : Nat) (M : em_M) : em_M :=
  let r1 := et_X2_kind M (M.1 (w + 3) 10)
  let r2 := et_X2_mark M (M.1 (w + 3) 10)
  (if r1 = (3 : Int32) then let r4 := et_X2_part M (M.1 (w + 3) 10) (1 : Int32)
  (if 0 ≤ r4 then let q8 := et_X3_comes w M (3 : Int32) (0 : Int32)
  let r6 := q8.1
  let M7 := q8.2
  let M9 := et_X3_workOn w M7 (0 : Int32)
  M9 else let M10 := et_X3_workOn w M (0 : Int32)
  M10) else (if r1 = (14 : Int32) then let r33 := et_X2_part M (M.1 (w + 3) 10) (1 : Int32)
  (if 0 ≤ r33 then let q37 := et_X3_comes w M (3 : Int32) (0 : Int32)
  let r35 := q37.1
  let M36 := q37.2
  let M38 := et_X3_workOn w M36 (0 : Int32)
  M38 else let M39 := et_X3_workOn w M (0 : Int32)
  M39) else (if r1 = (11 : Int32) then let M32 := et_X3_give w M ((r2).toInt64)
  M32 else (if r1 = (12 : Int32) then let r30 := et_X3_lookUp w M r2
  let M31 := et_X3_give w M r30
  M31 else (if r1 = (13 : Int32) then let q24 := et_X3_caught w M
  let r22 := q24.1
  let M23 := q24.2
  let q27 := et_X7_bind w M23 (M.1 (w + 3) 11) r2 r22
  let r25 := q27.1
  let M26 := q27.2
  let M28 := em_pI M26 (w + 3) 11 r25
  let M29 := et_X3_workOn w M28 (0 : Int32)
  M29 else (if r1 = (5 : Int32) then let r20 := et_X3_lookUp w M r2
  let M21 := et_X3_workToGo w M r20
  M21 else let q18 := et_X3_comes w M r1 (0 : Int32)
  let r16 := q18.1
  let M17 := q18.2
  let M19 := et_X3_workOn w M17 (0 : Int32)
  M19))))))
set_option maxHeartbeats 4000000 in
set_option maxRecDepth 100000 in
theorem ec_X3_work (l : Launch) (D : em_G) (B : Nat) (w : Nat) (hw : ew w) (M : em_M) : em_C l D B yX3_work cX3_work 4 none 4 95 0 0 false [.ref (B + (w + 3))] 132 em_R M (none) 132 em_R ((et_X3_work w M)) := by
  refine em_C_of RX3 [(0, .ref (B + (w + 3)))] (by decide) rfl rfl (Nat.le_of_ble_eq_true rfl) ?_
  rintro X rfl rfl rfl hRm hnL hnm hsz hX hQ
  obtain ⟨t0, hT⟩ : ∃ tz, et_X3_work w M = tz := ⟨_, rfl⟩
  rw [hT] at hQ
  refine ez_aload_n hX 0 dX3_work_0 rfl ?_
  refine ez_getr hX (kw_3 hw) rfl (Nat.le_of_ble_eq_true rfl) (kw_lt hw 3 (by decide)) (Nat.le_of_ble_eq_true rfl) inX3 1 rfl (rw_3_1 hw) wf_X3_46 dX3_work_1 ?_
  refine ez_aload_n hX 0 dX3_work_4 rfl ?_
  refine ez_geti hX (kw_3 hw) rfl (Nat.le_of_ble_eq_true rfl) (kw_lt hw 3 (by decide)) (Nat.le_of_ble_eq_true rfl) inX3 rfl wf_X3_74 dX3_work_5 ?_
  refine ez_callV hX (N0 := 0) (As := [.int (M.1 (w + 3) 10)]) (st := []) kc_1 (Nat.le_of_ble_eq_true rfl) lc_1 rfl (ec_X2_kind _ _ _ M (M.1 (w + 3) 10)) (Or.inl rfl) wm_X3_109 wv_X2_kind we_X2_kind wy_X2_kind rfl wd_X2_kind wi_X2 (ez_rok hRm rfl) (Nat.le_of_ble_eq_true rfl) dX3_work_8 ?_
  refine ez_nmI (fun r1 er1 => ?_)
  refine ez_istore_n hX [(1, .int r1), (0, .ref (ez_B X + (w + 3)))] dX3_work_11 (ez_lt hnL rfl) rfl ?_
  refine ez_aload_n hX 1 dX3_work_12 rfl ?_
  refine ez_getr hX (kw_3 hw) rfl (Nat.le_of_ble_eq_true rfl) (kw_lt hw 3 (by decide)) (Nat.le_of_ble_eq_true rfl) inX3 1 rfl (rw_3_1 hw) wf_X3_46 dX3_work_13 ?_
  refine ez_aload_n hX 1 dX3_work_16 rfl ?_
  refine ez_geti hX (kw_3 hw) rfl (Nat.le_of_ble_eq_true rfl) (kw_lt hw 3 (by decide)) (Nat.le_of_ble_eq_true rfl) inX3 rfl wf_X3_74 dX3_work_17 ?_
  refine ez_callV hX (N0 := 0) (As := [.int (M.1 (w + 3) 10)]) (st := []) kc_1 (Nat.le_of_ble_eq_true rfl) lc_1 rfl (ec_X2_mark _ _ _ M (M.1 (w + 3) 10)) (Or.inl rfl) wm_X3_112 wv_X2_mark we_X2_mark wy_X2_mark rfl wd_X2_mark wi_X2 (ez_rok hRm rfl) (Nat.le_of_ble_eq_true rfl) dX3_work_20 ?_
  refine ez_nmI (fun r2 er2 => ?_)
  refine ez_istore_n hX [(2, .int r2), (1, .int r1), (0, .ref (ez_B X + (w + 3)))] dX3_work_23 (ez_lt hnL rfl) rfl ?_
  refine ez_iload_n hX 1 dX3_work_24 rfl ?_
  refine ez_iconst hX (3 : Int32) dX3_work_25 (by decide) ?_
  refine ez_icmp_eq hX 35 dX3_work_26 (by decide) (fun c3 => ?_) (fun c3 => ?_)
  · -- c3 jump
    refine ez_iconst hX (1 : Int32) dX3_work_35 (by decide) ?_
    refine ez_goto hX 40 dX3_work_36 (by decide) ?_
    refine ez_istore_n hX [(3, .int (1 : Int32)), (2, .int r2), (1, .int r1), (0, .ref (ez_B X + (w + 3)))] dX3_work_40 (ez_lt hnL rfl) rfl ?_
    refine ez_iload_n hX 2 dX3_work_41 rfl ?_
    refine ez_bipush hX (11 : Int32) dX3_work_42 (by decide) ?_
    refine ez_icmp_ne hX 56 dX3_work_44 (by decide) (fun _ => ?_) (fun c => absurd c (by rw [c3] <;> decide))
    refine ez_iload_n hX 2 dX3_work_56 rfl ?_
    refine ez_bipush hX (12 : Int32) dX3_work_57 (by decide) ?_
    refine ez_icmp_ne hX 74 dX3_work_59 (by decide) (fun _ => ?_) (fun c => absurd c (by rw [c3] <;> decide))
    refine ez_iload_n hX 2 dX3_work_74 rfl ?_
    refine ez_bipush hX (13 : Int32) dX3_work_75 (by decide) ?_
    refine ez_icmp_ne hX 108 dX3_work_77 (by decide) (fun _ => ?_) (fun c => absurd c (by rw [c3] <;> decide))
    refine ez_iload_n hX 0 dX3_work_108 rfl ?_
    refine ez_if_eq hX 135 dX3_work_109 (by decide) (fun c => absurd c (by decide)) (fun _ => ?_)
    refine ez_aload_n hX 3 dX3_work_112 rfl ?_
    refine ez_getr hX (kw_3 hw) rfl (Nat.le_of_ble_eq_true rfl) (kw_lt hw 3 (by decide)) (Nat.le_of_ble_eq_true rfl) inX3 1 rfl (rw_3_1 hw) wf_X3_46 dX3_work_113 ?_
    refine ez_aload_n hX 3 dX3_work_116 rfl ?_
    refine ez_geti hX (kw_3 hw) rfl (Nat.le_of_ble_eq_true rfl) (kw_lt hw 3 (by decide)) (Nat.le_of_ble_eq_true rfl) inX3 rfl wf_X3_74 dX3_work_117 ?_
    refine ez_iconst hX (1 : Int32) dX3_work_120 (by decide) ?_
    refine ez_callV hX (N0 := 0) (As := [.int (M.1 (w + 3) 10), .int (1 : Int32)]) (st := []) kc_1 (Nat.le_of_ble_eq_true rfl) lc_1 rfl (ec_X2_part _ _ _ M (M.1 (w + 3) 10) (1 : Int32)) (Or.inl rfl) wm_X3_135 wv_X2_part we_X2_part wy_X2_part rfl wd_X2_part wi_X2 (ez_rok hRm rfl) (Nat.le_of_ble_eq_true rfl) dX3_work_121 ?_
    refine ez_nmI (fun r4 er4 => ?_)
    refine ez_if_ge hX 135 dX3_work_124 (by decide) (fun c5 => ?_) (fun c5 => ?_)
    · -- c5 jump
      refine ez_iload_n hX 2 dX3_work_135 rfl ?_
      refine ez_iconst hX (5 : Int32) dX3_work_136 (by decide) ?_
      refine ez_icmp_ne hX 152 dX3_work_137 (by decide) (fun _ => ?_) (fun c => absurd c (by rw [c3] <;> decide))
      refine ez_aload_n hX 3 dX3_work_152 rfl ?_
      refine ez_iload_n hX 0 dX3_work_153 rfl ?_
      refine ez_if_eq hX 161 dX3_work_154 (by decide) (fun c => absurd c (by decide)) (fun _ => ?_)
      refine ez_iconst hX (3 : Int32) dX3_work_157 (by decide) ?_
      refine ez_goto hX 162 dX3_work_158 (by decide) ?_
      refine ez_iconst hX (0 : Int32) dX3_work_162 (by decide) ?_
      refine ez_callV hX (N0 := 0) (As := [.int (3 : Int32), .int (0 : Int32)]) (st := []) (kw_3 hw) (Nat.le_of_ble_eq_true rfl) (kw_lt hw 3 (by decide)) rfl (ec_X3_comes _ _ _ w hw M (3 : Int32) (0 : Int32)) (Or.inl rfl) wm_X3_142 wv_X3_comes we_X3_comes wy_X3_comes rfl wd_X3_comes wi_X3 (ez_rok hRm rfl) (Nat.le_of_ble_eq_true rfl) dX3_work_163 ?_
      refine ez_nmIM (fun r6 M7 eM7 => ?_)
      refine ez_pop hX dX3_work_166 rfl ?_
      refine ez_aload_n hX 3 dX3_work_167 rfl ?_
      refine ez_iconst hX (0 : Int32) dX3_work_168 (by decide) ?_
      refine ez_callV hX (N0 := 0) (As := [.int (0 : Int32)]) (st := []) (kw_3 hw) (Nat.le_of_ble_eq_true rfl) (kw_lt hw 3 (by decide)) rfl (ec_X3_workOn _ _ _ w hw M7 (0 : Int32)) (Or.inl rfl) wm_X3_131 wv_X3_workOn we_X3_workOn wy_X3_workOn rfl wd_X3_workOn wi_X3 (ez_rok hRm rfl) (Nat.le_of_ble_eq_true rfl) dX3_work_169 ?_
      refine ez_nmM (fun M9 eM9 => ?_)
      have ht : t0 = M9 := hT.symm.trans (by simp only [et_X3_work, er1, er2, if_pos c3, er4, if_pos c5, eM7, eM9])
      subst ht
      exact ez_vret hX hQ dX3_work_172 rfl rfl
    · -- c5 on
      refine ez_aload_n hX 3 dX3_work_127 rfl ?_
      refine ez_iconst hX (0 : Int32) dX3_work_128 (by decide) ?_
      refine ez_callV hX (N0 := 0) (As := [.int (0 : Int32)]) (st := []) (kw_3 hw) (Nat.le_of_ble_eq_true rfl) (kw_lt hw 3 (by decide)) rfl (ec_X3_workOn _ _ _ w hw M (0 : Int32)) (Or.inl rfl) wm_X3_131 wv_X3_workOn we_X3_workOn wy_X3_workOn rfl wd_X3_workOn wi_X3 (ez_rok hRm rfl) (Nat.le_of_ble_eq_true rfl) dX3_work_129 ?_
      refine ez_nmM (fun M10 eM10 => ?_)
      refine ez_goto hX 172 dX3_work_132 (by decide) ?_
      have ht : t0 = M10 := hT.symm.trans (by simp only [et_X3_work, er1, er2, if_pos c3, er4, if_neg c5, eM10])
      subst ht
      exact ez_vret hX hQ dX3_work_172 rfl rfl
  · -- c3 on
    refine ez_iload_n hX 1 dX3_work_29 rfl ?_
    refine ez_bipush hX (14 : Int32) dX3_work_30 (by decide) ?_
    refine ez_icmp_ne hX 39 dX3_work_32 (by decide) (fun c11 => ?_) (fun c11 => ?_)
    · -- c11 jump
      refine ez_iconst hX (0 : Int32) dX3_work_39 (by decide) ?_
      refine ez_istore_n hX [(3, .int (0 : Int32)), (2, .int r2), (1, .int r1), (0, .ref (ez_B X + (w + 3)))] dX3_work_40 (ez_lt hnL rfl) rfl ?_
      refine ez_iload_n hX 2 dX3_work_41 rfl ?_
      refine ez_bipush hX (11 : Int32) dX3_work_42 (by decide) ?_
      refine ez_icmp_ne hX 56 dX3_work_44 (by decide) (fun c12 => ?_) (fun c12 => ?_)
      · -- c12 jump
        refine ez_iload_n hX 2 dX3_work_56 rfl ?_
        refine ez_bipush hX (12 : Int32) dX3_work_57 (by decide) ?_
        refine ez_icmp_ne hX 74 dX3_work_59 (by decide) (fun c13 => ?_) (fun c13 => ?_)
        · -- c13 jump
          refine ez_iload_n hX 2 dX3_work_74 rfl ?_
          refine ez_bipush hX (13 : Int32) dX3_work_75 (by decide) ?_
          refine ez_icmp_ne hX 108 dX3_work_77 (by decide) (fun c14 => ?_) (fun c14 => ?_)
          · -- c14 jump
            refine ez_iload_n hX 0 dX3_work_108 rfl ?_
            refine ez_if_eq hX 135 dX3_work_109 (by decide) (fun _ => ?_) (fun c => absurd c (by decide))
            refine ez_iload_n hX 2 dX3_work_135 rfl ?_
            refine ez_iconst hX (5 : Int32) dX3_work_136 (by decide) ?_
            refine ez_icmp_ne hX 152 dX3_work_137 (by decide) (fun c15 => ?_) (fun c15 => ?_)
            · -- c15 jump
              refine ez_aload_n hX 3 dX3_work_152 rfl ?_
              refine ez_iload_n hX 0 dX3_work_153 rfl ?_
              refine ez_if_eq hX 161 dX3_work_154 (by decide) (fun _ => ?_) (fun c => absurd c (by decide))
              refine ez_iload_n hX 2 dX3_work_161 rfl ?_
              refine ez_iconst hX (0 : Int32) dX3_work_162 (by decide) ?_
              refine ez_callV hX (N0 := 0) (As := [.int r1, .int (0 : Int32)]) (st := []) (kw_3 hw) (Nat.le_of_ble_eq_true rfl) (kw_lt hw 3 (by decide)) rfl (ec_X3_comes _ _ _ w hw M r1 (0 : Int32)) (Or.inl rfl) wm_X3_142 wv_X3_comes we_X3_comes wy_X3_comes rfl wd_X3_comes wi_X3 (ez_rok hRm rfl) (Nat.le_of_ble_eq_true rfl) dX3_work_163 ?_
              refine ez_nmIM (fun r16 M17 eM17 => ?_)
              refine ez_pop hX dX3_work_166 rfl ?_
              refine ez_aload_n hX 3 dX3_work_167 rfl ?_
              refine ez_iconst hX (0 : Int32) dX3_work_168 (by decide) ?_
              refine ez_callV hX (N0 := 0) (As := [.int (0 : Int32)]) (st := []) (kw_3 hw) (Nat.le_of_ble_eq_true rfl) (kw_lt hw 3 (by decide)) rfl (ec_X3_workOn _ _ _ w hw M17 (0 : Int32)) (Or.inl rfl) wm_X3_131 wv_X3_workOn we_X3_workOn wy_X3_workOn rfl wd_X3_workOn wi_X3 (ez_rok hRm rfl) (Nat.le_of_ble_eq_true rfl) dX3_work_169 ?_
              refine ez_nmM (fun M19 eM19 => ?_)
              have ht : t0 = M19 := hT.symm.trans (by simp only [et_X3_work, er1, er2, if_neg c3, if_neg c11, if_neg c12, if_neg c13, if_neg c14, if_neg c15, eM17, eM19])
              subst ht
              exact ez_vret hX hQ dX3_work_172 rfl rfl
            · -- c15 on
              refine ez_aload_n hX 3 dX3_work_140 rfl ?_
              refine ez_aload_n hX 3 dX3_work_141 rfl ?_
              refine ez_iload_n hX 1 dX3_work_142 rfl ?_
              refine ez_callV hX (N0 := 0) (As := [.int r2]) (st := [.ref (ez_B X + (w + 3))]) (kw_3 hw) (Nat.le_of_ble_eq_true rfl) (kw_lt hw 3 (by decide)) rfl (ec_X3_lookUp _ _ _ w hw M r2) (Or.inl rfl) wm_X3_119 wv_X3_lookUp we_X3_lookUp wy_X3_lookUp rfl wd_X3_lookUp wi_X3 (ez_rok hRm rfl) (Nat.le_of_ble_eq_true rfl) dX3_work_143 ?_
              refine ez_nmL (fun r20 er20 => ?_)
              refine ez_callV hX (N0 := 0) (As := [.long r20]) (st := []) (kw_3 hw) (Nat.le_of_ble_eq_true rfl) (kw_lt hw 3 (by decide)) rfl (ec_X3_workToGo _ _ _ w hw M r20) (Or.inl rfl) wm_X3_139 wv_X3_workToGo we_X3_workToGo wy_X3_workToGo rfl wd_X3_workToGo wi_X3 (ez_rok hRm rfl) (Nat.le_of_ble_eq_true rfl) dX3_work_146 ?_
              refine ez_nmM (fun M21 eM21 => ?_)
              refine ez_goto hX 172 dX3_work_149 (by decide) ?_
              have ht : t0 = M21 := hT.symm.trans (by simp only [et_X3_work, er1, er2, if_neg c3, if_neg c11, if_neg c12, if_neg c13, if_neg c14, if_pos c15, er20, eM21])
              subst ht
              exact ez_vret hX hQ dX3_work_172 rfl rfl
          · -- c14 on
            refine ez_aload_n hX 3 dX3_work_80 rfl ?_
            refine ez_aload_n hX 3 dX3_work_81 rfl ?_
            refine ez_getr hX (kw_3 hw) rfl (Nat.le_of_ble_eq_true rfl) (kw_lt hw 3 (by decide)) (Nat.le_of_ble_eq_true rfl) inX3 (w + 6) rfl (rw_3_3 hw) wf_X3_21 dX3_work_82 ?_
            refine ez_aload_n hX 3 dX3_work_85 rfl ?_
            refine ez_geti hX (kw_3 hw) rfl (Nat.le_of_ble_eq_true rfl) (kw_lt hw 3 (by decide)) (Nat.le_of_ble_eq_true rfl) inX3 rfl wf_X3_77 dX3_work_86 ?_
            refine ez_iload_n hX 1 dX3_work_89 rfl ?_
            refine ez_aload_n hX 3 dX3_work_90 rfl ?_
            refine ez_callV hX (N0 := 0) (As := []) (st := [.int r2, .int (M.1 (w + 3) 11), .ref (ez_B X + (w + 6)), .ref (ez_B X + (w + 3))]) (kw_3 hw) (Nat.le_of_ble_eq_true rfl) (kw_lt hw 3 (by decide)) rfl (ec_X3_caught _ _ _ w hw M) (Or.inl rfl) wm_X3_123 wv_X3_caught we_X3_caught wy_X3_caught rfl wd_X3_caught wi_X3 (ez_rok hRm rfl) (Nat.le_of_ble_eq_true rfl) dX3_work_91 ?_
            refine ez_nmLM (fun r22 M23 eM23 => ?_)
            refine ez_callV hX (N0 := 0) (As := [.int (M.1 (w + 3) 11), .int r2, .long r22]) (st := [.ref (ez_B X + (w + 3))]) (kw_6 hw) (Nat.le_of_ble_eq_true rfl) (kw_lt hw 6 (by decide)) rfl (ec_X7_bind _ _ _ w hw M23 (M.1 (w + 3) 11) r2 r22) (Or.inl rfl) wm_X3_127 wv_X7_bind we_X7_bind wy_X7_bind rfl wd_X7_bind wi_X7 (ez_rok hRm rfl) (Nat.le_of_ble_eq_true rfl) dX3_work_94 ?_
            refine ez_nmIM (fun r25 M26 eM26 => ?_)
            refine ez_puti hX (kw_3 hw) rfl (Nat.le_of_ble_eq_true rfl) (kw_lt hw 3 (by decide)) (Nat.le_of_ble_eq_true rfl) inX3 tyX3 tyX3_ok nmX3 r25 rfl wf_X3_77 rfl rfl rfl dX3_work_97 ?_
            refine ez_nmM (fun M28 eM28 => ?_)
            refine ez_aload_n hX 3 dX3_work_100 rfl ?_
            refine ez_iconst hX (0 : Int32) dX3_work_101 (by decide) ?_
            refine ez_callV hX (N0 := 0) (As := [.int (0 : Int32)]) (st := []) (kw_3 hw) (Nat.le_of_ble_eq_true rfl) (kw_lt hw 3 (by decide)) rfl (ec_X3_workOn _ _ _ w hw M28 (0 : Int32)) (Or.inl rfl) wm_X3_131 wv_X3_workOn we_X3_workOn wy_X3_workOn rfl wd_X3_workOn wi_X3 (ez_rok hRm rfl) (Nat.le_of_ble_eq_true rfl) dX3_work_102 ?_
            refine ez_nmM (fun M29 eM29 => ?_)
            refine ez_goto hX 172 dX3_work_105 (by decide) ?_
            have ht : t0 = M29 := hT.symm.trans (by simp only [et_X3_work, er1, er2, if_neg c3, if_neg c11, if_neg c12, if_neg c13, if_pos c14, eM23, eM26, eM28, eM29])
            subst ht
            exact ez_vret hX hQ dX3_work_172 rfl rfl
        · -- c13 on
          refine ez_aload_n hX 3 dX3_work_62 rfl ?_
          refine ez_aload_n hX 3 dX3_work_63 rfl ?_
          refine ez_iload_n hX 1 dX3_work_64 rfl ?_
          refine ez_callV hX (N0 := 0) (As := [.int r2]) (st := [.ref (ez_B X + (w + 3))]) (kw_3 hw) (Nat.le_of_ble_eq_true rfl) (kw_lt hw 3 (by decide)) rfl (ec_X3_lookUp _ _ _ w hw M r2) (Or.inl rfl) wm_X3_119 wv_X3_lookUp we_X3_lookUp wy_X3_lookUp rfl wd_X3_lookUp wi_X3 (ez_rok hRm rfl) (Nat.le_of_ble_eq_true rfl) dX3_work_65 ?_
          refine ez_nmL (fun r30 er30 => ?_)
          refine ez_callV hX (N0 := 0) (As := [.long r30]) (st := []) (kw_3 hw) (Nat.le_of_ble_eq_true rfl) (kw_lt hw 3 (by decide)) rfl (ec_X3_give _ _ _ w hw M r30) (Or.inl rfl) wm_X3_115 wv_X3_give we_X3_give wy_X3_give rfl wd_X3_give wi_X3 (ez_rok hRm rfl) (Nat.le_of_ble_eq_true rfl) dX3_work_68 ?_
          refine ez_nmM (fun M31 eM31 => ?_)
          refine ez_goto hX 172 dX3_work_71 (by decide) ?_
          have ht : t0 = M31 := hT.symm.trans (by simp only [et_X3_work, er1, er2, if_neg c3, if_neg c11, if_neg c12, if_pos c13, er30, eM31])
          subst ht
          exact ez_vret hX hQ dX3_work_172 rfl rfl
      · -- c12 on
        refine ez_aload_n hX 3 dX3_work_47 rfl ?_
        refine ez_iload_n hX 1 dX3_work_48 rfl ?_
        refine ez_i2l hX dX3_work_49 ?_
        refine ez_callV hX (N0 := 0) (As := [.long ((r2).toInt64)]) (st := []) (kw_3 hw) (Nat.le_of_ble_eq_true rfl) (kw_lt hw 3 (by decide)) rfl (ec_X3_give _ _ _ w hw M ((r2).toInt64)) (Or.inl rfl) wm_X3_115 wv_X3_give we_X3_give wy_X3_give rfl wd_X3_give wi_X3 (ez_rok hRm rfl) (Nat.le_of_ble_eq_true rfl) dX3_work_50 ?_
        refine ez_nmM (fun M32 eM32 => ?_)
        refine ez_goto hX 172 dX3_work_53 (by decide) ?_
        have ht : t0 = M32 := hT.symm.trans (by simp only [et_X3_work, er1, er2, if_neg c3, if_neg c11, if_pos c12, eM32])
        subst ht
        exact ez_vret hX hQ dX3_work_172 rfl rfl
    · -- c11 on
      refine ez_iconst hX (1 : Int32) dX3_work_35 (by decide) ?_
      refine ez_goto hX 40 dX3_work_36 (by decide) ?_
      refine ez_istore_n hX [(3, .int (1 : Int32)), (2, .int r2), (1, .int r1), (0, .ref (ez_B X + (w + 3)))] dX3_work_40 (ez_lt hnL rfl) rfl ?_
      refine ez_iload_n hX 2 dX3_work_41 rfl ?_
      refine ez_bipush hX (11 : Int32) dX3_work_42 (by decide) ?_
      refine ez_icmp_ne hX 56 dX3_work_44 (by decide) (fun _ => ?_) (fun c => absurd c (by rw [c11] <;> decide))
      refine ez_iload_n hX 2 dX3_work_56 rfl ?_
      refine ez_bipush hX (12 : Int32) dX3_work_57 (by decide) ?_
      refine ez_icmp_ne hX 74 dX3_work_59 (by decide) (fun _ => ?_) (fun c => absurd c (by rw [c11] <;> decide))
      refine ez_iload_n hX 2 dX3_work_74 rfl ?_
      refine ez_bipush hX (13 : Int32) dX3_work_75 (by decide) ?_
      refine ez_icmp_ne hX 108 dX3_work_77 (by decide) (fun _ => ?_) (fun c => absurd c (by rw [c11] <;> decide))
      refine ez_iload_n hX 0 dX3_work_108 rfl ?_
      refine ez_if_eq hX 135 dX3_work_109 (by decide) (fun c => absurd c (by decide)) (fun _ => ?_)
      refine ez_aload_n hX 3 dX3_work_112 rfl ?_
      refine ez_getr hX (kw_3 hw) rfl (Nat.le_of_ble_eq_true rfl) (kw_lt hw 3 (by decide)) (Nat.le_of_ble_eq_true rfl) inX3 1 rfl (rw_3_1 hw) wf_X3_46 dX3_work_113 ?_
      refine ez_aload_n hX 3 dX3_work_116 rfl ?_
      refine ez_geti hX (kw_3 hw) rfl (Nat.le_of_ble_eq_true rfl) (kw_lt hw 3 (by decide)) (Nat.le_of_ble_eq_true rfl) inX3 rfl wf_X3_74 dX3_work_117 ?_
      refine ez_iconst hX (1 : Int32) dX3_work_120 (by decide) ?_
      refine ez_callV hX (N0 := 0) (As := [.int (M.1 (w + 3) 10), .int (1 : Int32)]) (st := []) kc_1 (Nat.le_of_ble_eq_true rfl) lc_1 rfl (ec_X2_part _ _ _ M (M.1 (w + 3) 10) (1 : Int32)) (Or.inl rfl) wm_X3_135 wv_X2_part we_X2_part wy_X2_part rfl wd_X2_part wi_X2 (ez_rok hRm rfl) (Nat.le_of_ble_eq_true rfl) dX3_work_121 ?_
      refine ez_nmI (fun r33 er33 => ?_)
      refine ez_if_ge hX 135 dX3_work_124 (by decide) (fun c34 => ?_) (fun c34 => ?_)
      · -- c34 jump
        refine ez_iload_n hX 2 dX3_work_135 rfl ?_
        refine ez_iconst hX (5 : Int32) dX3_work_136 (by decide) ?_
        refine ez_icmp_ne hX 152 dX3_work_137 (by decide) (fun _ => ?_) (fun c => absurd c (by rw [c11] <;> decide))
        refine ez_aload_n hX 3 dX3_work_152 rfl ?_
        refine ez_iload_n hX 0 dX3_work_153 rfl ?_
        refine ez_if_eq hX 161 dX3_work_154 (by decide) (fun c => absurd c (by decide)) (fun _ => ?_)
        refine ez_iconst hX (3 : Int32) dX3_work_157 (by decide) ?_
        refine ez_goto hX 162 dX3_work_158 (by decide) ?_
        refine ez_iconst hX (0 : Int32) dX3_work_162 (by decide) ?_
        refine ez_callV hX (N0 := 0) (As := [.int (3 : Int32), .int (0 : Int32)]) (st := []) (kw_3 hw) (Nat.le_of_ble_eq_true rfl) (kw_lt hw 3 (by decide)) rfl (ec_X3_comes _ _ _ w hw M (3 : Int32) (0 : Int32)) (Or.inl rfl) wm_X3_142 wv_X3_comes we_X3_comes wy_X3_comes rfl wd_X3_comes wi_X3 (ez_rok hRm rfl) (Nat.le_of_ble_eq_true rfl) dX3_work_163 ?_
        refine ez_nmIM (fun r35 M36 eM36 => ?_)
        refine ez_pop hX dX3_work_166 rfl ?_
        refine ez_aload_n hX 3 dX3_work_167 rfl ?_
        refine ez_iconst hX (0 : Int32) dX3_work_168 (by decide) ?_
        refine ez_callV hX (N0 := 0) (As := [.int (0 : Int32)]) (st := []) (kw_3 hw) (Nat.le_of_ble_eq_true rfl) (kw_lt hw 3 (by decide)) rfl (ec_X3_workOn _ _ _ w hw M36 (0 : Int32)) (Or.inl rfl) wm_X3_131 wv_X3_workOn we_X3_workOn wy_X3_workOn rfl wd_X3_workOn wi_X3 (ez_rok hRm rfl) (Nat.le_of_ble_eq_true rfl) dX3_work_169 ?_
        refine ez_nmM (fun M38 eM38 => ?_)
        have ht : t0 = M38 := hT.symm.trans (by simp only [et_X3_work, er1, er2, if_neg c3, if_pos c11, er33, if_pos c34, eM36, eM38])
        subst ht
        exact ez_vret hX hQ dX3_work_172 rfl rfl
      · -- c34 on
        refine ez_aload_n hX 3 dX3_work_127 rfl ?_
        refine ez_iconst hX (0 : Int32) dX3_work_128 (by decide) ?_
        refine ez_callV hX (N0 := 0) (As := [.int (0 : Int32)]) (st := []) (kw_3 hw) (Nat.le_of_ble_eq_true rfl) (kw_lt hw 3 (by decide)) rfl (ec_X3_workOn _ _ _ w hw M (0 : Int32)) (Or.inl rfl) wm_X3_131 wv_X3_workOn we_X3_workOn wy_X3_workOn rfl wd_X3_workOn wi_X3 (ez_rok hRm rfl) (Nat.le_of_ble_eq_true rfl) dX3_work_129 ?_
        refine ez_nmM (fun M39 eM39 => ?_)
        refine ez_goto hX 172 dX3_work_132 (by decide) ?_
        have ht : t0 = M39 := hT.symm.trans (by simp only [et_X3_work, er1, er2, if_neg c3, if_pos c11, er33, if_neg c34, eM39])
        subst ht
        exact ez_vret hX hQ dX3_work_172 rfl rfl

def et_X3_receive_187  (w : Nat)  (M : em_M) (x1 : Int32) (x2 : Int32) (s0 : Int32) : em_M :=
  let M13 := et_X3_workOn w M s0
  M13
def et_X3_receive  (w : Nat) (M : em_M) : em_M :=
  (if (M.1 (w + 3) 13) = 0 then let M57 := et_X4_over (w + 4) M (M.2 (w + 3) 12)
  M57 else let r2 := et_X0_sort w M (M.1 (w + 3) 13)
  let r3 := et_X0_below w M (M.1 (w + 3) 13)
  let M4 := em_pI M (w + 3) 13 r3
  let r5 := et_X0_expression w M4 (M.1 (w + 3) 13)
  let M6 := em_pI M4 (w + 3) 10 r5
  let r7 := et_X0_scope w M6 (M.1 (w + 3) 13)
  let M8 := em_pI M6 (w + 3) 11 r7
  (if r2 = (1 : Int32) then let r10 := et_X11_isNumber M8 (M8.2 (w + 3) 12)
  (if r10 = 0 then let M14 := em_pI M8 (w + 4) 0 (2 : Int32)
  M14 else (if (lg_cmp (M8.2 (w + 3) 12) (0 : Int64)) = 0 then et_X3_receive_187 w M8 (M.1 (w + 3) 13) r2 (2 : Int32) else et_X3_receive_187 w M8 (M.1 (w + 3) 13) r2 (1 : Int32))) else (if r2 = (6 : Int32) then let r16 := et_X11_isNumber M8 (M8.2 (w + 3) 12)
  (if r16 = 0 then let M19 := em_pI M8 (w + 4) 0 (2 : Int32)
  M19 else let M18 := et_X4_write (w + 4) M8 (((M8.2 (w + 3) 12)).toInt32)
  M18) else (if r2 = (7 : Int32) then let r52 := et_X11_isNumber M8 (M8.2 (w + 3) 12)
  (if r52 = 0 then let M56 := em_pI M8 (w + 4) 0 (2 : Int32)
  M56 else let r54 := et_X2_mark M8 (M8.1 (w + 3) 10)
  let M55 := et_X11_put (w + 1) 4 M8 r54 (((M8.2 (w + 3) 12)).toInt32)
  M55) else (if r2 = (0 : Int32) then let M22 := et_X3_receiveOp w M8 (M.1 (w + 3) 13)
  M22
  else (if r2 = (2 : Int32) then let r24 := et_X2_mark M8 (M8.1 (w + 3) 10)
  let q27 := et_X7_bind w M8 (M8.1 (w + 3) 11) r24 (M8.2 (w + 3) 12)
  let r25 := q27.1
  let M26 := q27.2
  let M28 := em_pI M26 (w + 3) 11 r25
  let M29 := et_X3_workOn w M28 (1 : Int32)
  M29
  else (if r2 = (3 : Int32) then let M31 := et_X3_workOn w M8 (1 : Int32)
  M31
  else (if r2 = (4 : Int32) then let r33 := et_X2_mark M8 (M8.1 (w + 3) 10)
  let r34 := et_X11_at (w + 2) 3 M8 r33
  let M35 := et_X3_call w M8 r34
  M35
  else (if r2 = (5 : Int32) then let r37 := et_X0_escape w M8 (M.1 (w + 3) 13)
  let M38 := et_X3_go w M8 r37 (M8.2 (w + 3) 12)
  M38
  else (if r2 = (8 : Int32) then let M40 := et_X3_receiveWind w M8 (M.1 (w + 3) 13)
  M40
  else (if r2 = (10 : Int32) then let r42 := et_X0_escape w M8 (M.1 (w + 3) 13)
  let r43 := et_X11_at (w + 23) 301 M8 r42
  let r44 := et_X9_next w M8 (M8.1 (w + 3) 14) r43
  let M45 := em_pI M8 (w + 3) 14 r44
  let r46 := et_X0_escape w M45 (M.1 (w + 3) 13)
  let r47 := et_X0_kept w M45 (M.1 (w + 3) 13)
  let M48 := et_X3_go w M45 r46 r47
  M48
  else let r49 := et_X0_escape w M8 (M.1 (w + 3) 13)
  let r50 := et_X0_kept w M8 (M.1 (w + 3) 13)
  let M51 := et_X3_go w M8 r49 r50
  M51)))))))))))
set_option maxHeartbeats 4000000 in
set_option maxRecDepth 100000 in
theorem el_X3_receive_187 (X : em_X) (w : Nat) (hw : ew w)   (t0 : em_M) (hRm : ez_rm X = { frames := 4, cells := 0, slots := 0, locals := 100 }) (hnL : ez_nL X = 3) (hX : ez_ok X cX3_receive RX3) (M : em_M) (x1 : Int32) (x2 : Int32) (s0 : Int32)  (hQ : ez_ret X none (none) 132 em_R (t0) 0 0) (hT : et_X3_receive_187 w M x1 x2 s0 = t0) : ez_Z X 132 em_R M 0 0 187 [(0, .ref (ez_B X + (w + 3))), (1, .int x1), (2, .int x2)] [.int s0, .ref (ez_B X + (w + 3))] := by
  refine ez_callV hX (N0 := 0) (As := [.int s0]) (st := []) (kw_3 hw) (Nat.le_of_ble_eq_true rfl) (kw_lt hw 3 (by decide)) rfl (ec_X3_workOn _ _ _ w hw M s0) (Or.inl rfl) wm_X3_131 wv_X3_workOn we_X3_workOn wy_X3_workOn rfl wd_X3_workOn wi_X3 (ez_rok hRm rfl) (Nat.le_of_ble_eq_true rfl) dX3_receive_187 ?_
  refine ez_nmM (fun M13 eM13 => ?_)
  refine ez_goto hX 411 dX3_receive_190 (by decide) ?_
  have ht : t0 = M13 := hT.symm.trans (by simp only [et_X3_receive_187, eM13])
  subst ht
  exact ez_vret hX hQ dX3_receive_411 rfl rfl
set_option maxHeartbeats 4000000 in
set_option maxRecDepth 100000 in
theorem ec_X3_receive (l : Launch) (D : em_G) (B : Nat) (w : Nat) (hw : ew w) (M : em_M) : em_C l D B yX3_receive cX3_receive 3 none 4 100 0 0 false [.ref (B + (w + 3))] 132 em_R M (none) 132 em_R ((et_X3_receive w M)) := by
  refine em_C_of RX3 [(0, .ref (B + (w + 3)))] (by decide) rfl rfl (Nat.le_of_ble_eq_true rfl) ?_
  rintro X rfl rfl rfl hRm hnL hnm hsz hX hQ
  obtain ⟨t0, hT⟩ : ∃ tz, et_X3_receive w M = tz := ⟨_, rfl⟩
  rw [hT] at hQ
  refine ez_aload_n hX 0 dX3_receive_0 rfl ?_
  refine ez_geti hX (kw_3 hw) rfl (Nat.le_of_ble_eq_true rfl) (kw_lt hw 3 (by decide)) (Nat.le_of_ble_eq_true rfl) inX3 rfl wf_X3_80 dX3_receive_1 ?_
  refine ez_if_ne hX 19 dX3_receive_4 (by decide) (fun c1 => ?_) (fun c1 => ?_)
  · -- c1 jump
    refine ez_aload_n hX 0 dX3_receive_19 rfl ?_
    refine ez_geti hX (kw_3 hw) rfl (Nat.le_of_ble_eq_true rfl) (kw_lt hw 3 (by decide)) (Nat.le_of_ble_eq_true rfl) inX3 rfl wf_X3_80 dX3_receive_20 ?_
    refine ez_istore_n hX [(1, .int (M.1 (w + 3) 13)), (0, .ref (ez_B X + (w + 3)))] dX3_receive_23 (ez_lt hnL rfl) rfl ?_
    refine ez_aload_n hX 1 dX3_receive_24 rfl ?_
    refine ez_getr hX (kw_3 hw) rfl (Nat.le_of_ble_eq_true rfl) (kw_lt hw 3 (by decide)) (Nat.le_of_ble_eq_true rfl) inX3 (w + 8) rfl (rw_3_4 hw) wf_X3_28 dX3_receive_25 ?_
    refine ez_iload_n hX 0 dX3_receive_28 rfl ?_
    refine ez_callV hX (N0 := 0) (As := [.int (M.1 (w + 3) 13)]) (st := []) (kw_8 hw) (Nat.le_of_ble_eq_true rfl) (kw_lt hw 8 (by decide)) rfl (ec_X0_sort _ _ _ w hw M (M.1 (w + 3) 13)) (Or.inl rfl) wm_X3_106 wv_X0_sort we_X0_sort wy_X0_sort rfl wd_X0_sort wi_X0 (ez_rok hRm rfl) (Nat.le_of_ble_eq_true rfl) dX3_receive_29 ?_
    refine ez_nmI (fun r2 er2 => ?_)
    refine ez_istore_n hX [(2, .int r2), (1, .int (M.1 (w + 3) 13)), (0, .ref (ez_B X + (w + 3)))] dX3_receive_32 (ez_lt hnL rfl) rfl ?_
    refine ez_aload_n hX 2 dX3_receive_33 rfl ?_
    refine ez_aload_n hX 2 dX3_receive_34 rfl ?_
    refine ez_getr hX (kw_3 hw) rfl (Nat.le_of_ble_eq_true rfl) (kw_lt hw 3 (by decide)) (Nat.le_of_ble_eq_true rfl) inX3 (w + 8) rfl (rw_3_4 hw) wf_X3_28 dX3_receive_35 ?_
    refine ez_iload_n hX 1 dX3_receive_38 rfl ?_
    refine ez_callV hX (N0 := 0) (As := [.int (M.1 (w + 3) 13)]) (st := [.ref (ez_B X + (w + 3))]) (kw_8 hw) (Nat.le_of_ble_eq_true rfl) (kw_lt hw 8 (by decide)) rfl (ec_X0_below _ _ _ w hw M (M.1 (w + 3) 13)) (Or.inl rfl) wm_X3_162 wv_X0_below we_X0_below wy_X0_below rfl wd_X0_below wi_X0 (ez_rok hRm rfl) (Nat.le_of_ble_eq_true rfl) dX3_receive_39 ?_
    refine ez_nmI (fun r3 er3 => ?_)
    refine ez_puti hX (kw_3 hw) rfl (Nat.le_of_ble_eq_true rfl) (kw_lt hw 3 (by decide)) (Nat.le_of_ble_eq_true rfl) inX3 tyX3 tyX3_ok nmX3 r3 rfl wf_X3_80 rfl rfl rfl dX3_receive_42 ?_
    refine ez_nmM (fun M4 eM4 => ?_)
    refine ez_aload_n hX 2 dX3_receive_45 rfl ?_
    refine ez_aload_n hX 2 dX3_receive_46 rfl ?_
    refine ez_getr hX (kw_3 hw) rfl (Nat.le_of_ble_eq_true rfl) (kw_lt hw 3 (by decide)) (Nat.le_of_ble_eq_true rfl) inX3 (w + 8) rfl (rw_3_4 hw) wf_X3_28 dX3_receive_47 ?_
    refine ez_iload_n hX 1 dX3_receive_50 rfl ?_
    refine ez_callV hX (N0 := 0) (As := [.int (M.1 (w + 3) 13)]) (st := [.ref (ez_B X + (w + 3))]) (kw_8 hw) (Nat.le_of_ble_eq_true rfl) (kw_lt hw 8 (by decide)) rfl (ec_X0_expression _ _ _ w hw M4 (M.1 (w + 3) 13)) (Or.inl rfl) wm_X3_165 wv_X0_expression we_X0_expression wy_X0_expression rfl wd_X0_expression wi_X0 (ez_rok hRm rfl) (Nat.le_of_ble_eq_true rfl) dX3_receive_51 ?_
    refine ez_nmI (fun r5 er5 => ?_)
    refine ez_puti hX (kw_3 hw) rfl (Nat.le_of_ble_eq_true rfl) (kw_lt hw 3 (by decide)) (Nat.le_of_ble_eq_true rfl) inX3 tyX3 tyX3_ok nmX3 r5 rfl wf_X3_74 rfl rfl rfl dX3_receive_54 ?_
    refine ez_nmM (fun M6 eM6 => ?_)
    refine ez_aload_n hX 2 dX3_receive_57 rfl ?_
    refine ez_aload_n hX 2 dX3_receive_58 rfl ?_
    refine ez_getr hX (kw_3 hw) rfl (Nat.le_of_ble_eq_true rfl) (kw_lt hw 3 (by decide)) (Nat.le_of_ble_eq_true rfl) inX3 (w + 8) rfl (rw_3_4 hw) wf_X3_28 dX3_receive_59 ?_
    refine ez_iload_n hX 1 dX3_receive_62 rfl ?_
    refine ez_callV hX (N0 := 0) (As := [.int (M.1 (w + 3) 13)]) (st := [.ref (ez_B X + (w + 3))]) (kw_8 hw) (Nat.le_of_ble_eq_true rfl) (kw_lt hw 8 (by decide)) rfl (ec_X0_scope _ _ _ w hw M6 (M.1 (w + 3) 13)) (Or.inl rfl) wm_X3_167 wv_X0_scope we_X0_scope wy_X0_scope rfl wd_X0_scope wi_X0 (ez_rok hRm rfl) (Nat.le_of_ble_eq_true rfl) dX3_receive_63 ?_
    refine ez_nmI (fun r7 er7 => ?_)
    refine ez_puti hX (kw_3 hw) rfl (Nat.le_of_ble_eq_true rfl) (kw_lt hw 3 (by decide)) (Nat.le_of_ble_eq_true rfl) inX3 tyX3 tyX3_ok nmX3 r7 rfl wf_X3_77 rfl rfl rfl dX3_receive_66 ?_
    refine ez_nmM (fun M8 eM8 => ?_)
    refine ez_iload_n hX 0 dX3_receive_69 rfl ?_
    refine ez_iconst hX (1 : Int32) dX3_receive_70 (by decide) ?_
    refine ez_icmp_eq hX 86 dX3_receive_71 (by decide) (fun c9 => ?_) (fun c9 => ?_)
    · -- c9 jump
      refine ez_aload_n hX 2 dX3_receive_86 rfl ?_
      refine ez_getl hX (kw_3 hw) rfl (Nat.le_of_ble_eq_true rfl) (kw_lt hw 3 (by decide)) (Nat.le_of_ble_eq_true rfl) inX3 rfl wf_X3_155 dX3_receive_87 ?_
      refine ez_callSN hX (N0 := 0) (As := [.long (M8.2 (w + 3) 12)]) (st := []) (ec_X11_isNumber _ _ _ M8 (M8.2 (w + 3) 12)) (Or.inl rfl) wm_X3_145 ws_X11_isNumber wy_X11_isNumber rfl wd_X11_isNumber wi_X11 (ez_rok hRm rfl) (Nat.le_of_ble_eq_true rfl) dX3_receive_90 ?_
      refine ez_nmI (fun r10 er10 => ?_)
      refine ez_if_ne hX 105 dX3_receive_93 (by decide) (fun c11 => ?_) (fun c11 => ?_)
      · -- c11 jump
        refine ez_iload_n hX 0 dX3_receive_105 rfl ?_
        have cx : (r2).toInt = 1 := by rw [c9]; rfl
        refine ez_tsIn hX (1) (66) 172 dX3_receive_106 cx ⟨by decide, by decide, rfl, by decide⟩ ?_
        refine ez_aload_n hX 2 dX3_receive_172 rfl ?_
        refine ez_aload_n hX 2 dX3_receive_173 rfl ?_
        refine ez_getl hX (kw_3 hw) rfl (Nat.le_of_ble_eq_true rfl) (kw_lt hw 3 (by decide)) (Nat.le_of_ble_eq_true rfl) inX3 rfl wf_X3_155 dX3_receive_174 ?_
        refine ez_lconst hX (0 : Int64) dX3_receive_177 (by decide) ?_
        refine ez_lcmp hX dX3_receive_178 ?_
        refine ez_if_eq hX 186 dX3_receive_179 (by decide) (fun c12 => ?_) (fun c12 => ?_)
        · -- c12 jump
          refine ez_iconst hX (2 : Int32) dX3_receive_186 (by decide) ?_
          refine ez_lv [2, 1, 0] rfl ?_
          exact el_X3_receive_187 X w hw t0 hRm hnL hX M8 (M.1 (w + 3) 13) r2 (2 : Int32) hQ (Eq.trans (by simp only [et_X3_receive, if_neg c1, er2, er3, eM4, er5, eM6, er7, eM8, if_pos c9, er10, if_neg c11, if_pos c12]) hT)
        · -- c12 on
          refine ez_iconst hX (1 : Int32) dX3_receive_182 (by decide) ?_
          refine ez_goto hX 187 dX3_receive_183 (by decide) ?_
          refine ez_lv [2, 1, 0] rfl ?_
          exact el_X3_receive_187 X w hw t0 hRm hnL hX M8 (M.1 (w + 3) 13) r2 (1 : Int32) hQ (Eq.trans (by simp only [et_X3_receive, if_neg c1, er2, er3, eM4, er5, eM6, er7, eM8, if_pos c9, er10, if_neg c11, if_neg c12]) hT)
      · -- c11 on
        refine ez_aload_n hX 2 dX3_receive_96 rfl ?_
        refine ez_getr hX (kw_3 hw) rfl (Nat.le_of_ble_eq_true rfl) (kw_lt hw 3 (by decide)) (Nat.le_of_ble_eq_true rfl) inX3 (w + 4) rfl (rw_3_0 hw) wf_X3_12 dX3_receive_97 ?_
        refine ez_iconst hX (2 : Int32) dX3_receive_100 (by decide) ?_
        refine ez_puti hX (kw_4 hw) rfl (Nat.le_of_ble_eq_true rfl) (kw_lt hw 4 (by decide)) (Nat.le_of_ble_eq_true rfl) inX4 tyX4 tyX4_ok nmX4 (2 : Int32) rfl wf_X3_86 rfl rfl rfl dX3_receive_101 ?_
        refine ez_nmM (fun M14 eM14 => ?_)
        have ht : t0 = M14 := hT.symm.trans (by simp only [et_X3_receive, if_neg c1, er2, er3, eM4, er5, eM6, er7, eM8, if_pos c9, er10, if_pos c11, eM14])
        subst ht
        exact ez_vret hX hQ dX3_receive_104 rfl rfl
    · -- c9 on
      refine ez_iload_n hX 0 dX3_receive_74 rfl ?_
      refine ez_bipush hX (6 : Int32) dX3_receive_75 (by decide) ?_
      refine ez_icmp_eq hX 86 dX3_receive_77 (by decide) (fun c15 => ?_) (fun c15 => ?_)
      · -- c15 jump
        refine ez_aload_n hX 2 dX3_receive_86 rfl ?_
        refine ez_getl hX (kw_3 hw) rfl (Nat.le_of_ble_eq_true rfl) (kw_lt hw 3 (by decide)) (Nat.le_of_ble_eq_true rfl) inX3 rfl wf_X3_155 dX3_receive_87 ?_
        refine ez_callSN hX (N0 := 0) (As := [.long (M8.2 (w + 3) 12)]) (st := []) (ec_X11_isNumber _ _ _ M8 (M8.2 (w + 3) 12)) (Or.inl rfl) wm_X3_145 ws_X11_isNumber wy_X11_isNumber rfl wd_X11_isNumber wi_X11 (ez_rok hRm rfl) (Nat.le_of_ble_eq_true rfl) dX3_receive_90 ?_
        refine ez_nmI (fun r16 er16 => ?_)
        refine ez_if_ne hX 105 dX3_receive_93 (by decide) (fun c17 => ?_) (fun c17 => ?_)
        · -- c17 jump
          refine ez_iload_n hX 0 dX3_receive_105 rfl ?_
          have cx : (r2).toInt = 6 := by rw [c15]; rfl
          refine ez_tsIn hX (6) (180) 286 dX3_receive_106 cx ⟨by decide, by decide, rfl, by decide⟩ ?_
          refine ez_aload_n hX 2 dX3_receive_286 rfl ?_
          refine ez_getr hX (kw_3 hw) rfl (Nat.le_of_ble_eq_true rfl) (kw_lt hw 3 (by decide)) (Nat.le_of_ble_eq_true rfl) inX3 (w + 4) rfl (rw_3_0 hw) wf_X3_12 dX3_receive_287 ?_
          refine ez_aload_n hX 2 dX3_receive_290 rfl ?_
          refine ez_getl hX (kw_3 hw) rfl (Nat.le_of_ble_eq_true rfl) (kw_lt hw 3 (by decide)) (Nat.le_of_ble_eq_true rfl) inX3 rfl wf_X3_155 dX3_receive_291 ?_
          refine ez_l2i hX dX3_receive_294 ?_
          refine ez_callV hX (N0 := 0) (As := [.int (((M8.2 (w + 3) 12)).toInt32)]) (st := []) (kw_4 hw) (Nat.le_of_ble_eq_true rfl) (kw_lt hw 4 (by decide)) rfl (ec_X4_write _ _ _ (w + 4) (ew_eo hw) M8 (((M8.2 (w + 3) 12)).toInt32)) (Or.inl rfl) wm_X3_191 wv_X4_write we_X4_write wy_X4_write rfl wd_X4_write wi_X4 (ez_rok hRm rfl) (Nat.le_of_ble_eq_true rfl) dX3_receive_295 ?_
          refine ez_nmM (fun M18 eM18 => ?_)
          refine ez_goto hX 411 dX3_receive_298 (by decide) ?_
          have ht : t0 = M18 := hT.symm.trans (by simp only [et_X3_receive, if_neg c1, er2, er3, eM4, er5, eM6, er7, eM8, if_neg c9, if_pos c15, er16, if_neg c17, eM18])
          subst ht
          exact ez_vret hX hQ dX3_receive_411 rfl rfl
        · -- c17 on
          refine ez_aload_n hX 2 dX3_receive_96 rfl ?_
          refine ez_getr hX (kw_3 hw) rfl (Nat.le_of_ble_eq_true rfl) (kw_lt hw 3 (by decide)) (Nat.le_of_ble_eq_true rfl) inX3 (w + 4) rfl (rw_3_0 hw) wf_X3_12 dX3_receive_97 ?_
          refine ez_iconst hX (2 : Int32) dX3_receive_100 (by decide) ?_
          refine ez_puti hX (kw_4 hw) rfl (Nat.le_of_ble_eq_true rfl) (kw_lt hw 4 (by decide)) (Nat.le_of_ble_eq_true rfl) inX4 tyX4 tyX4_ok nmX4 (2 : Int32) rfl wf_X3_86 rfl rfl rfl dX3_receive_101 ?_
          refine ez_nmM (fun M19 eM19 => ?_)
          have ht : t0 = M19 := hT.symm.trans (by simp only [et_X3_receive, if_neg c1, er2, er3, eM4, er5, eM6, er7, eM8, if_neg c9, if_pos c15, er16, if_pos c17, eM19])
          subst ht
          exact ez_vret hX hQ dX3_receive_104 rfl rfl
      · -- c15 on
        refine ez_iload_n hX 0 dX3_receive_80 rfl ?_
        refine ez_bipush hX (7 : Int32) dX3_receive_81 (by decide) ?_
        refine ez_icmp_ne hX 105 dX3_receive_83 (by decide) (fun c20 => ?_) (fun c20 => ?_)
        · -- c20 jump
          refine ez_iload_n hX 0 dX3_receive_105 rfl ?_
          by_cases c21 : r2 = (0 : Int32)
          · have cx : (r2).toInt = 0 := by rw [c21]; rfl
            refine ez_tsIn hX (0) (58) 164 dX3_receive_106 cx ⟨by decide, by decide, rfl, by decide⟩ ?_
            refine ez_aload_n hX 2 dX3_receive_164 rfl ?_
            refine ez_iload_n hX 1 dX3_receive_165 rfl ?_
            refine ez_callV hX (N0 := 0) (As := [.int (M.1 (w + 3) 13)]) (st := []) (kw_3 hw) (Nat.le_of_ble_eq_true rfl) (kw_lt hw 3 (by decide)) rfl (ec_X3_receiveOp _ _ _ w hw M8 (M.1 (w + 3) 13)) (Or.inl rfl) wm_X3_169 wv_X3_receiveOp we_X3_receiveOp wy_X3_receiveOp rfl wd_X3_receiveOp wi_X3 (ez_rok hRm rfl) (Nat.le_of_ble_eq_true rfl) dX3_receive_166 ?_
            refine ez_nmM (fun M22 eM22 => ?_)
            refine ez_goto hX 411 dX3_receive_169 (by decide) ?_
            have ht : t0 = M22 := hT.symm.trans (by simp only [et_X3_receive, if_neg c1, er2, er3, eM4, er5, eM6, er7, eM8, if_neg c9, if_neg c15, if_neg c20, if_pos c21, eM22])
            subst ht
            exact ez_vret hX hQ dX3_receive_411 rfl rfl
          · skip
            by_cases c23 : r2 = (2 : Int32)
            · have cx : (r2).toInt = 2 := by rw [c23]; rfl
              refine ez_tsIn hX (2) (87) 193 dX3_receive_106 cx ⟨by decide, by decide, rfl, by decide⟩ ?_
              refine ez_aload_n hX 2 dX3_receive_193 rfl ?_
              refine ez_aload_n hX 2 dX3_receive_194 rfl ?_
              refine ez_getr hX (kw_3 hw) rfl (Nat.le_of_ble_eq_true rfl) (kw_lt hw 3 (by decide)) (Nat.le_of_ble_eq_true rfl) inX3 (w + 6) rfl (rw_3_3 hw) wf_X3_21 dX3_receive_195 ?_
              refine ez_aload_n hX 2 dX3_receive_198 rfl ?_
              refine ez_geti hX (kw_3 hw) rfl (Nat.le_of_ble_eq_true rfl) (kw_lt hw 3 (by decide)) (Nat.le_of_ble_eq_true rfl) inX3 rfl wf_X3_77 dX3_receive_199 ?_
              refine ez_aload_n hX 2 dX3_receive_202 rfl ?_
              refine ez_getr hX (kw_3 hw) rfl (Nat.le_of_ble_eq_true rfl) (kw_lt hw 3 (by decide)) (Nat.le_of_ble_eq_true rfl) inX3 1 rfl (rw_3_1 hw) wf_X3_46 dX3_receive_203 ?_
              refine ez_aload_n hX 2 dX3_receive_206 rfl ?_
              refine ez_geti hX (kw_3 hw) rfl (Nat.le_of_ble_eq_true rfl) (kw_lt hw 3 (by decide)) (Nat.le_of_ble_eq_true rfl) inX3 rfl wf_X3_74 dX3_receive_207 ?_
              refine ez_callV hX (N0 := 0) (As := [.int (M8.1 (w + 3) 10)]) (st := [.int (M8.1 (w + 3) 11), .ref (ez_B X + (w + 6)), .ref (ez_B X + (w + 3))]) kc_1 (Nat.le_of_ble_eq_true rfl) lc_1 rfl (ec_X2_mark _ _ _ M8 (M8.1 (w + 3) 10)) (Or.inl rfl) wm_X3_112 wv_X2_mark we_X2_mark wy_X2_mark rfl wd_X2_mark wi_X2 (ez_rok hRm rfl) (Nat.le_of_ble_eq_true rfl) dX3_receive_210 ?_
              refine ez_nmI (fun r24 er24 => ?_)
              refine ez_aload_n hX 2 dX3_receive_213 rfl ?_
              refine ez_getl hX (kw_3 hw) rfl (Nat.le_of_ble_eq_true rfl) (kw_lt hw 3 (by decide)) (Nat.le_of_ble_eq_true rfl) inX3 rfl wf_X3_155 dX3_receive_214 ?_
              refine ez_callV hX (N0 := 0) (As := [.int (M8.1 (w + 3) 11), .int r24, .long (M8.2 (w + 3) 12)]) (st := [.ref (ez_B X + (w + 3))]) (kw_6 hw) (Nat.le_of_ble_eq_true rfl) (kw_lt hw 6 (by decide)) rfl (ec_X7_bind _ _ _ w hw M8 (M8.1 (w + 3) 11) r24 (M8.2 (w + 3) 12)) (Or.inl rfl) wm_X3_127 wv_X7_bind we_X7_bind wy_X7_bind rfl wd_X7_bind wi_X7 (ez_rok hRm rfl) (Nat.le_of_ble_eq_true rfl) dX3_receive_217 ?_
              refine ez_nmIM (fun r25 M26 eM26 => ?_)
              refine ez_puti hX (kw_3 hw) rfl (Nat.le_of_ble_eq_true rfl) (kw_lt hw 3 (by decide)) (Nat.le_of_ble_eq_true rfl) inX3 tyX3 tyX3_ok nmX3 r25 rfl wf_X3_77 rfl rfl rfl dX3_receive_220 ?_
              refine ez_nmM (fun M28 eM28 => ?_)
              refine ez_aload_n hX 2 dX3_receive_223 rfl ?_
              refine ez_iconst hX (1 : Int32) dX3_receive_224 (by decide) ?_
              refine ez_callV hX (N0 := 0) (As := [.int (1 : Int32)]) (st := []) (kw_3 hw) (Nat.le_of_ble_eq_true rfl) (kw_lt hw 3 (by decide)) rfl (ec_X3_workOn _ _ _ w hw M28 (1 : Int32)) (Or.inl rfl) wm_X3_131 wv_X3_workOn we_X3_workOn wy_X3_workOn rfl wd_X3_workOn wi_X3 (ez_rok hRm rfl) (Nat.le_of_ble_eq_true rfl) dX3_receive_225 ?_
              refine ez_nmM (fun M29 eM29 => ?_)
              refine ez_goto hX 411 dX3_receive_228 (by decide) ?_
              have ht : t0 = M29 := hT.symm.trans (by simp only [et_X3_receive, if_neg c1, er2, er3, eM4, er5, eM6, er7, eM8, if_neg c9, if_neg c15, if_neg c20, if_neg c21, if_pos c23, er24, eM26, eM28, eM29])
              subst ht
              exact ez_vret hX hQ dX3_receive_411 rfl rfl
            · skip
              by_cases c30 : r2 = (3 : Int32)
              · have cx : (r2).toInt = 3 := by rw [c30]; rfl
                refine ez_tsIn hX (3) (125) 231 dX3_receive_106 cx ⟨by decide, by decide, rfl, by decide⟩ ?_
                refine ez_aload_n hX 2 dX3_receive_231 rfl ?_
                refine ez_iconst hX (1 : Int32) dX3_receive_232 (by decide) ?_
                refine ez_callV hX (N0 := 0) (As := [.int (1 : Int32)]) (st := []) (kw_3 hw) (Nat.le_of_ble_eq_true rfl) (kw_lt hw 3 (by decide)) rfl (ec_X3_workOn _ _ _ w hw M8 (1 : Int32)) (Or.inl rfl) wm_X3_131 wv_X3_workOn we_X3_workOn wy_X3_workOn rfl wd_X3_workOn wi_X3 (ez_rok hRm rfl) (Nat.le_of_ble_eq_true rfl) dX3_receive_233 ?_
                refine ez_nmM (fun M31 eM31 => ?_)
                refine ez_goto hX 411 dX3_receive_236 (by decide) ?_
                have ht : t0 = M31 := hT.symm.trans (by simp only [et_X3_receive, if_neg c1, er2, er3, eM4, er5, eM6, er7, eM8, if_neg c9, if_neg c15, if_neg c20, if_neg c21, if_neg c23, if_pos c30, eM31])
                subst ht
                exact ez_vret hX hQ dX3_receive_411 rfl rfl
              · skip
                by_cases c32 : r2 = (4 : Int32)
                · have cx : (r2).toInt = 4 := by rw [c32]; rfl
                  refine ez_tsIn hX (4) (133) 239 dX3_receive_106 cx ⟨by decide, by decide, rfl, by decide⟩ ?_
                  refine ez_aload_n hX 2 dX3_receive_239 rfl ?_
                  refine ez_aload_n hX 2 dX3_receive_240 rfl ?_
                  refine ez_getr hX (kw_3 hw) rfl (Nat.le_of_ble_eq_true rfl) (kw_lt hw 3 (by decide)) (Nat.le_of_ble_eq_true rfl) inX3 w rfl (rw_3_2 hw) wf_X3_50 dX3_receive_241 ?_
                  refine ez_getr hX (kw_0 hw) rfl (Nat.le_of_ble_eq_true rfl) (kw_lt0 hw) (Nat.le_of_ble_eq_true rfl) inX10 (w + 2) rfl (rw_0_1 hw) wf_X3_172 dX3_receive_244 ?_
                  refine ez_aload_n hX 2 dX3_receive_247 rfl ?_
                  refine ez_getr hX (kw_3 hw) rfl (Nat.le_of_ble_eq_true rfl) (kw_lt hw 3 (by decide)) (Nat.le_of_ble_eq_true rfl) inX3 1 rfl (rw_3_1 hw) wf_X3_46 dX3_receive_248 ?_
                  refine ez_aload_n hX 2 dX3_receive_251 rfl ?_
                  refine ez_geti hX (kw_3 hw) rfl (Nat.le_of_ble_eq_true rfl) (kw_lt hw 3 (by decide)) (Nat.le_of_ble_eq_true rfl) inX3 rfl wf_X3_74 dX3_receive_252 ?_
                  refine ez_callV hX (N0 := 0) (As := [.int (M8.1 (w + 3) 10)]) (st := [.ref (ez_B X + (w + 2)), .ref (ez_B X + (w + 3))]) kc_1 (Nat.le_of_ble_eq_true rfl) lc_1 rfl (ec_X2_mark _ _ _ M8 (M8.1 (w + 3) 10)) (Or.inl rfl) wm_X3_112 wv_X2_mark we_X2_mark wy_X2_mark rfl wd_X2_mark wi_X2 (ez_rok hRm rfl) (Nat.le_of_ble_eq_true rfl) dX3_receive_255 ?_
                  refine ez_nmI (fun r33 er33 => ?_)
                  refine ez_callSN hX (N0 := 0) (As := [.ref (ez_B X + (w + 2)), .int r33]) (st := [.ref (ez_B X + (w + 3))]) (ec_X11_at _ _ _ (w + 2) 3 (kw_2 hw) (kw_lt hw 2 (by decide)) M8 r33) (Or.inl rfl) wm_X3_177 ws_X11_at wy_X11_at rfl wd_X11_at wi_X11 (ez_rok hRm rfl) (Nat.le_of_ble_eq_true rfl) dX3_receive_258 ?_
                  refine ez_nmI (fun r34 er34 => ?_)
                  refine ez_callV hX (N0 := 0) (As := [.int r34]) (st := []) (kw_3 hw) (Nat.le_of_ble_eq_true rfl) (kw_lt hw 3 (by decide)) rfl (ec_X3_call _ _ _ w hw M8 r34) (Or.inl rfl) wm_X3_181 wv_X3_call we_X3_call wy_X3_call rfl wd_X3_call wi_X3 (ez_rok hRm rfl) (Nat.le_of_ble_eq_true rfl) dX3_receive_261 ?_
                  refine ez_nmM (fun M35 eM35 => ?_)
                  refine ez_goto hX 411 dX3_receive_264 (by decide) ?_
                  have ht : t0 = M35 := hT.symm.trans (by simp only [et_X3_receive, if_neg c1, er2, er3, eM4, er5, eM6, er7, eM8, if_neg c9, if_neg c15, if_neg c20, if_neg c21, if_neg c23, if_neg c30, if_pos c32, er33, er34, eM35])
                  subst ht
                  exact ez_vret hX hQ dX3_receive_411 rfl rfl
                · skip
                  by_cases c36 : r2 = (5 : Int32)
                  · have cx : (r2).toInt = 5 := by rw [c36]; rfl
                    refine ez_tsIn hX (5) (161) 267 dX3_receive_106 cx ⟨by decide, by decide, rfl, by decide⟩ ?_
                    refine ez_aload_n hX 2 dX3_receive_267 rfl ?_
                    refine ez_aload_n hX 2 dX3_receive_268 rfl ?_
                    refine ez_getr hX (kw_3 hw) rfl (Nat.le_of_ble_eq_true rfl) (kw_lt hw 3 (by decide)) (Nat.le_of_ble_eq_true rfl) inX3 (w + 8) rfl (rw_3_4 hw) wf_X3_28 dX3_receive_269 ?_
                    refine ez_iload_n hX 1 dX3_receive_272 rfl ?_
                    refine ez_callV hX (N0 := 0) (As := [.int (M.1 (w + 3) 13)]) (st := [.ref (ez_B X + (w + 3))]) (kw_8 hw) (Nat.le_of_ble_eq_true rfl) (kw_lt hw 8 (by decide)) rfl (ec_X0_escape _ _ _ w hw M8 (M.1 (w + 3) 13)) (Or.inl rfl) wm_X3_184 wv_X0_escape we_X0_escape wy_X0_escape rfl wd_X0_escape wi_X0 (ez_rok hRm rfl) (Nat.le_of_ble_eq_true rfl) dX3_receive_273 ?_
                    refine ez_nmI (fun r37 er37 => ?_)
                    refine ez_aload_n hX 2 dX3_receive_276 rfl ?_
                    refine ez_getl hX (kw_3 hw) rfl (Nat.le_of_ble_eq_true rfl) (kw_lt hw 3 (by decide)) (Nat.le_of_ble_eq_true rfl) inX3 rfl wf_X3_155 dX3_receive_277 ?_
                    refine ez_callV hX (N0 := 0) (As := [.int r37, .long (M8.2 (w + 3) 12)]) (st := []) (kw_3 hw) (Nat.le_of_ble_eq_true rfl) (kw_lt hw 3 (by decide)) rfl (ec_X3_go _ _ _ w hw M8 r37 (M8.2 (w + 3) 12)) (Or.inl rfl) wm_X3_187 wv_X3_go we_X3_go wy_X3_go rfl wd_X3_go wi_X3 (ez_rok hRm rfl) (Nat.le_of_ble_eq_true rfl) dX3_receive_280 ?_
                    refine ez_nmM (fun M38 eM38 => ?_)
                    refine ez_goto hX 411 dX3_receive_283 (by decide) ?_
                    have ht : t0 = M38 := hT.symm.trans (by simp only [et_X3_receive, if_neg c1, er2, er3, eM4, er5, eM6, er7, eM8, if_neg c9, if_neg c15, if_neg c20, if_neg c21, if_neg c23, if_neg c30, if_neg c32, if_pos c36, er37, eM38])
                    subst ht
                    exact ez_vret hX hQ dX3_receive_411 rfl rfl
                  · skip
                    by_cases c39 : r2 = (8 : Int32)
                    · have cx : (r2).toInt = 8 := by rw [c39]; rfl
                      refine ez_tsIn hX (8) (224) 330 dX3_receive_106 cx ⟨by decide, by decide, rfl, by decide⟩ ?_
                      refine ez_aload_n hX 2 dX3_receive_330 rfl ?_
                      refine ez_iload_n hX 1 dX3_receive_331 rfl ?_
                      refine ez_callV hX (N0 := 0) (As := [.int (M.1 (w + 3) 13)]) (st := []) (kw_3 hw) (Nat.le_of_ble_eq_true rfl) (kw_lt hw 3 (by decide)) rfl (ec_X3_receiveWind _ _ _ w hw M8 (M.1 (w + 3) 13)) (Or.inl rfl) wm_X3_201 wv_X3_receiveWind we_X3_receiveWind wy_X3_receiveWind rfl wd_X3_receiveWind wi_X3 (ez_rok hRm rfl) (Nat.le_of_ble_eq_true rfl) dX3_receive_332 ?_
                      refine ez_nmM (fun M40 eM40 => ?_)
                      refine ez_goto hX 411 dX3_receive_335 (by decide) ?_
                      have ht : t0 = M40 := hT.symm.trans (by simp only [et_X3_receive, if_neg c1, er2, er3, eM4, er5, eM6, er7, eM8, if_neg c9, if_neg c15, if_neg c20, if_neg c21, if_neg c23, if_neg c30, if_neg c32, if_neg c36, if_pos c39, eM40])
                      subst ht
                      exact ez_vret hX hQ dX3_receive_411 rfl rfl
                    · skip
                      by_cases c41 : r2 = (10 : Int32)
                      · have cx : (r2).toInt = 10 := by rw [c41]; rfl
                        refine ez_tsIn hX (10) (232) 338 dX3_receive_106 cx ⟨by decide, by decide, rfl, by decide⟩ ?_
                        refine ez_aload_n hX 2 dX3_receive_338 rfl ?_
                        refine ez_aload_n hX 2 dX3_receive_339 rfl ?_
                        refine ez_getr hX (kw_3 hw) rfl (Nat.le_of_ble_eq_true rfl) (kw_lt hw 3 (by decide)) (Nat.le_of_ble_eq_true rfl) inX3 (w + 17) rfl (rw_3_5 hw) wf_X3_35 dX3_receive_340 ?_
                        refine ez_aload_n hX 2 dX3_receive_343 rfl ?_
                        refine ez_geti hX (kw_3 hw) rfl (Nat.le_of_ble_eq_true rfl) (kw_lt hw 3 (by decide)) (Nat.le_of_ble_eq_true rfl) inX3 rfl wf_X3_83 dX3_receive_344 ?_
                        refine ez_aload_n hX 2 dX3_receive_347 rfl ?_
                        refine ez_getr hX (kw_3 hw) rfl (Nat.le_of_ble_eq_true rfl) (kw_lt hw 3 (by decide)) (Nat.le_of_ble_eq_true rfl) inX3 (w + 23) rfl (rw_3_7 hw) wf_X3_43 dX3_receive_348 ?_
                        refine ez_aload_n hX 2 dX3_receive_351 rfl ?_
                        refine ez_getr hX (kw_3 hw) rfl (Nat.le_of_ble_eq_true rfl) (kw_lt hw 3 (by decide)) (Nat.le_of_ble_eq_true rfl) inX3 (w + 8) rfl (rw_3_4 hw) wf_X3_28 dX3_receive_352 ?_
                        refine ez_iload_n hX 1 dX3_receive_355 rfl ?_
                        refine ez_callV hX (N0 := 0) (As := [.int (M.1 (w + 3) 13)]) (st := [.ref (ez_B X + (w + 23)), .int (M8.1 (w + 3) 14), .ref (ez_B X + (w + 17)), .ref (ez_B X + (w + 3))]) (kw_8 hw) (Nat.le_of_ble_eq_true rfl) (kw_lt hw 8 (by decide)) rfl (ec_X0_escape _ _ _ w hw M8 (M.1 (w + 3) 13)) (Or.inl rfl) wm_X3_184 wv_X0_escape we_X0_escape wy_X0_escape rfl wd_X0_escape wi_X0 (ez_rok hRm rfl) (Nat.le_of_ble_eq_true rfl) dX3_receive_356 ?_
                        refine ez_nmI (fun r42 er42 => ?_)
                        refine ez_callSN hX (N0 := 0) (As := [.ref (ez_B X + (w + 23)), .int r42]) (st := [.int (M8.1 (w + 3) 14), .ref (ez_B X + (w + 17)), .ref (ez_B X + (w + 3))]) (ec_X11_at _ _ _ (w + 23) 301 (kw_23 hw) (kw_lt hw 23 (by decide)) M8 r42) (Or.inl rfl) wm_X3_177 ws_X11_at wy_X11_at rfl wd_X11_at wi_X11 (ez_rok hRm rfl) (Nat.le_of_ble_eq_true rfl) dX3_receive_359 ?_
                        refine ez_nmI (fun r43 er43 => ?_)
                        refine ez_callV hX (N0 := 0) (As := [.int (M8.1 (w + 3) 14), .int r43]) (st := [.ref (ez_B X + (w + 3))]) (kw_17 hw) (Nat.le_of_ble_eq_true rfl) (kw_lt hw 17 (by decide)) rfl (ec_X9_next _ _ _ w hw M8 (M8.1 (w + 3) 14) r43) (Or.inl rfl) wm_X3_204 wv_X9_next we_X9_next wy_X9_next rfl wd_X9_next wi_X9 (ez_rok hRm rfl) (Nat.le_of_ble_eq_true rfl) dX3_receive_362 ?_
                        refine ez_nmI (fun r44 er44 => ?_)
                        refine ez_puti hX (kw_3 hw) rfl (Nat.le_of_ble_eq_true rfl) (kw_lt hw 3 (by decide)) (Nat.le_of_ble_eq_true rfl) inX3 tyX3 tyX3_ok nmX3 r44 rfl wf_X3_83 rfl rfl rfl dX3_receive_365 ?_
                        refine ez_nmM (fun M45 eM45 => ?_)
                        refine ez_aload_n hX 2 dX3_receive_368 rfl ?_
                        refine ez_aload_n hX 2 dX3_receive_369 rfl ?_
                        refine ez_getr hX (kw_3 hw) rfl (Nat.le_of_ble_eq_true rfl) (kw_lt hw 3 (by decide)) (Nat.le_of_ble_eq_true rfl) inX3 (w + 8) rfl (rw_3_4 hw) wf_X3_28 dX3_receive_370 ?_
                        refine ez_iload_n hX 1 dX3_receive_373 rfl ?_
                        refine ez_callV hX (N0 := 0) (As := [.int (M.1 (w + 3) 13)]) (st := [.ref (ez_B X + (w + 3))]) (kw_8 hw) (Nat.le_of_ble_eq_true rfl) (kw_lt hw 8 (by decide)) rfl (ec_X0_escape _ _ _ w hw M45 (M.1 (w + 3) 13)) (Or.inl rfl) wm_X3_184 wv_X0_escape we_X0_escape wy_X0_escape rfl wd_X0_escape wi_X0 (ez_rok hRm rfl) (Nat.le_of_ble_eq_true rfl) dX3_receive_374 ?_
                        refine ez_nmI (fun r46 er46 => ?_)
                        refine ez_aload_n hX 2 dX3_receive_377 rfl ?_
                        refine ez_getr hX (kw_3 hw) rfl (Nat.le_of_ble_eq_true rfl) (kw_lt hw 3 (by decide)) (Nat.le_of_ble_eq_true rfl) inX3 (w + 8) rfl (rw_3_4 hw) wf_X3_28 dX3_receive_378 ?_
                        refine ez_iload_n hX 1 dX3_receive_381 rfl ?_
                        refine ez_callV hX (N0 := 0) (As := [.int (M.1 (w + 3) 13)]) (st := [.int r46, .ref (ez_B X + (w + 3))]) (kw_8 hw) (Nat.le_of_ble_eq_true rfl) (kw_lt hw 8 (by decide)) rfl (ec_X0_kept _ _ _ w hw M45 (M.1 (w + 3) 13)) (Or.inl rfl) wm_X3_207 wv_X0_kept we_X0_kept wy_X0_kept rfl wd_X0_kept wi_X0 (ez_rok hRm rfl) (Nat.le_of_ble_eq_true rfl) dX3_receive_382 ?_
                        refine ez_nmL (fun r47 er47 => ?_)
                        refine ez_callV hX (N0 := 0) (As := [.int r46, .long r47]) (st := []) (kw_3 hw) (Nat.le_of_ble_eq_true rfl) (kw_lt hw 3 (by decide)) rfl (ec_X3_go _ _ _ w hw M45 r46 r47) (Or.inl rfl) wm_X3_187 wv_X3_go we_X3_go wy_X3_go rfl wd_X3_go wi_X3 (ez_rok hRm rfl) (Nat.le_of_ble_eq_true rfl) dX3_receive_385 ?_
                        refine ez_nmM (fun M48 eM48 => ?_)
                        refine ez_goto hX 411 dX3_receive_388 (by decide) ?_
                        have ht : t0 = M48 := hT.symm.trans (by simp only [et_X3_receive, if_neg c1, er2, er3, eM4, er5, eM6, er7, eM8, if_neg c9, if_neg c15, if_neg c20, if_neg c21, if_neg c23, if_neg c30, if_neg c32, if_neg c36, if_neg c39, if_pos c41, er42, er43, er44, eM45, er46, er47, eM48])
                        subst ht
                        exact ez_vret hX hQ dX3_receive_411 rfl rfl
                      · skip
                        refine ez_tsD hX [0, 1, 2, 3, 4, 5, 6, 7, 8, 10] 391 dX3_receive_106 (List.forall_mem_cons.mpr ⟨lv_neT c21 rfl, (List.forall_mem_cons.mpr ⟨lv_neT c9 rfl, (List.forall_mem_cons.mpr ⟨lv_neT c23 rfl, (List.forall_mem_cons.mpr ⟨lv_neT c30 rfl, (List.forall_mem_cons.mpr ⟨lv_neT c32 rfl, (List.forall_mem_cons.mpr ⟨lv_neT c36 rfl, (List.forall_mem_cons.mpr ⟨lv_neT c15 rfl, (List.forall_mem_cons.mpr ⟨lv_neT c20 rfl, (List.forall_mem_cons.mpr ⟨lv_neT c39 rfl, (List.forall_mem_cons.mpr ⟨lv_neT c41 rfl, (fun _ h => absurd h List.not_mem_nil)⟩)⟩)⟩)⟩)⟩)⟩)⟩)⟩)⟩)⟩) (by decide +kernel) (by decide) ?_
                        refine ez_aload_n hX 2 dX3_receive_391 rfl ?_
                        refine ez_aload_n hX 2 dX3_receive_392 rfl ?_
                        refine ez_getr hX (kw_3 hw) rfl (Nat.le_of_ble_eq_true rfl) (kw_lt hw 3 (by decide)) (Nat.le_of_ble_eq_true rfl) inX3 (w + 8) rfl (rw_3_4 hw) wf_X3_28 dX3_receive_393 ?_
                        refine ez_iload_n hX 1 dX3_receive_396 rfl ?_
                        refine ez_callV hX (N0 := 0) (As := [.int (M.1 (w + 3) 13)]) (st := [.ref (ez_B X + (w + 3))]) (kw_8 hw) (Nat.le_of_ble_eq_true rfl) (kw_lt hw 8 (by decide)) rfl (ec_X0_escape _ _ _ w hw M8 (M.1 (w + 3) 13)) (Or.inl rfl) wm_X3_184 wv_X0_escape we_X0_escape wy_X0_escape rfl wd_X0_escape wi_X0 (ez_rok hRm rfl) (Nat.le_of_ble_eq_true rfl) dX3_receive_397 ?_
                        refine ez_nmI (fun r49 er49 => ?_)
                        refine ez_aload_n hX 2 dX3_receive_400 rfl ?_
                        refine ez_getr hX (kw_3 hw) rfl (Nat.le_of_ble_eq_true rfl) (kw_lt hw 3 (by decide)) (Nat.le_of_ble_eq_true rfl) inX3 (w + 8) rfl (rw_3_4 hw) wf_X3_28 dX3_receive_401 ?_
                        refine ez_iload_n hX 1 dX3_receive_404 rfl ?_
                        refine ez_callV hX (N0 := 0) (As := [.int (M.1 (w + 3) 13)]) (st := [.int r49, .ref (ez_B X + (w + 3))]) (kw_8 hw) (Nat.le_of_ble_eq_true rfl) (kw_lt hw 8 (by decide)) rfl (ec_X0_kept _ _ _ w hw M8 (M.1 (w + 3) 13)) (Or.inl rfl) wm_X3_207 wv_X0_kept we_X0_kept wy_X0_kept rfl wd_X0_kept wi_X0 (ez_rok hRm rfl) (Nat.le_of_ble_eq_true rfl) dX3_receive_405 ?_
                        refine ez_nmL (fun r50 er50 => ?_)
                        refine ez_callV hX (N0 := 0) (As := [.int r49, .long r50]) (st := []) (kw_3 hw) (Nat.le_of_ble_eq_true rfl) (kw_lt hw 3 (by decide)) rfl (ec_X3_go _ _ _ w hw M8 r49 r50) (Or.inl rfl) wm_X3_187 wv_X3_go we_X3_go wy_X3_go rfl wd_X3_go wi_X3 (ez_rok hRm rfl) (Nat.le_of_ble_eq_true rfl) dX3_receive_408 ?_
                        refine ez_nmM (fun M51 eM51 => ?_)
                        have ht : t0 = M51 := hT.symm.trans (by simp only [et_X3_receive, if_neg c1, er2, er3, eM4, er5, eM6, er7, eM8, if_neg c9, if_neg c15, if_neg c20, if_neg c21, if_neg c23, if_neg c30, if_neg c32, if_neg c36, if_neg c39, if_neg c41, er49, er50, eM51])
                        subst ht
                        exact ez_vret hX hQ dX3_receive_411 rfl rfl
        · -- c20 on
          refine ez_aload_n hX 2 dX3_receive_86 rfl ?_
          refine ez_getl hX (kw_3 hw) rfl (Nat.le_of_ble_eq_true rfl) (kw_lt hw 3 (by decide)) (Nat.le_of_ble_eq_true rfl) inX3 rfl wf_X3_155 dX3_receive_87 ?_
          refine ez_callSN hX (N0 := 0) (As := [.long (M8.2 (w + 3) 12)]) (st := []) (ec_X11_isNumber _ _ _ M8 (M8.2 (w + 3) 12)) (Or.inl rfl) wm_X3_145 ws_X11_isNumber wy_X11_isNumber rfl wd_X11_isNumber wi_X11 (ez_rok hRm rfl) (Nat.le_of_ble_eq_true rfl) dX3_receive_90 ?_
          refine ez_nmI (fun r52 er52 => ?_)
          refine ez_if_ne hX 105 dX3_receive_93 (by decide) (fun c53 => ?_) (fun c53 => ?_)
          · -- c53 jump
            refine ez_iload_n hX 0 dX3_receive_105 rfl ?_
            have cx : (r2).toInt = 7 := by rw [c20]; rfl
            refine ez_tsIn hX (7) (195) 301 dX3_receive_106 cx ⟨by decide, by decide, rfl, by decide⟩ ?_
            refine ez_aload_n hX 2 dX3_receive_301 rfl ?_
            refine ez_getr hX (kw_3 hw) rfl (Nat.le_of_ble_eq_true rfl) (kw_lt hw 3 (by decide)) (Nat.le_of_ble_eq_true rfl) inX3 w rfl (rw_3_2 hw) wf_X3_50 dX3_receive_302 ?_
            refine ez_getr hX (kw_0 hw) rfl (Nat.le_of_ble_eq_true rfl) (kw_lt0 hw) (Nat.le_of_ble_eq_true rfl) inX10 (w + 1) rfl (rw_0_0 hw) wf_X3_194 dX3_receive_305 ?_
            refine ez_aload_n hX 2 dX3_receive_308 rfl ?_
            refine ez_getr hX (kw_3 hw) rfl (Nat.le_of_ble_eq_true rfl) (kw_lt hw 3 (by decide)) (Nat.le_of_ble_eq_true rfl) inX3 1 rfl (rw_3_1 hw) wf_X3_46 dX3_receive_309 ?_
            refine ez_aload_n hX 2 dX3_receive_312 rfl ?_
            refine ez_geti hX (kw_3 hw) rfl (Nat.le_of_ble_eq_true rfl) (kw_lt hw 3 (by decide)) (Nat.le_of_ble_eq_true rfl) inX3 rfl wf_X3_74 dX3_receive_313 ?_
            refine ez_callV hX (N0 := 0) (As := [.int (M8.1 (w + 3) 10)]) (st := [.ref (ez_B X + (w + 1))]) kc_1 (Nat.le_of_ble_eq_true rfl) lc_1 rfl (ec_X2_mark _ _ _ M8 (M8.1 (w + 3) 10)) (Or.inl rfl) wm_X3_112 wv_X2_mark we_X2_mark wy_X2_mark rfl wd_X2_mark wi_X2 (ez_rok hRm rfl) (Nat.le_of_ble_eq_true rfl) dX3_receive_316 ?_
            refine ez_nmI (fun r54 er54 => ?_)
            refine ez_aload_n hX 2 dX3_receive_319 rfl ?_
            refine ez_getl hX (kw_3 hw) rfl (Nat.le_of_ble_eq_true rfl) (kw_lt hw 3 (by decide)) (Nat.le_of_ble_eq_true rfl) inX3 rfl wf_X3_155 dX3_receive_320 ?_
            refine ez_l2i hX dX3_receive_323 ?_
            refine ez_callSN hX (N0 := 0) (As := [.ref (ez_B X + (w + 1)), .int r54, .int (((M8.2 (w + 3) 12)).toInt32)]) (st := []) (ec_X11_put _ _ _ (w + 1) 4 (kw_1 hw) (kw_lt hw 1 (by decide)) M8 r54 (((M8.2 (w + 3) 12)).toInt32)) (Or.inl rfl) wm_X3_197 ws_X11_put wy_X11_put rfl wd_X11_put wi_X11 (ez_rok hRm rfl) (Nat.le_of_ble_eq_true rfl) dX3_receive_324 ?_
            refine ez_nmM (fun M55 eM55 => ?_)
            refine ez_goto hX 411 dX3_receive_327 (by decide) ?_
            have ht : t0 = M55 := hT.symm.trans (by simp only [et_X3_receive, if_neg c1, er2, er3, eM4, er5, eM6, er7, eM8, if_neg c9, if_neg c15, if_pos c20, er52, if_neg c53, er54, eM55])
            subst ht
            exact ez_vret hX hQ dX3_receive_411 rfl rfl
          · -- c53 on
            refine ez_aload_n hX 2 dX3_receive_96 rfl ?_
            refine ez_getr hX (kw_3 hw) rfl (Nat.le_of_ble_eq_true rfl) (kw_lt hw 3 (by decide)) (Nat.le_of_ble_eq_true rfl) inX3 (w + 4) rfl (rw_3_0 hw) wf_X3_12 dX3_receive_97 ?_
            refine ez_iconst hX (2 : Int32) dX3_receive_100 (by decide) ?_
            refine ez_puti hX (kw_4 hw) rfl (Nat.le_of_ble_eq_true rfl) (kw_lt hw 4 (by decide)) (Nat.le_of_ble_eq_true rfl) inX4 tyX4 tyX4_ok nmX4 (2 : Int32) rfl wf_X3_86 rfl rfl rfl dX3_receive_101 ?_
            refine ez_nmM (fun M56 eM56 => ?_)
            have ht : t0 = M56 := hT.symm.trans (by simp only [et_X3_receive, if_neg c1, er2, er3, eM4, er5, eM6, er7, eM8, if_neg c9, if_neg c15, if_pos c20, er52, if_pos c53, eM56])
            subst ht
            exact ez_vret hX hQ dX3_receive_104 rfl rfl
  · -- c1 on
    refine ez_aload_n hX 0 dX3_receive_7 rfl ?_
    refine ez_getr hX (kw_3 hw) rfl (Nat.le_of_ble_eq_true rfl) (kw_lt hw 3 (by decide)) (Nat.le_of_ble_eq_true rfl) inX3 (w + 4) rfl (rw_3_0 hw) wf_X3_12 dX3_receive_8 ?_
    refine ez_aload_n hX 0 dX3_receive_11 rfl ?_
    refine ez_getl hX (kw_3 hw) rfl (Nat.le_of_ble_eq_true rfl) (kw_lt hw 3 (by decide)) (Nat.le_of_ble_eq_true rfl) inX3 rfl wf_X3_155 dX3_receive_12 ?_
    refine ez_callV hX (N0 := 0) (As := [.long (M.2 (w + 3) 12)]) (st := []) (kw_4 hw) (Nat.le_of_ble_eq_true rfl) (kw_lt hw 4 (by decide)) rfl (ec_X4_over _ _ _ (w + 4) (ew_eo hw) M (M.2 (w + 3) 12)) (Or.inl rfl) wm_X3_159 wv_X4_over we_X4_over wy_X4_over rfl wd_X4_over wi_X4 (ez_rok hRm rfl) (Nat.le_of_ble_eq_true rfl) dX3_receive_15 ?_
    refine ez_nmM (fun M57 eM57 => ?_)
    have ht : t0 = M57 := hT.symm.trans (by simp only [et_X3_receive, if_pos c1, eM57])
    subst ht
    exact ez_vret hX hQ dX3_receive_18 rfl rfl

def et_X3_move_2  (w : Nat)  : Nat → em_M → Int32 → Int32 → Int32 × em_M
  | 0, M, _, _ => (0, M)
  | fu + 1, M, n, made =>
  (if n ≤ made then (made, M) else (if (M.1 (w + 4) 0) = (-5 : Int32) then let M3 := em_pI M (w + 4) 1 ((M.1 (w + 4) 1) + (1 : Int32))
  (if (M3.1 (w + 3) 9) = 0 then let M5 := et_X3_work w M3
  (if (M5.1 (w + 4) 0) = (-5 : Int32) then (if (M5.1 (w + 4) 1) < (300 : Int32) then et_X3_move_2 w fu M5 n (made + (1 : Int32)) else let M8 := em_pI M5 (w + 4) 0 (8 : Int32)
  et_X3_move_2 w fu M8 n (made + (1 : Int32))) else et_X3_move_2 w fu M5 n (made + (1 : Int32))) else let M9 := et_X3_receive w M3
  (if (M9.1 (w + 4) 0) = (-5 : Int32) then (if (M9.1 (w + 4) 1) < (300 : Int32) then et_X3_move_2 w fu M9 n (made + (1 : Int32)) else let M12 := em_pI M9 (w + 4) 0 (8 : Int32)
  et_X3_move_2 w fu M12 n (made + (1 : Int32))) else et_X3_move_2 w fu M9 n (made + (1 : Int32)))) else (made, M)))
def et_X3_move  (w : Nat) (M : em_M) (n : Int32) : Int32 × em_M :=
  et_X3_move_2 w (n.toNatClampNeg + 1) M n (0 : Int32)
set_option maxHeartbeats 4000000 in
set_option maxRecDepth 100000 in
theorem el_X3_move_2 (X : em_X) (w : Nat) (hw : ew w)   (t0 : Int32 × em_M) (hRm : ez_rm X = { frames := 5, cells := 0, slots := 0, locals := 122 }) (hnL : ez_nL X = 3) (hX : ez_ok X cX3_move RX3) (hQ : ez_ret X (some .int) (some (.int t0.1)) 132 em_R (t0.2) 0 0) : ∀ (fu : Nat) (M : em_M) (n : Int32) (made : Int32), ez_cnt made n fu → et_X3_move_2 w fu M n made = t0 → ez_Z X 132 em_R M 0 0 2 [(0, .ref (ez_B X + (w + 3))), (1, .int n), (2, .int made)] [] := by
  intro fu
  induction fu with
  | zero =>
    intro M n made hc hT
    exact absurd hc ez_cntz
  | succ fu ih =>
    intro M n made hc hT
    refine ez_iload_n hX 2 dX3_move_2 rfl ?_
    refine ez_iload_n hX 1 dX3_move_3 rfl ?_
    refine ez_icmp_ge hX 90 dX3_move_4 (by decide) (fun c1 => ?_) (fun c1 => ?_)
    · -- c1 jump
      refine ez_iload_n hX 2 dX3_move_90 rfl ?_
      have ht : t0 = (made, M) := hT.symm.trans (by simp only [et_X3_move_2, if_pos c1])
      subst ht
      exact ez_iret hX hQ dX3_move_91 rfl rfl
    · -- c1 on
      refine ez_aload_n hX 0 dX3_move_7 rfl ?_
      refine ez_getr hX (kw_3 hw) rfl (Nat.le_of_ble_eq_true rfl) (kw_lt hw 3 (by decide)) (Nat.le_of_ble_eq_true rfl) inX3 (w + 4) rfl (rw_3_0 hw) wf_X3_12 dX3_move_8 ?_
      refine ez_geti hX (kw_4 hw) rfl (Nat.le_of_ble_eq_true rfl) (kw_lt hw 4 (by decide)) (Nat.le_of_ble_eq_true rfl) inX4 rfl wf_X3_86 dX3_move_11 ?_
      refine ez_bipush hX (-5 : Int32) dX3_move_14 (by decide) ?_
      refine ez_icmp_ne hX 90 dX3_move_16 (by decide) (fun c2 => ?_) (fun c2 => ?_)
      · -- c2 jump
        refine ez_iload_n hX 2 dX3_move_90 rfl ?_
        have ht : t0 = (made, M) := hT.symm.trans (by simp only [et_X3_move_2, if_neg c1, if_neg c2])
        subst ht
        exact ez_iret hX hQ dX3_move_91 rfl rfl
      · -- c2 on
        refine ez_iinc hX (made + (1 : Int32)) 2 [(2, .int (made + (1 : Int32))), (0, .ref (ez_B X + (w + 3))), (1, .int n)] dX3_move_19 rfl rfl (ez_lt hnL rfl) rfl ?_
        refine ez_aload_n hX 1 dX3_move_22 rfl ?_
        refine ez_getr hX (kw_3 hw) rfl (Nat.le_of_ble_eq_true rfl) (kw_lt hw 3 (by decide)) (Nat.le_of_ble_eq_true rfl) inX3 (w + 4) rfl (rw_3_0 hw) wf_X3_12 dX3_move_23 ?_
        refine ez_dup hX dX3_move_26 rfl ?_
        refine ez_geti hX (kw_4 hw) rfl (Nat.le_of_ble_eq_true rfl) (kw_lt hw 4 (by decide)) (Nat.le_of_ble_eq_true rfl) inX4 rfl wf_X3_89 dX3_move_27 ?_
        refine ez_iconst hX (1 : Int32) dX3_move_30 (by decide) ?_
        refine ez_iadd hX dX3_move_31 ?_
        refine ez_puti hX (kw_4 hw) rfl (Nat.le_of_ble_eq_true rfl) (kw_lt hw 4 (by decide)) (Nat.le_of_ble_eq_true rfl) inX4 tyX4 tyX4_ok nmX4 ((M.1 (w + 4) 1) + (1 : Int32)) rfl wf_X3_89 rfl rfl rfl dX3_move_32 ?_
        refine ez_nmM (fun M3 eM3 => ?_)
        refine ez_aload_n hX 1 dX3_move_35 rfl ?_
        refine ez_geti hX (kw_3 hw) rfl (Nat.le_of_ble_eq_true rfl) (kw_lt hw 3 (by decide)) (Nat.le_of_ble_eq_true rfl) inX3 rfl wf_X3_64 dX3_move_36 ?_
        refine ez_if_eq hX 49 dX3_move_39 (by decide) (fun c4 => ?_) (fun c4 => ?_)
        · -- c4 jump
          refine ez_aload_n hX 1 dX3_move_49 rfl ?_
          refine ez_callV hX (N0 := 0) (As := []) (st := []) (kw_3 hw) (Nat.le_of_ble_eq_true rfl) (kw_lt hw 3 (by decide)) rfl (ec_X3_work _ _ _ w hw M3) (Or.inl rfl) wm_X3_95 wv_X3_work we_X3_work wy_X3_work rfl wd_X3_work wi_X3 (ez_rok hRm rfl) (Nat.le_of_ble_eq_true rfl) dX3_move_50 ?_
          refine ez_nmM (fun M5 eM5 => ?_)
          refine ez_aload_n hX 1 dX3_move_53 rfl ?_
          refine ez_getr hX (kw_3 hw) rfl (Nat.le_of_ble_eq_true rfl) (kw_lt hw 3 (by decide)) (Nat.le_of_ble_eq_true rfl) inX3 (w + 4) rfl (rw_3_0 hw) wf_X3_12 dX3_move_54 ?_
          refine ez_geti hX (kw_4 hw) rfl (Nat.le_of_ble_eq_true rfl) (kw_lt hw 4 (by decide)) (Nat.le_of_ble_eq_true rfl) inX4 rfl wf_X3_86 dX3_move_57 ?_
          refine ez_bipush hX (-5 : Int32) dX3_move_60 (by decide) ?_
          refine ez_icmp_ne hX 2 dX3_move_62 (by decide) (fun c6 => ?_) (fun c6 => ?_)
          · -- c6 jump
            refine ez_lv [1, 2, 0] rfl ?_
            exact ih M5 n (made + (1 : Int32)) (ez_cnts' hc c1) (Eq.trans (by simp only [et_X3_move_2, if_neg c1, if_pos c2, eM3, if_pos c4, eM5, if_neg c6]) hT)
          · -- c6 on
            refine ez_aload_n hX 1 dX3_move_65 rfl ?_
            refine ez_getr hX (kw_3 hw) rfl (Nat.le_of_ble_eq_true rfl) (kw_lt hw 3 (by decide)) (Nat.le_of_ble_eq_true rfl) inX3 (w + 4) rfl (rw_3_0 hw) wf_X3_12 dX3_move_66 ?_
            refine ez_geti hX (kw_4 hw) rfl (Nat.le_of_ble_eq_true rfl) (kw_lt hw 4 (by decide)) (Nat.le_of_ble_eq_true rfl) inX4 rfl wf_X3_89 dX3_move_69 ?_
            refine ez_sipush hX (300 : Int32) dX3_move_72 (by decide) ?_
            refine ez_icmp_lt hX 2 dX3_move_75 (by decide) (fun c7 => ?_) (fun c7 => ?_)
            · -- c7 jump
              refine ez_lv [1, 2, 0] rfl ?_
              exact ih M5 n (made + (1 : Int32)) (ez_cnts' hc c1) (Eq.trans (by simp only [et_X3_move_2, if_neg c1, if_pos c2, eM3, if_pos c4, eM5, if_pos c6, if_pos c7]) hT)
            · -- c7 on
              refine ez_aload_n hX 1 dX3_move_78 rfl ?_
              refine ez_getr hX (kw_3 hw) rfl (Nat.le_of_ble_eq_true rfl) (kw_lt hw 3 (by decide)) (Nat.le_of_ble_eq_true rfl) inX3 (w + 4) rfl (rw_3_0 hw) wf_X3_12 dX3_move_79 ?_
              refine ez_bipush hX (8 : Int32) dX3_move_82 (by decide) ?_
              refine ez_puti hX (kw_4 hw) rfl (Nat.le_of_ble_eq_true rfl) (kw_lt hw 4 (by decide)) (Nat.le_of_ble_eq_true rfl) inX4 tyX4 tyX4_ok nmX4 (8 : Int32) rfl wf_X3_86 rfl rfl rfl dX3_move_84 ?_
              refine ez_nmM (fun M8 eM8 => ?_)
              refine ez_goto hX 2 dX3_move_87 (by decide) ?_
              refine ez_lv [1, 2, 0] rfl ?_
              exact ih M8 n (made + (1 : Int32)) (ez_cnts' hc c1) (Eq.trans (by simp only [et_X3_move_2, if_neg c1, if_pos c2, eM3, if_pos c4, eM5, if_pos c6, if_neg c7, eM8]) hT)
        · -- c4 on
          refine ez_aload_n hX 1 dX3_move_42 rfl ?_
          refine ez_callV hX (N0 := 0) (As := []) (st := []) (kw_3 hw) (Nat.le_of_ble_eq_true rfl) (kw_lt hw 3 (by decide)) rfl (ec_X3_receive _ _ _ w hw M3) (Or.inl rfl) wm_X3_92 wv_X3_receive we_X3_receive wy_X3_receive rfl wd_X3_receive wi_X3 (ez_rok hRm rfl) (Nat.le_of_ble_eq_true rfl) dX3_move_43 ?_
          refine ez_nmM (fun M9 eM9 => ?_)
          refine ez_goto hX 53 dX3_move_46 (by decide) ?_
          refine ez_aload_n hX 1 dX3_move_53 rfl ?_
          refine ez_getr hX (kw_3 hw) rfl (Nat.le_of_ble_eq_true rfl) (kw_lt hw 3 (by decide)) (Nat.le_of_ble_eq_true rfl) inX3 (w + 4) rfl (rw_3_0 hw) wf_X3_12 dX3_move_54 ?_
          refine ez_geti hX (kw_4 hw) rfl (Nat.le_of_ble_eq_true rfl) (kw_lt hw 4 (by decide)) (Nat.le_of_ble_eq_true rfl) inX4 rfl wf_X3_86 dX3_move_57 ?_
          refine ez_bipush hX (-5 : Int32) dX3_move_60 (by decide) ?_
          refine ez_icmp_ne hX 2 dX3_move_62 (by decide) (fun c10 => ?_) (fun c10 => ?_)
          · -- c10 jump
            refine ez_lv [1, 2, 0] rfl ?_
            exact ih M9 n (made + (1 : Int32)) (ez_cnts' hc c1) (Eq.trans (by simp only [et_X3_move_2, if_neg c1, if_pos c2, eM3, if_neg c4, eM9, if_neg c10]) hT)
          · -- c10 on
            refine ez_aload_n hX 1 dX3_move_65 rfl ?_
            refine ez_getr hX (kw_3 hw) rfl (Nat.le_of_ble_eq_true rfl) (kw_lt hw 3 (by decide)) (Nat.le_of_ble_eq_true rfl) inX3 (w + 4) rfl (rw_3_0 hw) wf_X3_12 dX3_move_66 ?_
            refine ez_geti hX (kw_4 hw) rfl (Nat.le_of_ble_eq_true rfl) (kw_lt hw 4 (by decide)) (Nat.le_of_ble_eq_true rfl) inX4 rfl wf_X3_89 dX3_move_69 ?_
            refine ez_sipush hX (300 : Int32) dX3_move_72 (by decide) ?_
            refine ez_icmp_lt hX 2 dX3_move_75 (by decide) (fun c11 => ?_) (fun c11 => ?_)
            · -- c11 jump
              refine ez_lv [1, 2, 0] rfl ?_
              exact ih M9 n (made + (1 : Int32)) (ez_cnts' hc c1) (Eq.trans (by simp only [et_X3_move_2, if_neg c1, if_pos c2, eM3, if_neg c4, eM9, if_pos c10, if_pos c11]) hT)
            · -- c11 on
              refine ez_aload_n hX 1 dX3_move_78 rfl ?_
              refine ez_getr hX (kw_3 hw) rfl (Nat.le_of_ble_eq_true rfl) (kw_lt hw 3 (by decide)) (Nat.le_of_ble_eq_true rfl) inX3 (w + 4) rfl (rw_3_0 hw) wf_X3_12 dX3_move_79 ?_
              refine ez_bipush hX (8 : Int32) dX3_move_82 (by decide) ?_
              refine ez_puti hX (kw_4 hw) rfl (Nat.le_of_ble_eq_true rfl) (kw_lt hw 4 (by decide)) (Nat.le_of_ble_eq_true rfl) inX4 tyX4 tyX4_ok nmX4 (8 : Int32) rfl wf_X3_86 rfl rfl rfl dX3_move_84 ?_
              refine ez_nmM (fun M12 eM12 => ?_)
              refine ez_goto hX 2 dX3_move_87 (by decide) ?_
              refine ez_lv [1, 2, 0] rfl ?_
              exact ih M12 n (made + (1 : Int32)) (ez_cnts' hc c1) (Eq.trans (by simp only [et_X3_move_2, if_neg c1, if_pos c2, eM3, if_neg c4, eM9, if_pos c10, if_neg c11, eM12]) hT)
set_option maxHeartbeats 4000000 in
set_option maxRecDepth 100000 in
theorem ec_X3_move (l : Launch) (D : em_G) (B : Nat) (w : Nat) (hw : ew w) (M : em_M) (n : Int32) : em_C l D B yX3_move cX3_move 3 (some .int) 5 122 0 0 false [.ref (B + (w + 3)), .int n] 132 em_R M (some (.int (et_X3_move w M n).1)) 132 em_R ((et_X3_move w M n).2) := by
  refine em_C_of RX3 [(0, .ref (B + (w + 3))), (1, .int n)] (by decide) rfl rfl (Nat.le_of_ble_eq_true rfl) ?_
  rintro X rfl rfl rfl hRm hnL hnm hsz hX hQ
  obtain ⟨t0, hT⟩ : ∃ tz, et_X3_move w M n = tz := ⟨_, rfl⟩
  rw [hT] at hQ
  refine ez_iconst hX (0 : Int32) dX3_move_0 (by decide) ?_
  refine ez_istore_n hX [(2, .int (0 : Int32)), (0, .ref (ez_B X + (w + 3))), (1, .int n)] dX3_move_1 (ez_lt hnL rfl) rfl ?_
  refine ez_lv [1, 2, 0] rfl ?_
  exact el_X3_move_2 X w hw t0 hRm hnL hX hQ (n.toNatClampNeg + 1) M n (0 : Int32) (ez_cnt0 _) (Eq.trans (by simp only [et_X3_move]) hT)

theorem ef_cpI (a n b m : Nat) (M : em_M) {c : Nat} (h : c ≠ b) : (et_X11_copyRow a n b m M).1 c = M.1 c := by simp [et_X11_copyRow, em_cI, h]
theorem ef_cpI2 (a n b m : Nat) (M : em_M) : (et_X11_copyRow a n b m M).2 = M.2 := rfl
theorem ef_cpL (a n b m : Nat) (M : em_M) {c : Nat} (h : c ≠ b) : (et_X11_copyRow_ a n b m M).2 c = M.2 c := by simp [et_X11_copyRow_, em_cL, h]
theorem ef_cpL1 (a n b m : Nat) (M : em_M) : (et_X11_copyRow_ a n b m M).1 = M.1 := rfl
theorem ef_pI (M : em_M) (o k : Nat) (v : Int32) {c : Nat} (h : c ≠ o) : (em_pI M o k v).1 c = M.1 c := em_pI_ne M k v h
theorem ef_pL1 (M : em_M) (o k : Nat) (v : Int64) : (em_pL M o k v).1 = M.1 := rfl
theorem ef_pI2 (M : em_M) (o k : Nat) (v : Int32) : (em_pI M o k v).2 = M.2 := rfl
theorem ep_gives (w v : Nat) (M : em_M) (z : Int32) (hw : ew w) (hv : ew v) : (em_pI (et_X11_copyRow (v + 23) 301 (w + 23) 301 (et_X11_copyRow (v + 22) 301 (w + 22) 301 (et_X9_copyFrom w v (et_X0_copyFrom w v (et_X7_copyFrom w v (et_X4_copyFrom (w + 4) (v + 4) M)))))) (w + 3) 8 z).1 (v + 3) 9 = M.1 (v + 3) 9 := by
  have hne : ∀ j, 4 ≤ j → j ≤ 23 → v + 3 ≠ w + j := by
    intro j h1 h2
    rcases hw with rfl | rfl | rfl <;> rcases hv with rfl | rfl | rfl <;> omega
  have e1 : ∀ M : em_M, (et_X4_copyFrom (w + 4) (v + 4) M).1 (v + 3) = M.1 (v + 3) := fun M => by
    have h4 := hne 4 (by decide) (by decide)
    have h5 := hne 5 (by decide) (by decide)
    simp only [et_X4_copyFrom]
    rw [ef_cpI _ _ _ _ _ (by omega), ef_pL1, ef_pI _ _ _ _ h4, ef_pI _ _ _ _ h4, ef_pI _ _ _ _ h4, ef_pI _ _ _ _ h4]
  have e2 : ∀ M : em_M, (et_X7_copyFrom w v M).1 (v + 3) = M.1 (v + 3) := fun M => by
    simp only [et_X7_copyFrom]
    rw [ef_cpL1, ef_pI _ _ _ _ (hne 6 (by decide) (by decide))]
  have e3 : ∀ M : em_M, (et_X0_copyFrom w v M).1 (v + 3) = M.1 (v + 3) := fun M => by
    simp only [et_X0_copyFrom]
    rw [ef_cpL1, ef_cpI _ _ _ _ _ (hne 15 (by decide) (by decide)), ef_cpI _ _ _ _ _ (hne 14 (by decide) (by decide)), ef_cpI _ _ _ _ _ (hne 13 (by decide) (by decide)), ef_cpI _ _ _ _ _ (hne 12 (by decide) (by decide)), ef_cpI _ _ _ _ _ (hne 11 (by decide) (by decide)), ef_cpI _ _ _ _ _ (hne 10 (by decide) (by decide)), ef_cpI _ _ _ _ _ (hne 9 (by decide) (by decide)), ef_pI _ _ _ _ (hne 8 (by decide) (by decide))]
  have e4 : ∀ M : em_M, (et_X9_copyFrom w v M).1 (v + 3) = M.1 (v + 3) := fun M => by
    simp only [et_X9_copyFrom]
    rw [ef_cpI _ _ _ _ _ (hne 21 (by decide) (by decide)), ef_cpI _ _ _ _ _ (hne 20 (by decide) (by decide)), ef_cpI _ _ _ _ _ (hne 19 (by decide) (by decide)), ef_cpI _ _ _ _ _ (hne 18 (by decide) (by decide)), ef_pI _ _ _ _ (hne 17 (by decide) (by decide))]
  have e5 : ∀ M : em_M, (em_pI M (w + 3) 8 z).1 (v + 3) 9 = M.1 (v + 3) 9 := fun M => by
    by_cases h : v + 3 = w + 3
    · rw [h, em_pI_self]; rfl
    · rw [ef_pI _ _ _ _ h]
  rw [e5, ef_cpI _ _ _ _ _ (hne 23 (by decide) (by decide)), ef_cpI _ _ _ _ _ (hne 22 (by decide) (by decide)), e4, e3, e2, e1]
theorem ep_gw {k j : Nat} {M : em_M} (hk : ek k) (hj : ek j) (hb : M.1 (j + 13) 9 = 0 ∨ M.1 (j + 13) 9 = 1) : (et_X10_copyFrom (k + 10) (j + 10) M).1 (j + 10 + 3) 9 = 0 ∨ (et_X10_copyFrom (k + 10) (j + 10) M).1 (j + 10 + 3) 9 = 1 := by
  have h1 : j + 10 + 3 ≠ k + 10 + 1 ∧ j + 10 + 3 ≠ k + 10 + 2 := by rcases hk with rfl | rfl <;> rcases hj with rfl | rfl <;> decide
  simp only [et_X10_copyFrom]
  rw [ef_cpI _ _ _ _ _ h1.2, ef_cpI _ _ _ _ _ h1.1]
  exact hb
theorem ez_bn {x : Int32} (h : x = 0 ∨ x = 1) : narrow .boolean (.int x) = .int x := by rcases h with h | h <;> rw [h] <;> rfl
theorem ez_bf {x : Int32} (h : x = 0 ∨ x = 1) : fits .boolean (.int x) = true := by rcases h with h | h <;> rw [h] <;> rfl

def et_X3_copyFrom  (w v : Nat) (M : em_M) : em_M :=
  let M1 := et_X4_copyFrom (w + 4) (v + 4) M
  let M2 := et_X7_copyFrom w v M1
  let M3 := et_X0_copyFrom w v M2
  let M4 := et_X9_copyFrom w v M3
  let M5 := et_X11_copyRow (v + 22) 301 (w + 22) 301 M4
  let M6 := et_X11_copyRow (v + 23) 301 (w + 23) 301 M5
  let M7 := em_pI M6 (w + 3) 8 (M6.1 (v + 3) 8)
  let M8 := em_pI M7 (w + 3) 9 (M7.1 (v + 3) 9)
  let M9 := em_pI M8 (w + 3) 10 (M8.1 (v + 3) 10)
  let M10 := em_pI M9 (w + 3) 11 (M9.1 (v + 3) 11)
  let M11 := em_pL M10 (w + 3) 12 (M10.2 (v + 3) 12)
  let M12 := em_pI M11 (w + 3) 13 (M11.1 (v + 3) 13)
  let M13 := em_pI M12 (w + 3) 14 (M12.1 (v + 3) 14)
  M13
set_option maxHeartbeats 4000000 in
set_option maxRecDepth 100000 in
theorem ec_X3_copyFrom (l : Launch) (D : em_G) (B : Nat) (w : Nat) (hw : ew w) (v : Nat) (hv : ew v) (M : em_M) (hb : M.1 (v + 3) 9 = 0 ∨ M.1 (v + 3) 9 = 1) : em_C l D B yX3_copyFrom cX3_copyFrom 2 none 3 82 0 0 false [.ref (B + (w + 3)), .ref (B + (v + 3))] 132 em_R M (none) 132 em_R ((et_X3_copyFrom w v M)) := by
  refine em_C_of RX3 [(0, .ref (B + (w + 3))), (1, .ref (B + (v + 3)))] (by decide) rfl rfl (Nat.le_of_ble_eq_true rfl) ?_
  rintro X rfl rfl rfl hRm hnL hnm hsz hX hQ
  obtain ⟨t0, hT⟩ : ∃ tz, et_X3_copyFrom w v M = tz := ⟨_, rfl⟩
  rw [hT] at hQ
  refine ez_aload_n hX 0 dX3_copyFrom_0 rfl ?_
  refine ez_getr hX (kw_3 hw) rfl (Nat.le_of_ble_eq_true rfl) (kw_lt hw 3 (by decide)) (Nat.le_of_ble_eq_true rfl) inX3 (w + 4) rfl (rw_3_0 hw) wf_X3_12 dX3_copyFrom_1 ?_
  refine ez_aload_n hX 1 dX3_copyFrom_4 rfl ?_
  refine ez_getr hX (kw_3 hv) rfl (Nat.le_of_ble_eq_true rfl) (kw_lt hv 3 (by decide)) (Nat.le_of_ble_eq_true rfl) inX3 (v + 4) rfl (rw_3_0 hv) wf_X3_12 dX3_copyFrom_5 ?_
  refine ez_callV hX (N0 := 0) (As := [.ref (ez_B X + (v + 4))]) (st := []) (kw_4 hw) (Nat.le_of_ble_eq_true rfl) (kw_lt hw 4 (by decide)) rfl (ec_X4_copyFrom _ _ _ (w + 4) (ew_eo hw) (v + 4) (ew_eo hv) M) (Or.inl rfl) wm_X3_241 wv_X4_copyFrom we_X4_copyFrom wy_X4_copyFrom rfl wd_X4_copyFrom wi_X4 (ez_rok hRm rfl) (Nat.le_of_ble_eq_true rfl) dX3_copyFrom_8 ?_
  refine ez_nmM (fun M1 eM1 => ?_)
  refine ez_aload_n hX 0 dX3_copyFrom_11 rfl ?_
  refine ez_getr hX (kw_3 hw) rfl (Nat.le_of_ble_eq_true rfl) (kw_lt hw 3 (by decide)) (Nat.le_of_ble_eq_true rfl) inX3 (w + 6) rfl (rw_3_3 hw) wf_X3_21 dX3_copyFrom_12 ?_
  refine ez_aload_n hX 1 dX3_copyFrom_15 rfl ?_
  refine ez_getr hX (kw_3 hv) rfl (Nat.le_of_ble_eq_true rfl) (kw_lt hv 3 (by decide)) (Nat.le_of_ble_eq_true rfl) inX3 (v + 6) rfl (rw_3_3 hv) wf_X3_21 dX3_copyFrom_16 ?_
  refine ez_callV hX (N0 := 0) (As := [.ref (ez_B X + (v + 6))]) (st := []) (kw_6 hw) (Nat.le_of_ble_eq_true rfl) (kw_lt hw 6 (by decide)) rfl (ec_X7_copyFrom _ _ _ w hw v hv M1) (Or.inl rfl) wm_X3_245 wv_X7_copyFrom we_X7_copyFrom wy_X7_copyFrom rfl wd_X7_copyFrom wi_X7 (ez_rok hRm rfl) (Nat.le_of_ble_eq_true rfl) dX3_copyFrom_19 ?_
  refine ez_nmM (fun M2 eM2 => ?_)
  refine ez_aload_n hX 0 dX3_copyFrom_22 rfl ?_
  refine ez_getr hX (kw_3 hw) rfl (Nat.le_of_ble_eq_true rfl) (kw_lt hw 3 (by decide)) (Nat.le_of_ble_eq_true rfl) inX3 (w + 8) rfl (rw_3_4 hw) wf_X3_28 dX3_copyFrom_23 ?_
  refine ez_aload_n hX 1 dX3_copyFrom_26 rfl ?_
  refine ez_getr hX (kw_3 hv) rfl (Nat.le_of_ble_eq_true rfl) (kw_lt hv 3 (by decide)) (Nat.le_of_ble_eq_true rfl) inX3 (v + 8) rfl (rw_3_4 hv) wf_X3_28 dX3_copyFrom_27 ?_
  refine ez_callV hX (N0 := 0) (As := [.ref (ez_B X + (v + 8))]) (st := []) (kw_8 hw) (Nat.le_of_ble_eq_true rfl) (kw_lt hw 8 (by decide)) rfl (ec_X0_copyFrom _ _ _ w hw v hv M2) (Or.inl rfl) wm_X3_248 wv_X0_copyFrom we_X0_copyFrom wy_X0_copyFrom rfl wd_X0_copyFrom wi_X0 (ez_rok hRm rfl) (Nat.le_of_ble_eq_true rfl) dX3_copyFrom_30 ?_
  refine ez_nmM (fun M3 eM3 => ?_)
  refine ez_aload_n hX 0 dX3_copyFrom_33 rfl ?_
  refine ez_getr hX (kw_3 hw) rfl (Nat.le_of_ble_eq_true rfl) (kw_lt hw 3 (by decide)) (Nat.le_of_ble_eq_true rfl) inX3 (w + 17) rfl (rw_3_5 hw) wf_X3_35 dX3_copyFrom_34 ?_
  refine ez_aload_n hX 1 dX3_copyFrom_37 rfl ?_
  refine ez_getr hX (kw_3 hv) rfl (Nat.le_of_ble_eq_true rfl) (kw_lt hv 3 (by decide)) (Nat.le_of_ble_eq_true rfl) inX3 (v + 17) rfl (rw_3_5 hv) wf_X3_35 dX3_copyFrom_38 ?_
  refine ez_callV hX (N0 := 0) (As := [.ref (ez_B X + (v + 17))]) (st := []) (kw_17 hw) (Nat.le_of_ble_eq_true rfl) (kw_lt hw 17 (by decide)) rfl (ec_X9_copyFrom _ _ _ w hw v hv M3) (Or.inl rfl) wm_X3_251 wv_X9_copyFrom we_X9_copyFrom wy_X9_copyFrom rfl wd_X9_copyFrom wi_X9 (ez_rok hRm rfl) (Nat.le_of_ble_eq_true rfl) dX3_copyFrom_41 ?_
  refine ez_nmM (fun M4 eM4 => ?_)
  refine ez_aload_n hX 1 dX3_copyFrom_44 rfl ?_
  refine ez_getr hX (kw_3 hv) rfl (Nat.le_of_ble_eq_true rfl) (kw_lt hv 3 (by decide)) (Nat.le_of_ble_eq_true rfl) inX3 (v + 22) rfl (rw_3_6 hv) wf_X3_39 dX3_copyFrom_45 ?_
  refine ez_aload_n hX 0 dX3_copyFrom_48 rfl ?_
  refine ez_getr hX (kw_3 hw) rfl (Nat.le_of_ble_eq_true rfl) (kw_lt hw 3 (by decide)) (Nat.le_of_ble_eq_true rfl) inX3 (w + 22) rfl (rw_3_6 hw) wf_X3_39 dX3_copyFrom_49 ?_
  refine ez_callSN hX (N0 := 0) (As := [.ref (ez_B X + (v + 22)), .ref (ez_B X + (w + 22))]) (st := []) (ec_X11_copyRow _ _ _ (v + 22) 301 (kw_22 hv) (kw_lt hv 22 (by decide)) (w + 22) 301 (kw_22 hw) (kw_lt hw 22 (by decide)) M4) (Or.inl rfl) wm_X3_254 ws_X11_copyRow wy_X11_copyRow rfl wd_X11_copyRow wi_X11 (ez_rok hRm rfl) (Nat.le_of_ble_eq_true rfl) dX3_copyFrom_52 ?_
  refine ez_nmM (fun M5 eM5 => ?_)
  refine ez_aload_n hX 1 dX3_copyFrom_55 rfl ?_
  refine ez_getr hX (kw_3 hv) rfl (Nat.le_of_ble_eq_true rfl) (kw_lt hv 3 (by decide)) (Nat.le_of_ble_eq_true rfl) inX3 (v + 23) rfl (rw_3_7 hv) wf_X3_43 dX3_copyFrom_56 ?_
  refine ez_aload_n hX 0 dX3_copyFrom_59 rfl ?_
  refine ez_getr hX (kw_3 hw) rfl (Nat.le_of_ble_eq_true rfl) (kw_lt hw 3 (by decide)) (Nat.le_of_ble_eq_true rfl) inX3 (w + 23) rfl (rw_3_7 hw) wf_X3_43 dX3_copyFrom_60 ?_
  refine ez_callSN hX (N0 := 0) (As := [.ref (ez_B X + (v + 23)), .ref (ez_B X + (w + 23))]) (st := []) (ec_X11_copyRow _ _ _ (v + 23) 301 (kw_23 hv) (kw_lt hv 23 (by decide)) (w + 23) 301 (kw_23 hw) (kw_lt hw 23 (by decide)) M5) (Or.inl rfl) wm_X3_254 ws_X11_copyRow wy_X11_copyRow rfl wd_X11_copyRow wi_X11 (ez_rok hRm rfl) (Nat.le_of_ble_eq_true rfl) dX3_copyFrom_63 ?_
  refine ez_nmM (fun M6 eM6 => ?_)
  refine ez_aload_n hX 0 dX3_copyFrom_66 rfl ?_
  refine ez_aload_n hX 1 dX3_copyFrom_67 rfl ?_
  refine ez_geti hX (kw_3 hv) rfl (Nat.le_of_ble_eq_true rfl) (kw_lt hv 3 (by decide)) (Nat.le_of_ble_eq_true rfl) inX3 rfl wf_X3_60 dX3_copyFrom_68 ?_
  refine ez_puti hX (kw_3 hw) rfl (Nat.le_of_ble_eq_true rfl) (kw_lt hw 3 (by decide)) (Nat.le_of_ble_eq_true rfl) inX3 tyX3 tyX3_ok nmX3 (M6.1 (v + 3) 8) rfl wf_X3_60 rfl rfl rfl dX3_copyFrom_71 ?_
  refine ez_nmM (fun M7 eM7 => ?_)
  refine ez_aload_n hX 0 dX3_copyFrom_74 rfl ?_
  refine ez_aload_n hX 1 dX3_copyFrom_75 rfl ?_
  refine ez_geti hX (kw_3 hv) rfl (Nat.le_of_ble_eq_true rfl) (kw_lt hv 3 (by decide)) (Nat.le_of_ble_eq_true rfl) inX3 rfl wf_X3_64 dX3_copyFrom_76 ?_
  have hb2 : (M7.1 (v + 3) 9) = 0 ∨ (M7.1 (v + 3) 9) = 1 := by
    have e := ep_gives w v M (M6.1 (v + 3) 8) hw hv
    rw [eM1, eM2, eM3, eM4, eM5, eM6, eM7] at e
    rw [e]
    exact hb
  refine ez_puti hX (kw_3 hw) rfl (Nat.le_of_ble_eq_true rfl) (kw_lt hw 3 (by decide)) (Nat.le_of_ble_eq_true rfl) inX3 tyX3 tyX3_ok nmX3 (M7.1 (v + 3) 9) rfl wf_X3_64 rfl (ez_bn hb2) (ez_bf hb2) dX3_copyFrom_79 ?_
  refine ez_nmM (fun M8 eM8 => ?_)
  refine ez_aload_n hX 0 dX3_copyFrom_82 rfl ?_
  refine ez_aload_n hX 1 dX3_copyFrom_83 rfl ?_
  refine ez_geti hX (kw_3 hv) rfl (Nat.le_of_ble_eq_true rfl) (kw_lt hv 3 (by decide)) (Nat.le_of_ble_eq_true rfl) inX3 rfl wf_X3_74 dX3_copyFrom_84 ?_
  refine ez_puti hX (kw_3 hw) rfl (Nat.le_of_ble_eq_true rfl) (kw_lt hw 3 (by decide)) (Nat.le_of_ble_eq_true rfl) inX3 tyX3 tyX3_ok nmX3 (M8.1 (v + 3) 10) rfl wf_X3_74 rfl rfl rfl dX3_copyFrom_87 ?_
  refine ez_nmM (fun M9 eM9 => ?_)
  refine ez_aload_n hX 0 dX3_copyFrom_90 rfl ?_
  refine ez_aload_n hX 1 dX3_copyFrom_91 rfl ?_
  refine ez_geti hX (kw_3 hv) rfl (Nat.le_of_ble_eq_true rfl) (kw_lt hv 3 (by decide)) (Nat.le_of_ble_eq_true rfl) inX3 rfl wf_X3_77 dX3_copyFrom_92 ?_
  refine ez_puti hX (kw_3 hw) rfl (Nat.le_of_ble_eq_true rfl) (kw_lt hw 3 (by decide)) (Nat.le_of_ble_eq_true rfl) inX3 tyX3 tyX3_ok nmX3 (M9.1 (v + 3) 11) rfl wf_X3_77 rfl rfl rfl dX3_copyFrom_95 ?_
  refine ez_nmM (fun M10 eM10 => ?_)
  refine ez_aload_n hX 0 dX3_copyFrom_98 rfl ?_
  refine ez_aload_n hX 1 dX3_copyFrom_99 rfl ?_
  refine ez_getl hX (kw_3 hv) rfl (Nat.le_of_ble_eq_true rfl) (kw_lt hv 3 (by decide)) (Nat.le_of_ble_eq_true rfl) inX3 rfl wf_X3_155 dX3_copyFrom_100 ?_
  refine ez_putl hX (kw_3 hw) rfl (Nat.le_of_ble_eq_true rfl) (kw_lt hw 3 (by decide)) (Nat.le_of_ble_eq_true rfl) inX3 tyX3 tyX3_ok nmX3 (M10.2 (v + 3) 12) rfl wf_X3_155 rfl rfl rfl dX3_copyFrom_103 ?_
  refine ez_nmM (fun M11 eM11 => ?_)
  refine ez_aload_n hX 0 dX3_copyFrom_106 rfl ?_
  refine ez_aload_n hX 1 dX3_copyFrom_107 rfl ?_
  refine ez_geti hX (kw_3 hv) rfl (Nat.le_of_ble_eq_true rfl) (kw_lt hv 3 (by decide)) (Nat.le_of_ble_eq_true rfl) inX3 rfl wf_X3_80 dX3_copyFrom_108 ?_
  refine ez_puti hX (kw_3 hw) rfl (Nat.le_of_ble_eq_true rfl) (kw_lt hw 3 (by decide)) (Nat.le_of_ble_eq_true rfl) inX3 tyX3 tyX3_ok nmX3 (M11.1 (v + 3) 13) rfl wf_X3_80 rfl rfl rfl dX3_copyFrom_111 ?_
  refine ez_nmM (fun M12 eM12 => ?_)
  refine ez_aload_n hX 0 dX3_copyFrom_114 rfl ?_
  refine ez_aload_n hX 1 dX3_copyFrom_115 rfl ?_
  refine ez_geti hX (kw_3 hv) rfl (Nat.le_of_ble_eq_true rfl) (kw_lt hv 3 (by decide)) (Nat.le_of_ble_eq_true rfl) inX3 rfl wf_X3_83 dX3_copyFrom_116 ?_
  refine ez_puti hX (kw_3 hw) rfl (Nat.le_of_ble_eq_true rfl) (kw_lt hw 3 (by decide)) (Nat.le_of_ble_eq_true rfl) inX3 tyX3 tyX3_ok nmX3 (M12.1 (v + 3) 14) rfl wf_X3_83 rfl rfl rfl dX3_copyFrom_119 ?_
  refine ez_nmM (fun M13 eM13 => ?_)
  have ht : t0 = M13 := hT.symm.trans (by simp only [et_X3_copyFrom, eM1, eM2, eM3, eM4, eM5, eM6, eM7, eM8, eM9, eM10, eM11, eM12, eM13])
  subst ht
  exact ez_vret hX hQ dX3_copyFrom_122 rfl rfl

def et_X1_copyFrom  (k j : Nat) (M : em_M) : em_M :=
  let M1 := et_X10_copyFrom (k + 10) (j + 10) M
  let M2 := et_X3_copyFrom (k + 10) (j + 10) M1
  let M3 := et_X6_copyFrom (k + 1) (j + 1) M2
  let M4 := et_X6_copyFrom (k + 4) (j + 4) M3
  let M5 := et_X6_copyFrom (k + 7) (j + 7) M4
  M5
set_option maxHeartbeats 4000000 in
set_option maxRecDepth 100000 in
theorem ec_X1_copyFrom (l : Launch) (D : em_G) (B : Nat) (k : Nat) (hk : ek k) (j : Nat) (hj : ek j) (M : em_M) (hb : M.1 (j + 13) 9 = 0 ∨ M.1 (j + 13) 9 = 1) : em_C l D B yX1_copyFrom cX1_copyFrom 2 none 4 103 0 0 false [.ref (B + k), .ref (B + j)] 132 em_R M (none) 132 em_R ((et_X1_copyFrom k j M)) := by
  refine em_C_of RX1 [(0, .ref (B + k)), (1, .ref (B + j))] (by decide) rfl rfl (Nat.le_of_ble_eq_true rfl) ?_
  rintro X rfl rfl rfl hRm hnL hnm hsz hX hQ
  obtain ⟨t0, hT⟩ : ∃ tz, et_X1_copyFrom k j M = tz := ⟨_, rfl⟩
  rw [hT] at hQ
  refine ez_aload_n hX 0 dX1_copyFrom_0 rfl ?_
  refine ez_getr hX (kk_0 hk) rfl (Nat.le_of_ble_eq_true rfl) (kk_lt0 hk) (Nat.le_of_ble_eq_true rfl) inX1 (k + 10) rfl (rk_0_0 hk) wf_X1_29 dX1_copyFrom_1 ?_
  refine ez_aload_n hX 1 dX1_copyFrom_4 rfl ?_
  refine ez_getr hX (kk_0 hj) rfl (Nat.le_of_ble_eq_true rfl) (kk_lt0 hj) (Nat.le_of_ble_eq_true rfl) inX1 (j + 10) rfl (rk_0_0 hj) wf_X1_29 dX1_copyFrom_5 ?_
  refine ez_callV hX (N0 := 0) (As := [.ref (ez_B X + (j + 10))]) (st := []) (kk_10 hk) (Nat.le_of_ble_eq_true rfl) (kk_lt hk 10 (by decide)) rfl (ec_X10_copyFrom _ _ _ (k + 10) (ek_ew hk) (j + 10) (ek_ew hj) M) (Or.inl rfl) wm_X1_42 wv_X10_copyFrom we_X10_copyFrom wy_X10_copyFrom rfl wd_X10_copyFrom wi_X10 (ez_rok hRm rfl) (Nat.le_of_ble_eq_true rfl) dX1_copyFrom_8 ?_
  refine ez_nmM (fun M1 eM1 => ?_)
  refine ez_aload_n hX 0 dX1_copyFrom_11 rfl ?_
  refine ez_getr hX (kk_0 hk) rfl (Nat.le_of_ble_eq_true rfl) (kk_lt0 hk) (Nat.le_of_ble_eq_true rfl) inX1 (k + 13) rfl (rk_0_1 hk) wf_X1_38 dX1_copyFrom_12 ?_
  refine ez_aload_n hX 1 dX1_copyFrom_15 rfl ?_
  refine ez_getr hX (kk_0 hj) rfl (Nat.le_of_ble_eq_true rfl) (kk_lt0 hj) (Nat.le_of_ble_eq_true rfl) inX1 (j + 13) rfl (rk_0_1 hj) wf_X1_38 dX1_copyFrom_16 ?_
  refine ez_callV hX (N0 := 0) (As := [.ref (ez_B X + (j + 13))]) (st := []) (kk_13 hk) (Nat.le_of_ble_eq_true rfl) (kk_lt hk 13 (by decide)) rfl (ec_X3_copyFrom _ _ _ (k + 10) (ek_ew hk) (j + 10) (ek_ew hj) M1 (by rw [← eM1]; exact ep_gw hk hj hb)) (Or.inl rfl) wm_X1_46 wv_X3_copyFrom we_X3_copyFrom wy_X3_copyFrom rfl wd_X3_copyFrom wi_X3 (ez_rok hRm rfl) (Nat.le_of_ble_eq_true rfl) dX1_copyFrom_19 ?_
  refine ez_nmM (fun M2 eM2 => ?_)
  refine ez_aload_n hX 0 dX1_copyFrom_22 rfl ?_
  refine ez_getr hX (kk_0 hk) rfl (Nat.le_of_ble_eq_true rfl) (kk_lt0 hk) (Nat.le_of_ble_eq_true rfl) inX1 (k + 1) rfl (rk_0_2 hk) wf_X1_14 dX1_copyFrom_23 ?_
  refine ez_aload_n hX 1 dX1_copyFrom_26 rfl ?_
  refine ez_getr hX (kk_0 hj) rfl (Nat.le_of_ble_eq_true rfl) (kk_lt0 hj) (Nat.le_of_ble_eq_true rfl) inX1 (j + 1) rfl (rk_0_2 hj) wf_X1_14 dX1_copyFrom_27 ?_
  refine ez_callV hX (N0 := 0) (As := [.ref (ez_B X + (j + 1))]) (st := []) (kk_1 hk) (Nat.le_of_ble_eq_true rfl) (kk_lt hk 1 (by decide)) rfl (ec_X6_copyFrom _ _ _ (k + 1) (ek_er1 hk) (j + 1) (ek_er1 hj) M2) (Or.inl rfl) wm_X1_49 wv_X6_copyFrom we_X6_copyFrom wy_X6_copyFrom rfl wd_X6_copyFrom wi_X6 (ez_rok hRm rfl) (Nat.le_of_ble_eq_true rfl) dX1_copyFrom_30 ?_
  refine ez_nmM (fun M3 eM3 => ?_)
  refine ez_aload_n hX 0 dX1_copyFrom_33 rfl ?_
  refine ez_getr hX (kk_0 hk) rfl (Nat.le_of_ble_eq_true rfl) (kk_lt0 hk) (Nat.le_of_ble_eq_true rfl) inX1 (k + 4) rfl (rk_0_3 hk) wf_X1_20 dX1_copyFrom_34 ?_
  refine ez_aload_n hX 1 dX1_copyFrom_37 rfl ?_
  refine ez_getr hX (kk_0 hj) rfl (Nat.le_of_ble_eq_true rfl) (kk_lt0 hj) (Nat.le_of_ble_eq_true rfl) inX1 (j + 4) rfl (rk_0_3 hj) wf_X1_20 dX1_copyFrom_38 ?_
  refine ez_callV hX (N0 := 0) (As := [.ref (ez_B X + (j + 4))]) (st := []) (kk_4 hk) (Nat.le_of_ble_eq_true rfl) (kk_lt hk 4 (by decide)) rfl (ec_X6_copyFrom _ _ _ (k + 4) (ek_er4 hk) (j + 4) (ek_er4 hj) M3) (Or.inl rfl) wm_X1_49 wv_X6_copyFrom we_X6_copyFrom wy_X6_copyFrom rfl wd_X6_copyFrom wi_X6 (ez_rok hRm rfl) (Nat.le_of_ble_eq_true rfl) dX1_copyFrom_41 ?_
  refine ez_nmM (fun M4 eM4 => ?_)
  refine ez_aload_n hX 0 dX1_copyFrom_44 rfl ?_
  refine ez_getr hX (kk_0 hk) rfl (Nat.le_of_ble_eq_true rfl) (kk_lt0 hk) (Nat.le_of_ble_eq_true rfl) inX1 (k + 7) rfl (rk_0_4 hk) wf_X1_23 dX1_copyFrom_45 ?_
  refine ez_aload_n hX 1 dX1_copyFrom_48 rfl ?_
  refine ez_getr hX (kk_0 hj) rfl (Nat.le_of_ble_eq_true rfl) (kk_lt0 hj) (Nat.le_of_ble_eq_true rfl) inX1 (j + 7) rfl (rk_0_4 hj) wf_X1_23 dX1_copyFrom_49 ?_
  refine ez_callV hX (N0 := 0) (As := [.ref (ez_B X + (j + 7))]) (st := []) (kk_7 hk) (Nat.le_of_ble_eq_true rfl) (kk_lt hk 7 (by decide)) rfl (ec_X6_copyFrom _ _ _ (k + 7) (ek_er7 hk) (j + 7) (ek_er7 hj) M4) (Or.inl rfl) wm_X1_49 wv_X6_copyFrom we_X6_copyFrom wy_X6_copyFrom rfl wd_X6_copyFrom wi_X6 (ez_rok hRm rfl) (Nat.le_of_ble_eq_true rfl) dX1_copyFrom_52 ?_
  refine ez_nmM (fun M5 eM5 => ?_)
  have ht : t0 = M5 := hT.symm.trans (by simp only [et_X1_copyFrom, eM1, eM2, eM3, eM4, eM5])
  subst ht
  exact ez_vret hX hQ dX1_copyFrom_55 rfl rfl
