theorem ef_put {a n : Nat} {M : em_M} {i v : Int32} {c : Nat} (h : c ≠ a) : (et_X11_put a n M i v).1 c = M.1 c := by
  unfold et_X11_put
  repeat' split
  all_goals first | rfl | (simp only [ef_pI _ _ _ _ h])
theorem ef_put2 {a n : Nat} {M : em_M} {i v : Int32} : (et_X11_put a n M i v).2 = M.2 := by
  unfold et_X11_put
  repeat' split
  all_goals rfl

theorem ef_hd_2_3 {c : Nat} (h5 : c ≠ 5) (h6 : c ≠ 6) (M : em_M) (x1 : Int32) : (et_X2_handDown_2_3 M x1).1 c = M.1 c := rfl
theorem ef_hd_83_2 {c : Nat} (h5 : c ≠ 5) (h6 : c ≠ 6) (M : em_M) (x1 : Int32) : (et_X2_handDown_83_2 M x1).1 c = M.1 c := by
  unfold et_X2_handDown_83_2
  first | rfl | skip
  all_goals try dsimp only
  all_goals repeat' split
  all_goals simp only [ef_hd_2_3 h5 h6, ef_put h5, ef_put h6]
theorem ef_hd_80_2 {c : Nat} (h5 : c ≠ 5) (h6 : c ≠ 6) (M : em_M) (x1 x3 s0 s1 : Int32) : (et_X2_handDown_80_2 M x1 x3 s0 s1).1 c = M.1 c := by
  unfold et_X2_handDown_80_2
  first | rfl | skip
  all_goals try dsimp only
  all_goals repeat' split
  all_goals simp only [ef_hd_2_3 h5 h6, ef_hd_83_2 h5 h6, ef_put h5, ef_put h6]
theorem ef_hd_46_2 {c : Nat} (h5 : c ≠ 5) (h6 : c ≠ 6) (M : em_M) (x1 x3 s0 s1 s2 : Int32) : (et_X2_handDown_46_2 M x1 x3 s0 s1 s2).1 c = M.1 c := by
  unfold et_X2_handDown_46_2
  first | rfl | skip
  all_goals try dsimp only
  all_goals repeat' split
  all_goals simp only [ef_hd_2_3 h5 h6, ef_hd_83_2 h5 h6, ef_hd_80_2 h5 h6, ef_put h5, ef_put h6]
theorem ef_hd_2_2 {c : Nat} (h5 : c ≠ 5) (h6 : c ≠ 6) (M : em_M) (x1 : Int32) : (et_X2_handDown_2_2 M x1).1 c = M.1 c := by
  unfold et_X2_handDown_2_2
  first | rfl | skip
  all_goals try dsimp only
  all_goals repeat' split
  all_goals simp only [ef_hd_83_2 h5 h6, ef_hd_80_2 h5 h6, ef_hd_46_2 h5 h6, ef_put h5, ef_put h6]
theorem ef_hd_83_1 {c : Nat} (h5 : c ≠ 5) (h6 : c ≠ 6) (M : em_M) (x1 : Int32) : (et_X2_handDown_83_1 M x1).1 c = M.1 c := by
  unfold et_X2_handDown_83_1
  first | rfl | skip
  all_goals try dsimp only
  all_goals repeat' split
  all_goals simp only [ef_hd_80_2 h5 h6, ef_hd_46_2 h5 h6, ef_hd_2_2 h5 h6, ef_put h5, ef_put h6]
theorem ef_hd_80_1 {c : Nat} (h5 : c ≠ 5) (h6 : c ≠ 6) (M : em_M) (x1 x3 s0 s1 : Int32) : (et_X2_handDown_80_1 M x1 x3 s0 s1).1 c = M.1 c := by
  unfold et_X2_handDown_80_1
  first | rfl | skip
  all_goals try dsimp only
  all_goals repeat' split
  all_goals simp only [ef_hd_46_2 h5 h6, ef_hd_2_2 h5 h6, ef_hd_83_1 h5 h6, ef_put h5, ef_put h6]
theorem ef_hd_46_1 {c : Nat} (h5 : c ≠ 5) (h6 : c ≠ 6) (M : em_M) (x1 x3 s0 s1 s2 : Int32) : (et_X2_handDown_46_1 M x1 x3 s0 s1 s2).1 c = M.1 c := by
  unfold et_X2_handDown_46_1
  first | rfl | skip
  all_goals try dsimp only
  all_goals repeat' split
  all_goals simp only [ef_hd_2_2 h5 h6, ef_hd_83_1 h5 h6, ef_hd_80_1 h5 h6, ef_put h5, ef_put h6]
theorem ef_hd_2_1 {c : Nat} (h5 : c ≠ 5) (h6 : c ≠ 6) (M : em_M) (x1 : Int32) : (et_X2_handDown_2_1 M x1).1 c = M.1 c := by
  unfold et_X2_handDown_2_1
  first | rfl | skip
  all_goals try dsimp only
  all_goals repeat' split
  all_goals simp only [ef_hd_83_1 h5 h6, ef_hd_80_1 h5 h6, ef_hd_46_1 h5 h6, ef_put h5, ef_put h6]
theorem ef_hd_83_0 {c : Nat} (h5 : c ≠ 5) (h6 : c ≠ 6) (M : em_M) (x1 : Int32) : (et_X2_handDown_83_0 M x1).1 c = M.1 c := by
  unfold et_X2_handDown_83_0
  first | rfl | skip
  all_goals try dsimp only
  all_goals repeat' split
  all_goals simp only [ef_hd_80_1 h5 h6, ef_hd_46_1 h5 h6, ef_hd_2_1 h5 h6, ef_put h5, ef_put h6]
theorem ef_hd_80_0 {c : Nat} (h5 : c ≠ 5) (h6 : c ≠ 6) (M : em_M) (x1 x3 s0 s1 : Int32) : (et_X2_handDown_80_0 M x1 x3 s0 s1).1 c = M.1 c := by
  unfold et_X2_handDown_80_0
  first | rfl | skip
  all_goals try dsimp only
  all_goals repeat' split
  all_goals simp only [ef_hd_46_1 h5 h6, ef_hd_2_1 h5 h6, ef_hd_83_0 h5 h6, ef_put h5, ef_put h6]
theorem ef_hd_46_0 {c : Nat} (h5 : c ≠ 5) (h6 : c ≠ 6) (M : em_M) (x1 x3 s0 s1 s2 : Int32) : (et_X2_handDown_46_0 M x1 x3 s0 s1 s2).1 c = M.1 c := by
  unfold et_X2_handDown_46_0
  first | rfl | skip
  all_goals try dsimp only
  all_goals repeat' split
  all_goals simp only [ef_hd_2_1 h5 h6, ef_hd_83_0 h5 h6, ef_hd_80_0 h5 h6, ef_put h5, ef_put h6]
theorem ef_hd_2_0 {c : Nat} (h5 : c ≠ 5) (h6 : c ≠ 6) (M : em_M) (x1 : Int32) : (et_X2_handDown_2_0 M x1).1 c = M.1 c := by
  unfold et_X2_handDown_2_0
  first | rfl | skip
  all_goals try dsimp only
  all_goals repeat' split
  all_goals simp only [ef_hd_83_0 h5 h6, ef_hd_80_0 h5 h6, ef_hd_46_0 h5 h6, ef_put h5, ef_put h6]
theorem ef_hd (M : em_M) (e : Int32) {c : Nat} (h5 : c ≠ 5) (h6 : c ≠ 6) : (et_X2_handDown M e).1 c = M.1 c := ef_hd_2_0 h5 h6 M e

theorem ef_ci (M : em_M) (l e : Int32) {c : Nat} (h : c ≠ 8) : (et_X2_countIn M l e).1 c = M.1 c := by
  simp only [et_X2_countIn, et_X2_countIn_37, et_X2_countIn_104, et_X2_countIn_144]
  repeat' split
  all_goals first | rfl | simp only [ef_put h]

def et_X2_end_44   : Nat → em_M → Int32 → Int32 → Int32 × em_M
  | 0, M, _, _ => (0, M)
  | fu + 1, M, line, e =>
  (if (M.1 1 1) ≤ e then (line, M) else let M6 := et_X2_handDown M e
  let M7 := et_X2_countIn M6 line e
  et_X2_end_44 fu M7 line (e + (1 : Int32)))
def et_X2_end  (M : em_M) (root : Int32) : Int32 × em_M :=
  let M1 := em_pI M 1 0 ((M.1 1 0) + (1 : Int32))
  let M2 := et_X11_put 7 8 M1 (M.1 1 0) root
  let M3 := et_X11_put 5 800 M2 root (1 : Int32)
  let M4 := et_X11_put 6 800 M3 root (1 : Int32)
  et_X2_end_44 (((M4.1 1 1).toInt - (root).toInt).toNat + 1) M4 (M.1 1 0) root
set_option maxHeartbeats 4000000 in
set_option maxRecDepth 100000 in
theorem el_X2_end_44 (X : em_X)    (t0 : Int32 × em_M) (hRm : ez_rm X = { frames := 4, cells := 0, slots := 0, locals := 88 }) (hnL : ez_nL X = 4) (hX : ez_ok X cX2_end RX2) (hQ : ez_ret X (some .int) (some (.int t0.1)) 132 em_R (t0.2) 0 0) : ∀ (fu : Nat) (M : em_M) (line : Int32) (e : Int32), ez_cnu e (M.1 1 1) fu → et_X2_end_44  fu M line e = t0 → ez_Z X 132 em_R M 0 0 44 [(0, .ref (ez_B X + 1)), (2, .int line), (3, .int e)] [] := by
  intro fu
  induction fu with
  | zero =>
    intro M line e hc hT
    exact absurd hc ez_cnuz
  | succ fu ih =>
    intro M line e hc hT
    refine ez_iload_n hX 2 dX2_end_44 rfl ?_
    refine ez_aload_n hX 0 dX2_end_45 rfl ?_
    refine ez_geti hX kc_1 rfl (Nat.le_of_ble_eq_true rfl) lc_1 (Nat.le_of_ble_eq_true rfl) inX2 rfl wf_X2_41 dX2_end_46 ?_
    refine ez_icmp_ge hX 69 dX2_end_49 (by decide) (fun c5 => ?_) (fun c5 => ?_)
    · -- c5 jump
      refine ez_iload_n hX 1 dX2_end_69 rfl ?_
      have ht : t0 = (line, M) := hT.symm.trans (by simp only [et_X2_end_44, if_pos c5])
      subst ht
      exact ez_iret hX hQ dX2_end_70 rfl rfl
    · -- c5 on
      refine ez_aload_n hX 0 dX2_end_52 rfl ?_
      refine ez_iload_n hX 2 dX2_end_53 rfl ?_
      refine ez_callV hX (N0 := 0) (As := [.int e]) (st := []) kc_1 (Nat.le_of_ble_eq_true rfl) lc_1 rfl (ec_X2_handDown _ _ _ M e) (Or.inl rfl) wm_X2_52 wv_X2_handDown we_X2_handDown wy_X2_handDown rfl wd_X2_handDown wi_X2 (ez_rok hRm rfl) (Nat.le_of_ble_eq_true rfl) dX2_end_54 ?_
      refine ez_nmM (fun M6 eM6 => ?_)
      refine ez_aload_n hX 0 dX2_end_57 rfl ?_
      refine ez_iload_n hX 1 dX2_end_58 rfl ?_
      refine ez_iload_n hX 2 dX2_end_59 rfl ?_
      refine ez_callV hX (N0 := 0) (As := [.int line, .int e]) (st := []) kc_1 (Nat.le_of_ble_eq_true rfl) lc_1 rfl (ec_X2_countIn _ _ _ M6 line e) (Or.inl rfl) wm_X2_56 wv_X2_countIn we_X2_countIn wy_X2_countIn rfl wd_X2_countIn wi_X2 (ez_rok hRm rfl) (Nat.le_of_ble_eq_true rfl) dX2_end_60 ?_
      refine ez_nmM (fun M7 eM7 => ?_)
      refine ez_iinc hX (e + (1 : Int32)) 2 [(3, .int (e + (1 : Int32))), (0, .ref (ez_B X + 1)), (2, .int line)] dX2_end_63 rfl rfl (ez_lt hnL rfl) rfl ?_
      refine ez_goto hX 44 dX2_end_66 (by decide) ?_
      refine ez_lv [1, 2, 0] rfl ?_
      exact ih M7 line (e + (1 : Int32)) (ez_cnus hc c5 (by rw [← eM7, ← eM6, ef_ci _ _ _ (by decide), ef_hd _ _ (by decide) (by decide)])) (Eq.trans (by simp only [et_X2_end_44, if_neg c5, eM6, eM7]) hT)
set_option maxHeartbeats 4000000 in
set_option maxRecDepth 100000 in
theorem ec_X2_end (l : Launch) (D : em_G) (B : Nat) (M : em_M) (root : Int32) : em_C l D B yX2_end cX2_end 4 (some .int) 4 88 0 0 false [.ref (B + 1), .int root] 132 em_R M (some (.int (et_X2_end M root).1)) 132 em_R ((et_X2_end M root).2) := by
  refine em_C_of RX2 [(0, .ref (B + 1)), (1, .int root)] (by decide) rfl rfl (Nat.le_of_ble_eq_true rfl) ?_
  rintro X rfl rfl rfl hRm hnL hnm hsz hX hQ
  obtain ⟨t0, hT⟩ : ∃ tz, et_X2_end M root = tz := ⟨_, rfl⟩
  rw [hT] at hQ
  refine ez_aload_n hX 0 dX2_end_0 rfl ?_
  refine ez_geti hX kc_1 rfl (Nat.le_of_ble_eq_true rfl) lc_1 (Nat.le_of_ble_eq_true rfl) inX2 rfl wf_X2_33 dX2_end_1 ?_
  refine ez_istore_n hX [(2, .int (M.1 1 0)), (0, .ref (ez_B X + 1)), (1, .int root)] dX2_end_4 (ez_lt hnL rfl) rfl ?_
  refine ez_aload_n hX 1 dX2_end_5 rfl ?_
  refine ez_dup hX dX2_end_6 rfl ?_
  refine ez_geti hX kc_1 rfl (Nat.le_of_ble_eq_true rfl) lc_1 (Nat.le_of_ble_eq_true rfl) inX2 rfl wf_X2_33 dX2_end_7 ?_
  refine ez_iconst hX (1 : Int32) dX2_end_10 (by decide) ?_
  refine ez_iadd hX dX2_end_11 ?_
  refine ez_puti hX kc_1 rfl (Nat.le_of_ble_eq_true rfl) lc_1 (Nat.le_of_ble_eq_true rfl) inX2 tyX2 tyX2_ok nmX2 ((M.1 1 0) + (1 : Int32)) rfl wf_X2_33 rfl rfl rfl dX2_end_12 ?_
  refine ez_nmM (fun M1 eM1 => ?_)
  refine ez_aload_n hX 1 dX2_end_15 rfl ?_
  refine ez_getr hX kc_1 rfl (Nat.le_of_ble_eq_true rfl) lc_1 (Nat.le_of_ble_eq_true rfl) inX2 7 rfl rc_1_7 wf_X2_27 dX2_end_16 ?_
  refine ez_iload_n hX 0 dX2_end_19 rfl ?_
  refine ez_iload_n hX 2 dX2_end_20 rfl ?_
  refine ez_callSN hX (N0 := 0) (As := [.ref (ez_B X + 7), .int (M.1 1 0), .int root]) (st := []) (ec_X11_put _ _ _ 7 8 kc_7 lc_7 M1 (M.1 1 0) root) (Or.inl rfl) wm_X2_44 ws_X11_put wy_X11_put rfl wd_X11_put wi_X11 (ez_rok hRm rfl) (Nat.le_of_ble_eq_true rfl) dX2_end_21 ?_
  refine ez_nmM (fun M2 eM2 => ?_)
  refine ez_aload_n hX 1 dX2_end_24 rfl ?_
  refine ez_getr hX kc_1 rfl (Nat.le_of_ble_eq_true rfl) lc_1 (Nat.le_of_ble_eq_true rfl) inX2 5 rfl rc_1_5 wf_X2_21 dX2_end_25 ?_
  refine ez_iload_n hX 2 dX2_end_28 rfl ?_
  refine ez_iconst hX (1 : Int32) dX2_end_29 (by decide) ?_
  refine ez_callSN hX (N0 := 0) (As := [.ref (ez_B X + 5), .int root, .int (1 : Int32)]) (st := []) (ec_X11_put _ _ _ 5 800 kc_5 lc_5 M2 root (1 : Int32)) (Or.inl rfl) wm_X2_44 ws_X11_put wy_X11_put rfl wd_X11_put wi_X11 (ez_rok hRm rfl) (Nat.le_of_ble_eq_true rfl) dX2_end_30 ?_
  refine ez_nmM (fun M3 eM3 => ?_)
  refine ez_aload_n hX 1 dX2_end_33 rfl ?_
  refine ez_getr hX kc_1 rfl (Nat.le_of_ble_eq_true rfl) lc_1 (Nat.le_of_ble_eq_true rfl) inX2 6 rfl rc_1_6 wf_X2_24 dX2_end_34 ?_
  refine ez_iload_n hX 2 dX2_end_37 rfl ?_
  refine ez_iconst hX (1 : Int32) dX2_end_38 (by decide) ?_
  refine ez_callSN hX (N0 := 0) (As := [.ref (ez_B X + 6), .int root, .int (1 : Int32)]) (st := []) (ec_X11_put _ _ _ 6 800 kc_6 lc_6 M3 root (1 : Int32)) (Or.inl rfl) wm_X2_44 ws_X11_put wy_X11_put rfl wd_X11_put wi_X11 (ez_rok hRm rfl) (Nat.le_of_ble_eq_true rfl) dX2_end_39 ?_
  refine ez_nmM (fun M4 eM4 => ?_)
  refine ez_iload_n hX 2 dX2_end_42 rfl ?_
  refine ez_istore_n hX [(3, .int root), (2, .int (M.1 1 0)), (0, .ref (ez_B X + 1)), (1, .int root)] dX2_end_43 (ez_lt hnL rfl) rfl ?_
  refine ez_lv [2, 1, 0] rfl ?_
  exact el_X2_end_44 X  t0 hRm hnL hX hQ (((M4.1 1 1).toInt - (root).toInt).toNat + 1) M4 (M.1 1 0) root (ez_cnu0 _ _) (Eq.trans (by simp only [et_X2_end, eM1, eM2, eM3, eM4]) hT)

def et_X5_parts_3 (E : em_M → Int32 → Int32 × em_M) (within : Int32) : Nat → em_M → Int32 → Int32 → Int32 → Int32 × em_M
  | 0, M, _, _, _ => (0, M)
  | fu + 1, M, e, n, k =>
  (if n ≤ k then match et_X5_passed M (41 : Int32) with
  | (r2, M3) =>
  (if r2 = 0 then ((-1 : Int32), M3) else (e, M3)) else (if k = 0 then match et_X5_passed M (40 : Int32) with
  | (r13, M14) =>
  (if r13 = 0 then ((-1 : Int32), M14) else match E M14 within with
  | (r16, M17) =>
  (if 0 ≤ r16 then let M19 := et_X2_link M17 e k r16
  et_X5_parts_3 E within fu M19 e n (k + (1 : Int32)) else ((-1 : Int32), M17))) else match et_X5_passed M (44 : Int32) with
  | (r6, M7) =>
  (if r6 = 0 then ((-1 : Int32), M7) else match E M7 within with
  | (r9, M10) =>
  (if 0 ≤ r9 then let M12 := et_X2_link M10 e k r9
  et_X5_parts_3 E within fu M12 e n (k + (1 : Int32)) else ((-1 : Int32), M10)))))
def et_X5_parts (E : em_M → Int32 → Int32 × em_M) (M : em_M) (e : Int32) (n : Int32) (within : Int32) : Int32 × em_M :=
  et_X5_parts_3 E within (n.toNatClampNeg + 1) M e n (0 : Int32)
set_option maxHeartbeats 4000000 in
set_option maxRecDepth 100000 in
theorem el_X5_parts_3 (X : em_X)  (within : Int32) (E : em_M → Int32 → Int32 × em_M) (fr lo : Nat) (hE : ∀ M : em_M, em_C (ez_l X) (ez_D X) (ez_B X) yX5_expression cX5_expression 5 (some .int) fr lo 0 0 false [.ref ((ez_B X) + 9), .int within] 132 em_R M (some (.int (E M within).1)) 132 em_R (E M within).2) (t0 : Int32 × em_M) (hRm : ez_rm X = { frames := (fr + 4), cells := 0, slots := 0, locals := (lo + 100) }) (hnL : ez_nL X = 6) (hX : ez_ok X cX5_parts RX5) (hQ : ez_ret X (some .int) (some (.int t0.1)) 132 em_R (t0.2) 0 0) : ∀ (fu : Nat) (M : em_M) (e : Int32) (n : Int32) (k : Int32), ez_cnt k n fu → et_X5_parts_3 E within fu M e n k = t0 → ez_Z X 132 em_R M 0 0 3 [(0, .ref (ez_B X + 9)), (1, .int e), (2, .int n), (3, .int within), (4, .int k)] [] := by
  intro fu
  induction fu with
  | zero =>
    intro M e n k hc hT
    exact absurd hc ez_cntz
  | succ fu ih =>
    intro M e n k hc hT
    refine ez_iload hX 4 dX5_parts_3 rfl ?_
    refine ez_iload_n hX 2 dX5_parts_5 rfl ?_
    refine ez_icmp_ge hX 64 dX5_parts_6 (by decide) (fun c1 => ?_) (fun c1 => ?_)
    · -- c1 jump
      refine ez_aload_n hX 0 dX5_parts_64 rfl ?_
      refine ez_bipush hX (41 : Int32) dX5_parts_65 (by decide) ?_
      refine ez_callV hX (N0 := 0) (As := [.int (41 : Int32)]) (st := []) kc_9 (Nat.le_of_ble_eq_true rfl) lc_9 rfl (ec_X5_passed _ _ _ M (41 : Int32)) (Or.inl rfl) wm_X5_77 wv_X5_passed we_X5_passed wy_X5_passed rfl wd_X5_passed wi_X5 (ez_rok3 hRm (by omega)) (Nat.le_of_ble_eq_true rfl) dX5_parts_67 ?_
      refine ez_nmIM (fun r2 M3 eM3 => ?_)
      refine ez_if_eq hX 77 dX5_parts_70 (by decide) (fun c4 => ?_) (fun c4 => ?_)
      · -- c4 jump
        refine ez_iconst hX (-1 : Int32) dX5_parts_77 (by decide) ?_
        have ht : t0 = ((-1 : Int32), M3) := hT.symm.trans (by simp only [et_X5_parts_3, if_pos c1, eM3, if_pos c4])
        subst ht
        exact ez_iret hX hQ dX5_parts_78 rfl rfl
      · -- c4 on
        refine ez_iload_n hX 1 dX5_parts_73 rfl ?_
        refine ez_goto hX 78 dX5_parts_74 (by decide) ?_
        have ht : t0 = (e, M3) := hT.symm.trans (by simp only [et_X5_parts_3, if_pos c1, eM3, if_neg c4])
        subst ht
        exact ez_iret hX hQ dX5_parts_78 rfl rfl
    · -- c1 on
      refine ez_aload_n hX 0 dX5_parts_9 rfl ?_
      refine ez_iload hX 4 dX5_parts_10 rfl ?_
      refine ez_if_ne hX 20 dX5_parts_12 (by decide) (fun c5 => ?_) (fun c5 => ?_)
      · -- c5 jump
        refine ez_bipush hX (44 : Int32) dX5_parts_20 (by decide) ?_
        refine ez_callV hX (N0 := 0) (As := [.int (44 : Int32)]) (st := []) kc_9 (Nat.le_of_ble_eq_true rfl) lc_9 rfl (ec_X5_passed _ _ _ M (44 : Int32)) (Or.inl rfl) wm_X5_77 wv_X5_passed we_X5_passed wy_X5_passed rfl wd_X5_passed wi_X5 (ez_rok3 hRm (by omega)) (Nat.le_of_ble_eq_true rfl) dX5_parts_22 ?_
        refine ez_nmIM (fun r6 M7 eM7 => ?_)
        refine ez_if_eq hX 36 dX5_parts_25 (by decide) (fun c8 => ?_) (fun c8 => ?_)
        · -- c8 jump
          refine ez_iconst hX (-1 : Int32) dX5_parts_36 (by decide) ?_
          refine ez_istore hX [(5, .int (-1 : Int32)), (0, .ref (ez_B X + 9)), (1, .int e), (2, .int n), (3, .int within), (4, .int k)] dX5_parts_37 (ez_lt hnL rfl) rfl ?_
          refine ez_iload hX 0 dX5_parts_39 rfl ?_
          refine ez_if_ge hX 46 dX5_parts_41 (by decide) (fun c => absurd c (by decide)) (fun _ => ?_)
          refine ez_iconst hX (-1 : Int32) dX5_parts_44 (by decide) ?_
          have ht : t0 = ((-1 : Int32), M7) := hT.symm.trans (by simp only [et_X5_parts_3, if_neg c1, if_neg c5, eM7, if_pos c8])
          subst ht
          exact ez_iret hX hQ dX5_parts_45 rfl rfl
        · -- c8 on
          refine ez_aload_n hX 0 dX5_parts_28 rfl ?_
          refine ez_iload_n hX 3 dX5_parts_29 rfl ?_
          refine ez_callV hX (N0 := 0) (As := [.int within]) (st := []) kc_9 (Nat.le_of_ble_eq_true rfl) lc_9 rfl (hE M7) (Or.inl rfl) wm_X5_35 wv_X5_expression we_X5_expression wy_X5_expression rfl wd_X5_expression wi_X5 (ez_rok3 hRm (by omega)) (Nat.le_of_ble_eq_true rfl) dX5_parts_30 ?_
          refine ez_nmIM (fun r9 M10 eM10 => ?_)
          refine ez_goto hX 37 dX5_parts_33 (by decide) ?_
          refine ez_istore hX [(5, .int r9), (0, .ref (ez_B X + 9)), (1, .int e), (2, .int n), (3, .int within), (4, .int k)] dX5_parts_37 (ez_lt hnL rfl) rfl ?_
          refine ez_iload hX 0 dX5_parts_39 rfl ?_
          refine ez_if_ge hX 46 dX5_parts_41 (by decide) (fun c11 => ?_) (fun c11 => ?_)
          · -- c11 jump
            refine ez_aload_n hX 1 dX5_parts_46 rfl ?_
            refine ez_getr hX kc_9 rfl (Nat.le_of_ble_eq_true rfl) lc_9 (Nat.le_of_ble_eq_true rfl) inX5 1 rfl rc_9_3 wf_X5_15 dX5_parts_47 ?_
            refine ez_iload_n hX 2 dX5_parts_50 rfl ?_
            refine ez_iload hX 5 dX5_parts_51 rfl ?_
            refine ez_iload hX 0 dX5_parts_53 rfl ?_
            refine ez_callV hX (N0 := 0) (As := [.int e, .int k, .int r9]) (st := []) kc_1 (Nat.le_of_ble_eq_true rfl) lc_1 rfl (ec_X2_link _ _ _ M10 e k r9) (Or.inl rfl) wm_X5_81 wv_X2_link we_X2_link wy_X2_link rfl wd_X2_link wi_X2 (ez_rok3 hRm (by omega)) (Nat.le_of_ble_eq_true rfl) dX5_parts_55 ?_
            refine ez_nmM (fun M12 eM12 => ?_)
            refine ez_iinc hX (k + (1 : Int32)) 5 [(4, .int (k + (1 : Int32))), (5, .int r9), (0, .ref (ez_B X + 9)), (1, .int e), (2, .int n), (3, .int within)] dX5_parts_58 rfl rfl (ez_lt hnL rfl) rfl ?_
            refine ez_goto hX 3 dX5_parts_61 (by decide) ?_
            refine ez_lv [2, 3, 4, 5, 0] rfl ?_
            exact ih M12 e n (k + (1 : Int32)) (ez_cnts' hc c1) (Eq.trans (by simp only [et_X5_parts_3, if_neg c1, if_neg c5, eM7, if_neg c8, eM10, if_pos c11, eM12]) hT)
          · -- c11 on
            refine ez_iconst hX (-1 : Int32) dX5_parts_44 (by decide) ?_
            have ht : t0 = ((-1 : Int32), M10) := hT.symm.trans (by simp only [et_X5_parts_3, if_neg c1, if_neg c5, eM7, if_neg c8, eM10, if_neg c11])
            subst ht
            exact ez_iret hX hQ dX5_parts_45 rfl rfl
      · -- c5 on
        refine ez_bipush hX (40 : Int32) dX5_parts_15 (by decide) ?_
        refine ez_goto hX 22 dX5_parts_17 (by decide) ?_
        refine ez_callV hX (N0 := 0) (As := [.int (40 : Int32)]) (st := []) kc_9 (Nat.le_of_ble_eq_true rfl) lc_9 rfl (ec_X5_passed _ _ _ M (40 : Int32)) (Or.inl rfl) wm_X5_77 wv_X5_passed we_X5_passed wy_X5_passed rfl wd_X5_passed wi_X5 (ez_rok3 hRm (by omega)) (Nat.le_of_ble_eq_true rfl) dX5_parts_22 ?_
        refine ez_nmIM (fun r13 M14 eM14 => ?_)
        refine ez_if_eq hX 36 dX5_parts_25 (by decide) (fun c15 => ?_) (fun c15 => ?_)
        · -- c15 jump
          refine ez_iconst hX (-1 : Int32) dX5_parts_36 (by decide) ?_
          refine ez_istore hX [(5, .int (-1 : Int32)), (0, .ref (ez_B X + 9)), (1, .int e), (2, .int n), (3, .int within), (4, .int k)] dX5_parts_37 (ez_lt hnL rfl) rfl ?_
          refine ez_iload hX 0 dX5_parts_39 rfl ?_
          refine ez_if_ge hX 46 dX5_parts_41 (by decide) (fun c => absurd c (by decide)) (fun _ => ?_)
          refine ez_iconst hX (-1 : Int32) dX5_parts_44 (by decide) ?_
          have ht : t0 = ((-1 : Int32), M14) := hT.symm.trans (by simp only [et_X5_parts_3, if_neg c1, if_pos c5, eM14, if_pos c15])
          subst ht
          exact ez_iret hX hQ dX5_parts_45 rfl rfl
        · -- c15 on
          refine ez_aload_n hX 0 dX5_parts_28 rfl ?_
          refine ez_iload_n hX 3 dX5_parts_29 rfl ?_
          refine ez_callV hX (N0 := 0) (As := [.int within]) (st := []) kc_9 (Nat.le_of_ble_eq_true rfl) lc_9 rfl (hE M14) (Or.inl rfl) wm_X5_35 wv_X5_expression we_X5_expression wy_X5_expression rfl wd_X5_expression wi_X5 (ez_rok3 hRm (by omega)) (Nat.le_of_ble_eq_true rfl) dX5_parts_30 ?_
          refine ez_nmIM (fun r16 M17 eM17 => ?_)
          refine ez_goto hX 37 dX5_parts_33 (by decide) ?_
          refine ez_istore hX [(5, .int r16), (0, .ref (ez_B X + 9)), (1, .int e), (2, .int n), (3, .int within), (4, .int k)] dX5_parts_37 (ez_lt hnL rfl) rfl ?_
          refine ez_iload hX 0 dX5_parts_39 rfl ?_
          refine ez_if_ge hX 46 dX5_parts_41 (by decide) (fun c18 => ?_) (fun c18 => ?_)
          · -- c18 jump
            refine ez_aload_n hX 1 dX5_parts_46 rfl ?_
            refine ez_getr hX kc_9 rfl (Nat.le_of_ble_eq_true rfl) lc_9 (Nat.le_of_ble_eq_true rfl) inX5 1 rfl rc_9_3 wf_X5_15 dX5_parts_47 ?_
            refine ez_iload_n hX 2 dX5_parts_50 rfl ?_
            refine ez_iload hX 5 dX5_parts_51 rfl ?_
            refine ez_iload hX 0 dX5_parts_53 rfl ?_
            refine ez_callV hX (N0 := 0) (As := [.int e, .int k, .int r16]) (st := []) kc_1 (Nat.le_of_ble_eq_true rfl) lc_1 rfl (ec_X2_link _ _ _ M17 e k r16) (Or.inl rfl) wm_X5_81 wv_X2_link we_X2_link wy_X2_link rfl wd_X2_link wi_X2 (ez_rok3 hRm (by omega)) (Nat.le_of_ble_eq_true rfl) dX5_parts_55 ?_
            refine ez_nmM (fun M19 eM19 => ?_)
            refine ez_iinc hX (k + (1 : Int32)) 5 [(4, .int (k + (1 : Int32))), (5, .int r16), (0, .ref (ez_B X + 9)), (1, .int e), (2, .int n), (3, .int within)] dX5_parts_58 rfl rfl (ez_lt hnL rfl) rfl ?_
            refine ez_goto hX 3 dX5_parts_61 (by decide) ?_
            refine ez_lv [2, 3, 4, 5, 0] rfl ?_
            exact ih M19 e n (k + (1 : Int32)) (ez_cnts' hc c1) (Eq.trans (by simp only [et_X5_parts_3, if_neg c1, if_pos c5, eM14, if_neg c15, eM17, if_pos c18, eM19]) hT)
          · -- c18 on
            refine ez_iconst hX (-1 : Int32) dX5_parts_44 (by decide) ?_
            have ht : t0 = ((-1 : Int32), M17) := hT.symm.trans (by simp only [et_X5_parts_3, if_neg c1, if_pos c5, eM14, if_neg c15, eM17, if_neg c18])
            subst ht
            exact ez_iret hX hQ dX5_parts_45 rfl rfl
set_option maxHeartbeats 4000000 in
set_option maxRecDepth 100000 in
theorem ec_X5_parts (l : Launch) (D : em_G) (B : Nat) (M : em_M) (e : Int32) (n : Int32) (within : Int32) (E : em_M → Int32 → Int32 × em_M) (fr lo : Nat) (hE : ∀ M : em_M, em_C l D B yX5_expression cX5_expression 5 (some .int) fr lo 0 0 false [.ref (B + 9), .int within] 132 em_R M (some (.int (E M within).1)) 132 em_R (E M within).2) : em_C l D B yX5_parts cX5_parts 6 (some .int) (fr + 4) (lo + 100) 0 0 false [.ref (B + 9), .int e, .int n, .int within] 132 em_R M (some (.int (et_X5_parts E M e n within).1)) 132 em_R ((et_X5_parts E M e n within).2) := by
  refine em_C_of RX5 [(0, .ref (B + 9)), (1, .int e), (2, .int n), (3, .int within)] (by decide) rfl rfl (Nat.le_of_ble_eq_true rfl) ?_
  rintro X rfl rfl rfl hRm hnL hnm hsz hX hQ
  obtain ⟨t0, hT⟩ : ∃ tz, et_X5_parts E M e n within = tz := ⟨_, rfl⟩
  rw [hT] at hQ
  refine ez_iconst hX (0 : Int32) dX5_parts_0 (by decide) ?_
  refine ez_istore hX [(4, .int (0 : Int32)), (0, .ref (ez_B X + 9)), (1, .int e), (2, .int n), (3, .int within)] dX5_parts_1 (ez_lt hnL rfl) rfl ?_
  refine ez_lv [1, 2, 3, 4, 0] rfl ?_
  exact el_X5_parts_3 X within E fr lo hE t0 hRm hnL hX hQ (n.toNatClampNeg + 1) M e n (0 : Int32) (ez_cnt0 _) (Eq.trans (by simp only [et_X5_parts]) hT)

def et_X5_list_15_5 (E : em_M → Int32 → Int32 × em_M) (within : Int32) (M : em_M) (x2 : Int32) (x3 : Int32) : Int32 × em_M :=
  match E M within with
  | (r55, M56) =>
  (if 0 ≤ r55 then let M58 := et_X2_link M56 x3 (0 : Int32) r55
  match et_X5_passed M58 (93 : Int32) with
  | (r59, M60) =>
  (if r59 = 0 then ((-1 : Int32), M60) else (x2, M60)) else ((-1 : Int32), M56))
def et_X5_list_15_4 (E : em_M → Int32 → Int32 × em_M) (within : Int32) (M : em_M) (x2 : Int32) (x3 : Int32) : Int32 × em_M :=
  match E M within with
  | (r42, M43) =>
  (if 0 ≤ r42 then let M45 := et_X2_link M43 x3 (0 : Int32) r42
  match et_X5_passed M45 (93 : Int32) with
  | (r46, M47) =>
  (if r46 = 0 then match et_X5_passed M47 (44 : Int32) with
  | (r49, M50) =>
  (if r49 = 0 then ((-1 : Int32), M50) else match et_X2_add M50 (14 : Int32) (0 : Int32) with
  | (r52, M53) =>
  let M54 := et_X2_link M53 x3 (1 : Int32) r52
  et_X5_list_15_5 E within M54 x2 r52) else (x2, M47)) else ((-1 : Int32), M43))
def et_X5_list_15_3 (E : em_M → Int32 → Int32 × em_M) (within : Int32) (M : em_M) (x2 : Int32) (x3 : Int32) : Int32 × em_M :=
  match E M within with
  | (r29, M30) =>
  (if 0 ≤ r29 then let M32 := et_X2_link M30 x3 (0 : Int32) r29
  match et_X5_passed M32 (93 : Int32) with
  | (r33, M34) =>
  (if r33 = 0 then match et_X5_passed M34 (44 : Int32) with
  | (r36, M37) =>
  (if r36 = 0 then ((-1 : Int32), M37) else match et_X2_add M37 (14 : Int32) (0 : Int32) with
  | (r39, M40) =>
  let M41 := et_X2_link M40 x3 (1 : Int32) r39
  et_X5_list_15_4 E within M41 x2 r39) else (x2, M34)) else ((-1 : Int32), M30))
def et_X5_list_15_2 (E : em_M → Int32 → Int32 × em_M) (within : Int32) (M : em_M) (x2 : Int32) (x3 : Int32) : Int32 × em_M :=
  match E M within with
  | (r16, M17) =>
  (if 0 ≤ r16 then let M19 := et_X2_link M17 x3 (0 : Int32) r16
  match et_X5_passed M19 (93 : Int32) with
  | (r20, M21) =>
  (if r20 = 0 then match et_X5_passed M21 (44 : Int32) with
  | (r23, M24) =>
  (if r23 = 0 then ((-1 : Int32), M24) else match et_X2_add M24 (14 : Int32) (0 : Int32) with
  | (r26, M27) =>
  let M28 := et_X2_link M27 x3 (1 : Int32) r26
  et_X5_list_15_3 E within M28 x2 r26) else (x2, M21)) else ((-1 : Int32), M17))
def et_X5_list_15_1 (E : em_M → Int32 → Int32 × em_M) (within : Int32) (M : em_M) (x2 : Int32) (x3 : Int32) : Int32 × em_M :=
  match E M within with
  | (r3, M4) =>
  (if 0 ≤ r3 then let M6 := et_X2_link M4 x3 (0 : Int32) r3
  match et_X5_passed M6 (93 : Int32) with
  | (r7, M8) =>
  (if r7 = 0 then match et_X5_passed M8 (44 : Int32) with
  | (r10, M11) =>
  (if r10 = 0 then ((-1 : Int32), M11) else match et_X2_add M11 (14 : Int32) (0 : Int32) with
  | (r13, M14) =>
  let M15 := et_X2_link M14 x3 (1 : Int32) r13
  et_X5_list_15_2 E within M15 x2 r13) else (x2, M8)) else ((-1 : Int32), M4))
def et_X5_list (E : em_M → Int32 → Int32 × em_M) (M : em_M) (within : Int32) : Int32 × em_M :=
  match et_X2_add M (3 : Int32) (0 : Int32) with
  | (r1, M2) =>
  et_X5_list_15_1 E within M2 r1 r1
set_option maxHeartbeats 4000000 in
set_option maxRecDepth 100000 in
theorem el_X5_list_15_5 (X : em_X)  (within : Int32) (E : em_M → Int32 → Int32 × em_M) (fr lo : Nat) (hE : ∀ M : em_M, em_C (ez_l X) (ez_D X) (ez_B X) yX5_expression cX5_expression 5 (some .int) fr lo 0 0 false [.ref ((ez_B X) + 9), .int within] 132 em_R M (some (.int (E M within).1)) 132 em_R (E M within).2) (t0 : Int32 × em_M) (hRm : ez_rm X = { frames := (fr + 4), cells := 0, slots := 0, locals := (lo + 100) }) (hnL : ez_nL X = 7) (hX : ez_ok X cX5_list RX5) (M : em_M) (x2 : Int32) (x3 : Int32)  (hQ : ez_ret X (some .int) (some (.int t0.1)) 132 em_R (t0.2) 0 0) (hT : et_X5_list_15_5 E within M x2 x3 = t0) : ez_Z X 132 em_R M 0 0 15 [(0, .ref (ez_B X + 9)), (1, .int within), (2, .int x2), (3, .int x3), (4, .int (5 : Int32))] [] := by
  refine ez_iload hX 4 dX5_list_15 rfl ?_
  refine ez_iconst hX (5 : Int32) dX5_list_17 (by decide) ?_
  refine ez_icmp_gt hX 106 dX5_list_18 (by decide) (fun c => absurd c (by decide)) (fun _ => ?_)
  refine ez_aload_n hX 0 dX5_list_21 rfl ?_
  refine ez_iload_n hX 1 dX5_list_22 rfl ?_
  refine ez_callV hX (N0 := 0) (As := [.int within]) (st := []) kc_9 (Nat.le_of_ble_eq_true rfl) lc_9 rfl (hE M) (Or.inl rfl) wm_X5_35 wv_X5_expression we_X5_expression wy_X5_expression rfl wd_X5_expression wi_X5 (ez_rok3 hRm (by omega)) (Nat.le_of_ble_eq_true rfl) dX5_list_23 ?_
  refine ez_nmIM (fun r55 M56 eM56 => ?_)
  refine ez_istore hX [(5, .int r55), (0, .ref (ez_B X + 9)), (1, .int within), (2, .int x2), (3, .int x3), (4, .int (5 : Int32))] dX5_list_26 (ez_lt hnL rfl) rfl ?_
  refine ez_iload hX 0 dX5_list_28 rfl ?_
  refine ez_if_ge hX 35 dX5_list_30 (by decide) (fun c57 => ?_) (fun c57 => ?_)
  · -- c57 jump
    refine ez_aload_n hX 1 dX5_list_35 rfl ?_
    refine ez_getr hX kc_9 rfl (Nat.le_of_ble_eq_true rfl) lc_9 (Nat.le_of_ble_eq_true rfl) inX5 1 rfl rc_9_3 wf_X5_15 dX5_list_36 ?_
    refine ez_iload_n hX 4 dX5_list_39 rfl ?_
    refine ez_iconst hX (0 : Int32) dX5_list_40 (by decide) ?_
    refine ez_iload hX 0 dX5_list_41 rfl ?_
    refine ez_callV hX (N0 := 0) (As := [.int x3, .int (0 : Int32), .int r55]) (st := []) kc_1 (Nat.le_of_ble_eq_true rfl) lc_1 rfl (ec_X2_link _ _ _ M56 x3 (0 : Int32) r55) (Or.inl rfl) wm_X5_81 wv_X2_link we_X2_link wy_X2_link rfl wd_X2_link wi_X2 (ez_rok3 hRm (by omega)) (Nat.le_of_ble_eq_true rfl) dX5_list_43 ?_
    refine ez_nmM (fun M58 eM58 => ?_)
    refine ez_aload_n hX 1 dX5_list_46 rfl ?_
    refine ez_bipush hX (93 : Int32) dX5_list_47 (by decide) ?_
    refine ez_callV hX (N0 := 0) (As := [.int (93 : Int32)]) (st := []) kc_9 (Nat.le_of_ble_eq_true rfl) lc_9 rfl (ec_X5_passed _ _ _ M58 (93 : Int32)) (Or.inl rfl) wm_X5_77 wv_X5_passed we_X5_passed wy_X5_passed rfl wd_X5_passed wi_X5 (ez_rok3 hRm (by omega)) (Nat.le_of_ble_eq_true rfl) dX5_list_49 ?_
    refine ez_nmIM (fun r59 M60 eM60 => ?_)
    refine ez_if_eq hX 57 dX5_list_52 (by decide) (fun c61 => ?_) (fun c61 => ?_)
    · -- c61 jump
      refine ez_iload hX 5 dX5_list_57 rfl ?_
      refine ez_iconst hX (5 : Int32) dX5_list_59 (by decide) ?_
      refine ez_icmp_eq hX 72 dX5_list_60 (by decide) (fun _ => ?_) (fun c => absurd c (by decide))
      refine ez_iconst hX (-1 : Int32) dX5_list_72 (by decide) ?_
      have ht : t0 = ((-1 : Int32), M60) := hT.symm.trans (by simp only [et_X5_list_15_5, eM56, if_pos c57, eM58, eM60, if_pos c61])
      subst ht
      exact ez_iret hX hQ dX5_list_73 rfl rfl
    · -- c61 on
      refine ez_iload_n hX 3 dX5_list_55 rfl ?_
      have ht : t0 = (x2, M60) := hT.symm.trans (by simp only [et_X5_list_15_5, eM56, if_pos c57, eM58, eM60, if_neg c61])
      subst ht
      exact ez_iret hX hQ dX5_list_56 rfl rfl
  · -- c57 on
    refine ez_iconst hX (-1 : Int32) dX5_list_33 (by decide) ?_
    have ht : t0 = ((-1 : Int32), M56) := hT.symm.trans (by simp only [et_X5_list_15_5, eM56, if_neg c57])
    subst ht
    exact ez_iret hX hQ dX5_list_34 rfl rfl
set_option maxHeartbeats 4000000 in
set_option maxRecDepth 100000 in
theorem el_X5_list_15_4 (X : em_X)  (within : Int32) (E : em_M → Int32 → Int32 × em_M) (fr lo : Nat) (hE : ∀ M : em_M, em_C (ez_l X) (ez_D X) (ez_B X) yX5_expression cX5_expression 5 (some .int) fr lo 0 0 false [.ref ((ez_B X) + 9), .int within] 132 em_R M (some (.int (E M within).1)) 132 em_R (E M within).2) (t0 : Int32 × em_M) (hRm : ez_rm X = { frames := (fr + 4), cells := 0, slots := 0, locals := (lo + 100) }) (hnL : ez_nL X = 7) (hX : ez_ok X cX5_list RX5) (M : em_M) (x2 : Int32) (x3 : Int32)  (hQ : ez_ret X (some .int) (some (.int t0.1)) 132 em_R (t0.2) 0 0) (hT : et_X5_list_15_4 E within M x2 x3 = t0) : ez_Z X 132 em_R M 0 0 15 [(0, .ref (ez_B X + 9)), (1, .int within), (2, .int x2), (3, .int x3), (4, .int (4 : Int32))] [] := by
  refine ez_iload hX 4 dX5_list_15 rfl ?_
  refine ez_iconst hX (5 : Int32) dX5_list_17 (by decide) ?_
  refine ez_icmp_gt hX 106 dX5_list_18 (by decide) (fun c => absurd c (by decide)) (fun _ => ?_)
  refine ez_aload_n hX 0 dX5_list_21 rfl ?_
  refine ez_iload_n hX 1 dX5_list_22 rfl ?_
  refine ez_callV hX (N0 := 0) (As := [.int within]) (st := []) kc_9 (Nat.le_of_ble_eq_true rfl) lc_9 rfl (hE M) (Or.inl rfl) wm_X5_35 wv_X5_expression we_X5_expression wy_X5_expression rfl wd_X5_expression wi_X5 (ez_rok3 hRm (by omega)) (Nat.le_of_ble_eq_true rfl) dX5_list_23 ?_
  refine ez_nmIM (fun r42 M43 eM43 => ?_)
  refine ez_istore hX [(5, .int r42), (0, .ref (ez_B X + 9)), (1, .int within), (2, .int x2), (3, .int x3), (4, .int (4 : Int32))] dX5_list_26 (ez_lt hnL rfl) rfl ?_
  refine ez_iload hX 0 dX5_list_28 rfl ?_
  refine ez_if_ge hX 35 dX5_list_30 (by decide) (fun c44 => ?_) (fun c44 => ?_)
  · -- c44 jump
    refine ez_aload_n hX 1 dX5_list_35 rfl ?_
    refine ez_getr hX kc_9 rfl (Nat.le_of_ble_eq_true rfl) lc_9 (Nat.le_of_ble_eq_true rfl) inX5 1 rfl rc_9_3 wf_X5_15 dX5_list_36 ?_
    refine ez_iload_n hX 4 dX5_list_39 rfl ?_
    refine ez_iconst hX (0 : Int32) dX5_list_40 (by decide) ?_
    refine ez_iload hX 0 dX5_list_41 rfl ?_
    refine ez_callV hX (N0 := 0) (As := [.int x3, .int (0 : Int32), .int r42]) (st := []) kc_1 (Nat.le_of_ble_eq_true rfl) lc_1 rfl (ec_X2_link _ _ _ M43 x3 (0 : Int32) r42) (Or.inl rfl) wm_X5_81 wv_X2_link we_X2_link wy_X2_link rfl wd_X2_link wi_X2 (ez_rok3 hRm (by omega)) (Nat.le_of_ble_eq_true rfl) dX5_list_43 ?_
    refine ez_nmM (fun M45 eM45 => ?_)
    refine ez_aload_n hX 1 dX5_list_46 rfl ?_
    refine ez_bipush hX (93 : Int32) dX5_list_47 (by decide) ?_
    refine ez_callV hX (N0 := 0) (As := [.int (93 : Int32)]) (st := []) kc_9 (Nat.le_of_ble_eq_true rfl) lc_9 rfl (ec_X5_passed _ _ _ M45 (93 : Int32)) (Or.inl rfl) wm_X5_77 wv_X5_passed we_X5_passed wy_X5_passed rfl wd_X5_passed wi_X5 (ez_rok3 hRm (by omega)) (Nat.le_of_ble_eq_true rfl) dX5_list_49 ?_
    refine ez_nmIM (fun r46 M47 eM47 => ?_)
    refine ez_if_eq hX 57 dX5_list_52 (by decide) (fun c48 => ?_) (fun c48 => ?_)
    · -- c48 jump
      refine ez_iload hX 5 dX5_list_57 rfl ?_
      refine ez_iconst hX (5 : Int32) dX5_list_59 (by decide) ?_
      refine ez_icmp_eq hX 72 dX5_list_60 (by decide) (fun c => absurd c (by decide)) (fun _ => ?_)
      refine ez_aload_n hX 1 dX5_list_63 rfl ?_
      refine ez_bipush hX (44 : Int32) dX5_list_64 (by decide) ?_
      refine ez_callV hX (N0 := 0) (As := [.int (44 : Int32)]) (st := []) kc_9 (Nat.le_of_ble_eq_true rfl) lc_9 rfl (ec_X5_passed _ _ _ M47 (44 : Int32)) (Or.inl rfl) wm_X5_77 wv_X5_passed we_X5_passed wy_X5_passed rfl wd_X5_passed wi_X5 (ez_rok3 hRm (by omega)) (Nat.le_of_ble_eq_true rfl) dX5_list_66 ?_
      refine ez_nmIM (fun r49 M50 eM50 => ?_)
      refine ez_if_ne hX 74 dX5_list_69 (by decide) (fun c51 => ?_) (fun c51 => ?_)
      · -- c51 jump
        refine ez_aload_n hX 1 dX5_list_74 rfl ?_
        refine ez_getr hX kc_9 rfl (Nat.le_of_ble_eq_true rfl) lc_9 (Nat.le_of_ble_eq_true rfl) inX5 1 rfl rc_9_3 wf_X5_15 dX5_list_75 ?_
        refine ez_bipush hX (14 : Int32) dX5_list_78 (by decide) ?_
        refine ez_iconst hX (0 : Int32) dX5_list_80 (by decide) ?_
        refine ez_callV hX (N0 := 0) (As := [.int (14 : Int32), .int (0 : Int32)]) (st := []) kc_1 (Nat.le_of_ble_eq_true rfl) lc_1 rfl (ec_X2_add _ _ _ M50 (14 : Int32) (0 : Int32)) (Or.inl rfl) wm_X5_60 wv_X2_add we_X2_add wy_X2_add rfl wd_X2_add wi_X2 (ez_rok3 hRm (by omega)) (Nat.le_of_ble_eq_true rfl) dX5_list_81 ?_
        refine ez_nmIM (fun r52 M53 eM53 => ?_)
        refine ez_istore hX [(6, .int r52), (5, .int r42), (0, .ref (ez_B X + 9)), (1, .int within), (2, .int x2), (3, .int x3), (4, .int (4 : Int32))] dX5_list_84 (ez_lt hnL rfl) rfl ?_
        refine ez_aload_n hX 2 dX5_list_86 rfl ?_
        refine ez_getr hX kc_9 rfl (Nat.le_of_ble_eq_true rfl) lc_9 (Nat.le_of_ble_eq_true rfl) inX5 1 rfl rc_9_3 wf_X5_15 dX5_list_87 ?_
        refine ez_iload_n hX 5 dX5_list_90 rfl ?_
        refine ez_iconst hX (1 : Int32) dX5_list_91 (by decide) ?_
        refine ez_iload hX 0 dX5_list_92 rfl ?_
        refine ez_callV hX (N0 := 0) (As := [.int x3, .int (1 : Int32), .int r52]) (st := []) kc_1 (Nat.le_of_ble_eq_true rfl) lc_1 rfl (ec_X2_link _ _ _ M53 x3 (1 : Int32) r52) (Or.inl rfl) wm_X5_81 wv_X2_link we_X2_link wy_X2_link rfl wd_X2_link wi_X2 (ez_rok3 hRm (by omega)) (Nat.le_of_ble_eq_true rfl) dX5_list_94 ?_
        refine ez_nmM (fun M54 eM54 => ?_)
        refine ez_iload hX 0 dX5_list_97 rfl ?_
        refine ez_istore_n hX [(3, .int r52), (6, .int r52), (5, .int r42), (0, .ref (ez_B X + 9)), (1, .int within), (2, .int x2), (4, .int (4 : Int32))] dX5_list_99 (ez_lt hnL rfl) rfl ?_
        refine ez_iinc hX (5 : Int32) 6 [(4, .int (5 : Int32)), (3, .int r52), (6, .int r52), (5, .int r42), (0, .ref (ez_B X + 9)), (1, .int within), (2, .int x2)] dX5_list_100 rfl (by decide) (ez_lt hnL rfl) rfl ?_
        refine ez_goto hX 15 dX5_list_103 (by decide) ?_
        refine ez_lv [4, 5, 6, 1, 0] rfl ?_
        exact el_X5_list_15_5 X within E fr lo hE t0 hRm hnL hX M54 x2 r52 hQ (Eq.trans (by simp only [et_X5_list_15_4, eM43, if_pos c44, eM45, eM47, if_pos c48, eM50, if_neg c51, eM53, eM54]) hT)
      · -- c51 on
        refine ez_iconst hX (-1 : Int32) dX5_list_72 (by decide) ?_
        have ht : t0 = ((-1 : Int32), M50) := hT.symm.trans (by simp only [et_X5_list_15_4, eM43, if_pos c44, eM45, eM47, if_pos c48, eM50, if_pos c51])
        subst ht
        exact ez_iret hX hQ dX5_list_73 rfl rfl
    · -- c48 on
      refine ez_iload_n hX 3 dX5_list_55 rfl ?_
      have ht : t0 = (x2, M47) := hT.symm.trans (by simp only [et_X5_list_15_4, eM43, if_pos c44, eM45, eM47, if_neg c48])
      subst ht
      exact ez_iret hX hQ dX5_list_56 rfl rfl
  · -- c44 on
    refine ez_iconst hX (-1 : Int32) dX5_list_33 (by decide) ?_
    have ht : t0 = ((-1 : Int32), M43) := hT.symm.trans (by simp only [et_X5_list_15_4, eM43, if_neg c44])
    subst ht
    exact ez_iret hX hQ dX5_list_34 rfl rfl
set_option maxHeartbeats 4000000 in
set_option maxRecDepth 100000 in
theorem el_X5_list_15_3 (X : em_X)  (within : Int32) (E : em_M → Int32 → Int32 × em_M) (fr lo : Nat) (hE : ∀ M : em_M, em_C (ez_l X) (ez_D X) (ez_B X) yX5_expression cX5_expression 5 (some .int) fr lo 0 0 false [.ref ((ez_B X) + 9), .int within] 132 em_R M (some (.int (E M within).1)) 132 em_R (E M within).2) (t0 : Int32 × em_M) (hRm : ez_rm X = { frames := (fr + 4), cells := 0, slots := 0, locals := (lo + 100) }) (hnL : ez_nL X = 7) (hX : ez_ok X cX5_list RX5) (M : em_M) (x2 : Int32) (x3 : Int32)  (hQ : ez_ret X (some .int) (some (.int t0.1)) 132 em_R (t0.2) 0 0) (hT : et_X5_list_15_3 E within M x2 x3 = t0) : ez_Z X 132 em_R M 0 0 15 [(0, .ref (ez_B X + 9)), (1, .int within), (2, .int x2), (3, .int x3), (4, .int (3 : Int32))] [] := by
  refine ez_iload hX 4 dX5_list_15 rfl ?_
  refine ez_iconst hX (5 : Int32) dX5_list_17 (by decide) ?_
  refine ez_icmp_gt hX 106 dX5_list_18 (by decide) (fun c => absurd c (by decide)) (fun _ => ?_)
  refine ez_aload_n hX 0 dX5_list_21 rfl ?_
  refine ez_iload_n hX 1 dX5_list_22 rfl ?_
  refine ez_callV hX (N0 := 0) (As := [.int within]) (st := []) kc_9 (Nat.le_of_ble_eq_true rfl) lc_9 rfl (hE M) (Or.inl rfl) wm_X5_35 wv_X5_expression we_X5_expression wy_X5_expression rfl wd_X5_expression wi_X5 (ez_rok3 hRm (by omega)) (Nat.le_of_ble_eq_true rfl) dX5_list_23 ?_
  refine ez_nmIM (fun r29 M30 eM30 => ?_)
  refine ez_istore hX [(5, .int r29), (0, .ref (ez_B X + 9)), (1, .int within), (2, .int x2), (3, .int x3), (4, .int (3 : Int32))] dX5_list_26 (ez_lt hnL rfl) rfl ?_
  refine ez_iload hX 0 dX5_list_28 rfl ?_
  refine ez_if_ge hX 35 dX5_list_30 (by decide) (fun c31 => ?_) (fun c31 => ?_)
  · -- c31 jump
    refine ez_aload_n hX 1 dX5_list_35 rfl ?_
    refine ez_getr hX kc_9 rfl (Nat.le_of_ble_eq_true rfl) lc_9 (Nat.le_of_ble_eq_true rfl) inX5 1 rfl rc_9_3 wf_X5_15 dX5_list_36 ?_
    refine ez_iload_n hX 4 dX5_list_39 rfl ?_
    refine ez_iconst hX (0 : Int32) dX5_list_40 (by decide) ?_
    refine ez_iload hX 0 dX5_list_41 rfl ?_
    refine ez_callV hX (N0 := 0) (As := [.int x3, .int (0 : Int32), .int r29]) (st := []) kc_1 (Nat.le_of_ble_eq_true rfl) lc_1 rfl (ec_X2_link _ _ _ M30 x3 (0 : Int32) r29) (Or.inl rfl) wm_X5_81 wv_X2_link we_X2_link wy_X2_link rfl wd_X2_link wi_X2 (ez_rok3 hRm (by omega)) (Nat.le_of_ble_eq_true rfl) dX5_list_43 ?_
    refine ez_nmM (fun M32 eM32 => ?_)
    refine ez_aload_n hX 1 dX5_list_46 rfl ?_
    refine ez_bipush hX (93 : Int32) dX5_list_47 (by decide) ?_
    refine ez_callV hX (N0 := 0) (As := [.int (93 : Int32)]) (st := []) kc_9 (Nat.le_of_ble_eq_true rfl) lc_9 rfl (ec_X5_passed _ _ _ M32 (93 : Int32)) (Or.inl rfl) wm_X5_77 wv_X5_passed we_X5_passed wy_X5_passed rfl wd_X5_passed wi_X5 (ez_rok3 hRm (by omega)) (Nat.le_of_ble_eq_true rfl) dX5_list_49 ?_
    refine ez_nmIM (fun r33 M34 eM34 => ?_)
    refine ez_if_eq hX 57 dX5_list_52 (by decide) (fun c35 => ?_) (fun c35 => ?_)
    · -- c35 jump
      refine ez_iload hX 5 dX5_list_57 rfl ?_
      refine ez_iconst hX (5 : Int32) dX5_list_59 (by decide) ?_
      refine ez_icmp_eq hX 72 dX5_list_60 (by decide) (fun c => absurd c (by decide)) (fun _ => ?_)
      refine ez_aload_n hX 1 dX5_list_63 rfl ?_
      refine ez_bipush hX (44 : Int32) dX5_list_64 (by decide) ?_
      refine ez_callV hX (N0 := 0) (As := [.int (44 : Int32)]) (st := []) kc_9 (Nat.le_of_ble_eq_true rfl) lc_9 rfl (ec_X5_passed _ _ _ M34 (44 : Int32)) (Or.inl rfl) wm_X5_77 wv_X5_passed we_X5_passed wy_X5_passed rfl wd_X5_passed wi_X5 (ez_rok3 hRm (by omega)) (Nat.le_of_ble_eq_true rfl) dX5_list_66 ?_
      refine ez_nmIM (fun r36 M37 eM37 => ?_)
      refine ez_if_ne hX 74 dX5_list_69 (by decide) (fun c38 => ?_) (fun c38 => ?_)
      · -- c38 jump
        refine ez_aload_n hX 1 dX5_list_74 rfl ?_
        refine ez_getr hX kc_9 rfl (Nat.le_of_ble_eq_true rfl) lc_9 (Nat.le_of_ble_eq_true rfl) inX5 1 rfl rc_9_3 wf_X5_15 dX5_list_75 ?_
        refine ez_bipush hX (14 : Int32) dX5_list_78 (by decide) ?_
        refine ez_iconst hX (0 : Int32) dX5_list_80 (by decide) ?_
        refine ez_callV hX (N0 := 0) (As := [.int (14 : Int32), .int (0 : Int32)]) (st := []) kc_1 (Nat.le_of_ble_eq_true rfl) lc_1 rfl (ec_X2_add _ _ _ M37 (14 : Int32) (0 : Int32)) (Or.inl rfl) wm_X5_60 wv_X2_add we_X2_add wy_X2_add rfl wd_X2_add wi_X2 (ez_rok3 hRm (by omega)) (Nat.le_of_ble_eq_true rfl) dX5_list_81 ?_
        refine ez_nmIM (fun r39 M40 eM40 => ?_)
        refine ez_istore hX [(6, .int r39), (5, .int r29), (0, .ref (ez_B X + 9)), (1, .int within), (2, .int x2), (3, .int x3), (4, .int (3 : Int32))] dX5_list_84 (ez_lt hnL rfl) rfl ?_
        refine ez_aload_n hX 2 dX5_list_86 rfl ?_
        refine ez_getr hX kc_9 rfl (Nat.le_of_ble_eq_true rfl) lc_9 (Nat.le_of_ble_eq_true rfl) inX5 1 rfl rc_9_3 wf_X5_15 dX5_list_87 ?_
        refine ez_iload_n hX 5 dX5_list_90 rfl ?_
        refine ez_iconst hX (1 : Int32) dX5_list_91 (by decide) ?_
        refine ez_iload hX 0 dX5_list_92 rfl ?_
        refine ez_callV hX (N0 := 0) (As := [.int x3, .int (1 : Int32), .int r39]) (st := []) kc_1 (Nat.le_of_ble_eq_true rfl) lc_1 rfl (ec_X2_link _ _ _ M40 x3 (1 : Int32) r39) (Or.inl rfl) wm_X5_81 wv_X2_link we_X2_link wy_X2_link rfl wd_X2_link wi_X2 (ez_rok3 hRm (by omega)) (Nat.le_of_ble_eq_true rfl) dX5_list_94 ?_
        refine ez_nmM (fun M41 eM41 => ?_)
        refine ez_iload hX 0 dX5_list_97 rfl ?_
        refine ez_istore_n hX [(3, .int r39), (6, .int r39), (5, .int r29), (0, .ref (ez_B X + 9)), (1, .int within), (2, .int x2), (4, .int (3 : Int32))] dX5_list_99 (ez_lt hnL rfl) rfl ?_
        refine ez_iinc hX (4 : Int32) 6 [(4, .int (4 : Int32)), (3, .int r39), (6, .int r39), (5, .int r29), (0, .ref (ez_B X + 9)), (1, .int within), (2, .int x2)] dX5_list_100 rfl (by decide) (ez_lt hnL rfl) rfl ?_
        refine ez_goto hX 15 dX5_list_103 (by decide) ?_
        refine ez_lv [4, 5, 6, 1, 0] rfl ?_
        exact el_X5_list_15_4 X within E fr lo hE t0 hRm hnL hX M41 x2 r39 hQ (Eq.trans (by simp only [et_X5_list_15_3, eM30, if_pos c31, eM32, eM34, if_pos c35, eM37, if_neg c38, eM40, eM41]) hT)
      · -- c38 on
        refine ez_iconst hX (-1 : Int32) dX5_list_72 (by decide) ?_
        have ht : t0 = ((-1 : Int32), M37) := hT.symm.trans (by simp only [et_X5_list_15_3, eM30, if_pos c31, eM32, eM34, if_pos c35, eM37, if_pos c38])
        subst ht
        exact ez_iret hX hQ dX5_list_73 rfl rfl
    · -- c35 on
      refine ez_iload_n hX 3 dX5_list_55 rfl ?_
      have ht : t0 = (x2, M34) := hT.symm.trans (by simp only [et_X5_list_15_3, eM30, if_pos c31, eM32, eM34, if_neg c35])
      subst ht
      exact ez_iret hX hQ dX5_list_56 rfl rfl
  · -- c31 on
    refine ez_iconst hX (-1 : Int32) dX5_list_33 (by decide) ?_
    have ht : t0 = ((-1 : Int32), M30) := hT.symm.trans (by simp only [et_X5_list_15_3, eM30, if_neg c31])
    subst ht
    exact ez_iret hX hQ dX5_list_34 rfl rfl
set_option maxHeartbeats 4000000 in
set_option maxRecDepth 100000 in
theorem el_X5_list_15_2 (X : em_X)  (within : Int32) (E : em_M → Int32 → Int32 × em_M) (fr lo : Nat) (hE : ∀ M : em_M, em_C (ez_l X) (ez_D X) (ez_B X) yX5_expression cX5_expression 5 (some .int) fr lo 0 0 false [.ref ((ez_B X) + 9), .int within] 132 em_R M (some (.int (E M within).1)) 132 em_R (E M within).2) (t0 : Int32 × em_M) (hRm : ez_rm X = { frames := (fr + 4), cells := 0, slots := 0, locals := (lo + 100) }) (hnL : ez_nL X = 7) (hX : ez_ok X cX5_list RX5) (M : em_M) (x2 : Int32) (x3 : Int32)  (hQ : ez_ret X (some .int) (some (.int t0.1)) 132 em_R (t0.2) 0 0) (hT : et_X5_list_15_2 E within M x2 x3 = t0) : ez_Z X 132 em_R M 0 0 15 [(0, .ref (ez_B X + 9)), (1, .int within), (2, .int x2), (3, .int x3), (4, .int (2 : Int32))] [] := by
  refine ez_iload hX 4 dX5_list_15 rfl ?_
  refine ez_iconst hX (5 : Int32) dX5_list_17 (by decide) ?_
  refine ez_icmp_gt hX 106 dX5_list_18 (by decide) (fun c => absurd c (by decide)) (fun _ => ?_)
  refine ez_aload_n hX 0 dX5_list_21 rfl ?_
  refine ez_iload_n hX 1 dX5_list_22 rfl ?_
  refine ez_callV hX (N0 := 0) (As := [.int within]) (st := []) kc_9 (Nat.le_of_ble_eq_true rfl) lc_9 rfl (hE M) (Or.inl rfl) wm_X5_35 wv_X5_expression we_X5_expression wy_X5_expression rfl wd_X5_expression wi_X5 (ez_rok3 hRm (by omega)) (Nat.le_of_ble_eq_true rfl) dX5_list_23 ?_
  refine ez_nmIM (fun r16 M17 eM17 => ?_)
  refine ez_istore hX [(5, .int r16), (0, .ref (ez_B X + 9)), (1, .int within), (2, .int x2), (3, .int x3), (4, .int (2 : Int32))] dX5_list_26 (ez_lt hnL rfl) rfl ?_
  refine ez_iload hX 0 dX5_list_28 rfl ?_
  refine ez_if_ge hX 35 dX5_list_30 (by decide) (fun c18 => ?_) (fun c18 => ?_)
  · -- c18 jump
    refine ez_aload_n hX 1 dX5_list_35 rfl ?_
    refine ez_getr hX kc_9 rfl (Nat.le_of_ble_eq_true rfl) lc_9 (Nat.le_of_ble_eq_true rfl) inX5 1 rfl rc_9_3 wf_X5_15 dX5_list_36 ?_
    refine ez_iload_n hX 4 dX5_list_39 rfl ?_
    refine ez_iconst hX (0 : Int32) dX5_list_40 (by decide) ?_
    refine ez_iload hX 0 dX5_list_41 rfl ?_
    refine ez_callV hX (N0 := 0) (As := [.int x3, .int (0 : Int32), .int r16]) (st := []) kc_1 (Nat.le_of_ble_eq_true rfl) lc_1 rfl (ec_X2_link _ _ _ M17 x3 (0 : Int32) r16) (Or.inl rfl) wm_X5_81 wv_X2_link we_X2_link wy_X2_link rfl wd_X2_link wi_X2 (ez_rok3 hRm (by omega)) (Nat.le_of_ble_eq_true rfl) dX5_list_43 ?_
    refine ez_nmM (fun M19 eM19 => ?_)
    refine ez_aload_n hX 1 dX5_list_46 rfl ?_
    refine ez_bipush hX (93 : Int32) dX5_list_47 (by decide) ?_
    refine ez_callV hX (N0 := 0) (As := [.int (93 : Int32)]) (st := []) kc_9 (Nat.le_of_ble_eq_true rfl) lc_9 rfl (ec_X5_passed _ _ _ M19 (93 : Int32)) (Or.inl rfl) wm_X5_77 wv_X5_passed we_X5_passed wy_X5_passed rfl wd_X5_passed wi_X5 (ez_rok3 hRm (by omega)) (Nat.le_of_ble_eq_true rfl) dX5_list_49 ?_
    refine ez_nmIM (fun r20 M21 eM21 => ?_)
    refine ez_if_eq hX 57 dX5_list_52 (by decide) (fun c22 => ?_) (fun c22 => ?_)
    · -- c22 jump
      refine ez_iload hX 5 dX5_list_57 rfl ?_
      refine ez_iconst hX (5 : Int32) dX5_list_59 (by decide) ?_
      refine ez_icmp_eq hX 72 dX5_list_60 (by decide) (fun c => absurd c (by decide)) (fun _ => ?_)
      refine ez_aload_n hX 1 dX5_list_63 rfl ?_
      refine ez_bipush hX (44 : Int32) dX5_list_64 (by decide) ?_
      refine ez_callV hX (N0 := 0) (As := [.int (44 : Int32)]) (st := []) kc_9 (Nat.le_of_ble_eq_true rfl) lc_9 rfl (ec_X5_passed _ _ _ M21 (44 : Int32)) (Or.inl rfl) wm_X5_77 wv_X5_passed we_X5_passed wy_X5_passed rfl wd_X5_passed wi_X5 (ez_rok3 hRm (by omega)) (Nat.le_of_ble_eq_true rfl) dX5_list_66 ?_
      refine ez_nmIM (fun r23 M24 eM24 => ?_)
      refine ez_if_ne hX 74 dX5_list_69 (by decide) (fun c25 => ?_) (fun c25 => ?_)
      · -- c25 jump
        refine ez_aload_n hX 1 dX5_list_74 rfl ?_
        refine ez_getr hX kc_9 rfl (Nat.le_of_ble_eq_true rfl) lc_9 (Nat.le_of_ble_eq_true rfl) inX5 1 rfl rc_9_3 wf_X5_15 dX5_list_75 ?_
        refine ez_bipush hX (14 : Int32) dX5_list_78 (by decide) ?_
        refine ez_iconst hX (0 : Int32) dX5_list_80 (by decide) ?_
        refine ez_callV hX (N0 := 0) (As := [.int (14 : Int32), .int (0 : Int32)]) (st := []) kc_1 (Nat.le_of_ble_eq_true rfl) lc_1 rfl (ec_X2_add _ _ _ M24 (14 : Int32) (0 : Int32)) (Or.inl rfl) wm_X5_60 wv_X2_add we_X2_add wy_X2_add rfl wd_X2_add wi_X2 (ez_rok3 hRm (by omega)) (Nat.le_of_ble_eq_true rfl) dX5_list_81 ?_
        refine ez_nmIM (fun r26 M27 eM27 => ?_)
        refine ez_istore hX [(6, .int r26), (5, .int r16), (0, .ref (ez_B X + 9)), (1, .int within), (2, .int x2), (3, .int x3), (4, .int (2 : Int32))] dX5_list_84 (ez_lt hnL rfl) rfl ?_
        refine ez_aload_n hX 2 dX5_list_86 rfl ?_
        refine ez_getr hX kc_9 rfl (Nat.le_of_ble_eq_true rfl) lc_9 (Nat.le_of_ble_eq_true rfl) inX5 1 rfl rc_9_3 wf_X5_15 dX5_list_87 ?_
        refine ez_iload_n hX 5 dX5_list_90 rfl ?_
        refine ez_iconst hX (1 : Int32) dX5_list_91 (by decide) ?_
        refine ez_iload hX 0 dX5_list_92 rfl ?_
        refine ez_callV hX (N0 := 0) (As := [.int x3, .int (1 : Int32), .int r26]) (st := []) kc_1 (Nat.le_of_ble_eq_true rfl) lc_1 rfl (ec_X2_link _ _ _ M27 x3 (1 : Int32) r26) (Or.inl rfl) wm_X5_81 wv_X2_link we_X2_link wy_X2_link rfl wd_X2_link wi_X2 (ez_rok3 hRm (by omega)) (Nat.le_of_ble_eq_true rfl) dX5_list_94 ?_
        refine ez_nmM (fun M28 eM28 => ?_)
        refine ez_iload hX 0 dX5_list_97 rfl ?_
        refine ez_istore_n hX [(3, .int r26), (6, .int r26), (5, .int r16), (0, .ref (ez_B X + 9)), (1, .int within), (2, .int x2), (4, .int (2 : Int32))] dX5_list_99 (ez_lt hnL rfl) rfl ?_
        refine ez_iinc hX (3 : Int32) 6 [(4, .int (3 : Int32)), (3, .int r26), (6, .int r26), (5, .int r16), (0, .ref (ez_B X + 9)), (1, .int within), (2, .int x2)] dX5_list_100 rfl (by decide) (ez_lt hnL rfl) rfl ?_
        refine ez_goto hX 15 dX5_list_103 (by decide) ?_
        refine ez_lv [4, 5, 6, 1, 0] rfl ?_
        exact el_X5_list_15_3 X within E fr lo hE t0 hRm hnL hX M28 x2 r26 hQ (Eq.trans (by simp only [et_X5_list_15_2, eM17, if_pos c18, eM19, eM21, if_pos c22, eM24, if_neg c25, eM27, eM28]) hT)
      · -- c25 on
        refine ez_iconst hX (-1 : Int32) dX5_list_72 (by decide) ?_
        have ht : t0 = ((-1 : Int32), M24) := hT.symm.trans (by simp only [et_X5_list_15_2, eM17, if_pos c18, eM19, eM21, if_pos c22, eM24, if_pos c25])
        subst ht
        exact ez_iret hX hQ dX5_list_73 rfl rfl
    · -- c22 on
      refine ez_iload_n hX 3 dX5_list_55 rfl ?_
      have ht : t0 = (x2, M21) := hT.symm.trans (by simp only [et_X5_list_15_2, eM17, if_pos c18, eM19, eM21, if_neg c22])
      subst ht
      exact ez_iret hX hQ dX5_list_56 rfl rfl
  · -- c18 on
    refine ez_iconst hX (-1 : Int32) dX5_list_33 (by decide) ?_
    have ht : t0 = ((-1 : Int32), M17) := hT.symm.trans (by simp only [et_X5_list_15_2, eM17, if_neg c18])
    subst ht
    exact ez_iret hX hQ dX5_list_34 rfl rfl
set_option maxHeartbeats 4000000 in
set_option maxRecDepth 100000 in
theorem el_X5_list_15_1 (X : em_X)  (within : Int32) (E : em_M → Int32 → Int32 × em_M) (fr lo : Nat) (hE : ∀ M : em_M, em_C (ez_l X) (ez_D X) (ez_B X) yX5_expression cX5_expression 5 (some .int) fr lo 0 0 false [.ref ((ez_B X) + 9), .int within] 132 em_R M (some (.int (E M within).1)) 132 em_R (E M within).2) (t0 : Int32 × em_M) (hRm : ez_rm X = { frames := (fr + 4), cells := 0, slots := 0, locals := (lo + 100) }) (hnL : ez_nL X = 7) (hX : ez_ok X cX5_list RX5) (M : em_M) (x2 : Int32) (x3 : Int32)  (hQ : ez_ret X (some .int) (some (.int t0.1)) 132 em_R (t0.2) 0 0) (hT : et_X5_list_15_1 E within M x2 x3 = t0) : ez_Z X 132 em_R M 0 0 15 [(0, .ref (ez_B X + 9)), (1, .int within), (2, .int x2), (3, .int x3), (4, .int (1 : Int32))] [] := by
  refine ez_iload hX 4 dX5_list_15 rfl ?_
  refine ez_iconst hX (5 : Int32) dX5_list_17 (by decide) ?_
  refine ez_icmp_gt hX 106 dX5_list_18 (by decide) (fun c => absurd c (by decide)) (fun _ => ?_)
  refine ez_aload_n hX 0 dX5_list_21 rfl ?_
  refine ez_iload_n hX 1 dX5_list_22 rfl ?_
  refine ez_callV hX (N0 := 0) (As := [.int within]) (st := []) kc_9 (Nat.le_of_ble_eq_true rfl) lc_9 rfl (hE M) (Or.inl rfl) wm_X5_35 wv_X5_expression we_X5_expression wy_X5_expression rfl wd_X5_expression wi_X5 (ez_rok3 hRm (by omega)) (Nat.le_of_ble_eq_true rfl) dX5_list_23 ?_
  refine ez_nmIM (fun r3 M4 eM4 => ?_)
  refine ez_istore hX [(5, .int r3), (0, .ref (ez_B X + 9)), (1, .int within), (2, .int x2), (3, .int x3), (4, .int (1 : Int32))] dX5_list_26 (ez_lt hnL rfl) rfl ?_
  refine ez_iload hX 0 dX5_list_28 rfl ?_
  refine ez_if_ge hX 35 dX5_list_30 (by decide) (fun c5 => ?_) (fun c5 => ?_)
  · -- c5 jump
    refine ez_aload_n hX 1 dX5_list_35 rfl ?_
    refine ez_getr hX kc_9 rfl (Nat.le_of_ble_eq_true rfl) lc_9 (Nat.le_of_ble_eq_true rfl) inX5 1 rfl rc_9_3 wf_X5_15 dX5_list_36 ?_
    refine ez_iload_n hX 4 dX5_list_39 rfl ?_
    refine ez_iconst hX (0 : Int32) dX5_list_40 (by decide) ?_
    refine ez_iload hX 0 dX5_list_41 rfl ?_
    refine ez_callV hX (N0 := 0) (As := [.int x3, .int (0 : Int32), .int r3]) (st := []) kc_1 (Nat.le_of_ble_eq_true rfl) lc_1 rfl (ec_X2_link _ _ _ M4 x3 (0 : Int32) r3) (Or.inl rfl) wm_X5_81 wv_X2_link we_X2_link wy_X2_link rfl wd_X2_link wi_X2 (ez_rok3 hRm (by omega)) (Nat.le_of_ble_eq_true rfl) dX5_list_43 ?_
    refine ez_nmM (fun M6 eM6 => ?_)
    refine ez_aload_n hX 1 dX5_list_46 rfl ?_
    refine ez_bipush hX (93 : Int32) dX5_list_47 (by decide) ?_
    refine ez_callV hX (N0 := 0) (As := [.int (93 : Int32)]) (st := []) kc_9 (Nat.le_of_ble_eq_true rfl) lc_9 rfl (ec_X5_passed _ _ _ M6 (93 : Int32)) (Or.inl rfl) wm_X5_77 wv_X5_passed we_X5_passed wy_X5_passed rfl wd_X5_passed wi_X5 (ez_rok3 hRm (by omega)) (Nat.le_of_ble_eq_true rfl) dX5_list_49 ?_
    refine ez_nmIM (fun r7 M8 eM8 => ?_)
    refine ez_if_eq hX 57 dX5_list_52 (by decide) (fun c9 => ?_) (fun c9 => ?_)
    · -- c9 jump
      refine ez_iload hX 5 dX5_list_57 rfl ?_
      refine ez_iconst hX (5 : Int32) dX5_list_59 (by decide) ?_
      refine ez_icmp_eq hX 72 dX5_list_60 (by decide) (fun c => absurd c (by decide)) (fun _ => ?_)
      refine ez_aload_n hX 1 dX5_list_63 rfl ?_
      refine ez_bipush hX (44 : Int32) dX5_list_64 (by decide) ?_
      refine ez_callV hX (N0 := 0) (As := [.int (44 : Int32)]) (st := []) kc_9 (Nat.le_of_ble_eq_true rfl) lc_9 rfl (ec_X5_passed _ _ _ M8 (44 : Int32)) (Or.inl rfl) wm_X5_77 wv_X5_passed we_X5_passed wy_X5_passed rfl wd_X5_passed wi_X5 (ez_rok3 hRm (by omega)) (Nat.le_of_ble_eq_true rfl) dX5_list_66 ?_
      refine ez_nmIM (fun r10 M11 eM11 => ?_)
      refine ez_if_ne hX 74 dX5_list_69 (by decide) (fun c12 => ?_) (fun c12 => ?_)
      · -- c12 jump
        refine ez_aload_n hX 1 dX5_list_74 rfl ?_
        refine ez_getr hX kc_9 rfl (Nat.le_of_ble_eq_true rfl) lc_9 (Nat.le_of_ble_eq_true rfl) inX5 1 rfl rc_9_3 wf_X5_15 dX5_list_75 ?_
        refine ez_bipush hX (14 : Int32) dX5_list_78 (by decide) ?_
        refine ez_iconst hX (0 : Int32) dX5_list_80 (by decide) ?_
        refine ez_callV hX (N0 := 0) (As := [.int (14 : Int32), .int (0 : Int32)]) (st := []) kc_1 (Nat.le_of_ble_eq_true rfl) lc_1 rfl (ec_X2_add _ _ _ M11 (14 : Int32) (0 : Int32)) (Or.inl rfl) wm_X5_60 wv_X2_add we_X2_add wy_X2_add rfl wd_X2_add wi_X2 (ez_rok3 hRm (by omega)) (Nat.le_of_ble_eq_true rfl) dX5_list_81 ?_
        refine ez_nmIM (fun r13 M14 eM14 => ?_)
        refine ez_istore hX [(6, .int r13), (5, .int r3), (0, .ref (ez_B X + 9)), (1, .int within), (2, .int x2), (3, .int x3), (4, .int (1 : Int32))] dX5_list_84 (ez_lt hnL rfl) rfl ?_
        refine ez_aload_n hX 2 dX5_list_86 rfl ?_
        refine ez_getr hX kc_9 rfl (Nat.le_of_ble_eq_true rfl) lc_9 (Nat.le_of_ble_eq_true rfl) inX5 1 rfl rc_9_3 wf_X5_15 dX5_list_87 ?_
        refine ez_iload_n hX 5 dX5_list_90 rfl ?_
        refine ez_iconst hX (1 : Int32) dX5_list_91 (by decide) ?_
        refine ez_iload hX 0 dX5_list_92 rfl ?_
        refine ez_callV hX (N0 := 0) (As := [.int x3, .int (1 : Int32), .int r13]) (st := []) kc_1 (Nat.le_of_ble_eq_true rfl) lc_1 rfl (ec_X2_link _ _ _ M14 x3 (1 : Int32) r13) (Or.inl rfl) wm_X5_81 wv_X2_link we_X2_link wy_X2_link rfl wd_X2_link wi_X2 (ez_rok3 hRm (by omega)) (Nat.le_of_ble_eq_true rfl) dX5_list_94 ?_
        refine ez_nmM (fun M15 eM15 => ?_)
        refine ez_iload hX 0 dX5_list_97 rfl ?_
        refine ez_istore_n hX [(3, .int r13), (6, .int r13), (5, .int r3), (0, .ref (ez_B X + 9)), (1, .int within), (2, .int x2), (4, .int (1 : Int32))] dX5_list_99 (ez_lt hnL rfl) rfl ?_
        refine ez_iinc hX (2 : Int32) 6 [(4, .int (2 : Int32)), (3, .int r13), (6, .int r13), (5, .int r3), (0, .ref (ez_B X + 9)), (1, .int within), (2, .int x2)] dX5_list_100 rfl (by decide) (ez_lt hnL rfl) rfl ?_
        refine ez_goto hX 15 dX5_list_103 (by decide) ?_
        refine ez_lv [4, 5, 6, 1, 0] rfl ?_
        exact el_X5_list_15_2 X within E fr lo hE t0 hRm hnL hX M15 x2 r13 hQ (Eq.trans (by simp only [et_X5_list_15_1, eM4, if_pos c5, eM6, eM8, if_pos c9, eM11, if_neg c12, eM14, eM15]) hT)
      · -- c12 on
        refine ez_iconst hX (-1 : Int32) dX5_list_72 (by decide) ?_
        have ht : t0 = ((-1 : Int32), M11) := hT.symm.trans (by simp only [et_X5_list_15_1, eM4, if_pos c5, eM6, eM8, if_pos c9, eM11, if_pos c12])
        subst ht
        exact ez_iret hX hQ dX5_list_73 rfl rfl
    · -- c9 on
      refine ez_iload_n hX 3 dX5_list_55 rfl ?_
      have ht : t0 = (x2, M8) := hT.symm.trans (by simp only [et_X5_list_15_1, eM4, if_pos c5, eM6, eM8, if_neg c9])
      subst ht
      exact ez_iret hX hQ dX5_list_56 rfl rfl
  · -- c5 on
    refine ez_iconst hX (-1 : Int32) dX5_list_33 (by decide) ?_
    have ht : t0 = ((-1 : Int32), M4) := hT.symm.trans (by simp only [et_X5_list_15_1, eM4, if_neg c5])
    subst ht
    exact ez_iret hX hQ dX5_list_34 rfl rfl
set_option maxHeartbeats 4000000 in
set_option maxRecDepth 100000 in
theorem ec_X5_list (l : Launch) (D : em_G) (B : Nat) (M : em_M) (within : Int32) (E : em_M → Int32 → Int32 × em_M) (fr lo : Nat) (hE : ∀ M : em_M, em_C l D B yX5_expression cX5_expression 5 (some .int) fr lo 0 0 false [.ref (B + 9), .int within] 132 em_R M (some (.int (E M within).1)) 132 em_R (E M within).2) : em_C l D B yX5_list cX5_list 7 (some .int) (fr + 4) (lo + 100) 0 0 false [.ref (B + 9), .int within] 132 em_R M (some (.int (et_X5_list E M within).1)) 132 em_R ((et_X5_list E M within).2) := by
  refine em_C_of RX5 [(0, .ref (B + 9)), (1, .int within)] (by decide) rfl rfl (Nat.le_of_ble_eq_true rfl) ?_
  rintro X rfl rfl rfl hRm hnL hnm hsz hX hQ
  obtain ⟨t0, hT⟩ : ∃ tz, et_X5_list E M within = tz := ⟨_, rfl⟩
  rw [hT] at hQ
  refine ez_aload_n hX 0 dX5_list_0 rfl ?_
  refine ez_getr hX kc_9 rfl (Nat.le_of_ble_eq_true rfl) lc_9 (Nat.le_of_ble_eq_true rfl) inX5 1 rfl rc_9_3 wf_X5_15 dX5_list_1 ?_
  refine ez_iconst hX (3 : Int32) dX5_list_4 (by decide) ?_
  refine ez_iconst hX (0 : Int32) dX5_list_5 (by decide) ?_
  refine ez_callV hX (N0 := 0) (As := [.int (3 : Int32), .int (0 : Int32)]) (st := []) kc_1 (Nat.le_of_ble_eq_true rfl) lc_1 rfl (ec_X2_add _ _ _ M (3 : Int32) (0 : Int32)) (Or.inl rfl) wm_X5_60 wv_X2_add we_X2_add wy_X2_add rfl wd_X2_add wi_X2 (ez_rok3 hRm (by omega)) (Nat.le_of_ble_eq_true rfl) dX5_list_6 ?_
  refine ez_nmIM (fun r1 M2 eM2 => ?_)
  refine ez_istore_n hX [(2, .int r1), (0, .ref (ez_B X + 9)), (1, .int within)] dX5_list_9 (ez_lt hnL rfl) rfl ?_
  refine ez_iload_n hX 0 dX5_list_10 rfl ?_
  refine ez_istore_n hX [(3, .int r1), (2, .int r1), (0, .ref (ez_B X + 9)), (1, .int within)] dX5_list_11 (ez_lt hnL rfl) rfl ?_
  refine ez_iconst hX (1 : Int32) dX5_list_12 (by decide) ?_
  refine ez_istore hX [(4, .int (1 : Int32)), (3, .int r1), (2, .int r1), (0, .ref (ez_B X + 9)), (1, .int within)] dX5_list_13 (ez_lt hnL rfl) rfl ?_
  refine ez_lv [3, 4, 2, 1, 0] rfl ?_
  exact el_X5_list_15_1 X within E fr lo hE t0 hRm hnL hX M2 r1 r1 hQ (Eq.trans (by simp only [et_X5_list, eM2]) hT)

def et_X5_exprB (E : em_M → Int32 → Int32 × em_M) (M : em_M) (within : Int32) : Int32 × em_M :=
  let r1 := et_X5_sign M
  let r2 := et_X5_isDigit M r1
  (if r2 = 0 then let r4 := et_X5_isLetter M r1
  (if r4 = 0 then (if (7 : Int32) ≤ within then ((-1 : Int32), M) else let r7 := et_X5_kindBy M r1
  (if 0 ≤ r7 then let M9 := em_pI M 9 1 ((M.1 9 1) + (1 : Int32))
  (if r7 = (3 : Int32) then match et_X5_list E M9 (within + (1 : Int32)) with
  | (r62, M63) =>
  (r62, M63) else (if r7 = (4 : Int32) then match et_X2_add M9 r7 (r1 - (70 : Int32)) with
  | (r57, M58) =>
  let r59 := et_X5_howMany M58 r7
  match et_X5_parts E M58 r57 r59 (within + (1 : Int32)) with
  | (r60, M61) =>
  (r60, M61) else (if r7 = (2 : Int32) then let r13 := et_X5_sign M9
  let r14 := et_X5_isLetter M9 r13
  (if r14 = 0 then ((-1 : Int32), M9) else let M16 := em_pI M9 9 1 ((M9.1 9 1) + (1 : Int32))
  match et_X2_add M16 r7 (r13 - (97 : Int32)) with
  | (r17, M18) =>
  let r19 := et_X5_howMany M18 r7
  match et_X5_parts E M18 r17 r19 (within + (1 : Int32)) with
  | (r20, M21) =>
  (r20, M21)) else (if r7 = (13 : Int32) then let r23 := et_X5_sign M9
  let r24 := et_X5_isLetter M9 r23
  (if r24 = 0 then ((-1 : Int32), M9) else let M26 := em_pI M9 9 1 ((M9.1 9 1) + (1 : Int32))
  match et_X2_add M26 r7 (r23 - (97 : Int32)) with
  | (r27, M28) =>
  let r29 := et_X5_howMany M28 r7
  match et_X5_parts E M28 r27 r29 (within + (1 : Int32)) with
  | (r30, M31) =>
  (r30, M31)) else (if r7 = (5 : Int32) then let r33 := et_X5_sign M9
  let r34 := et_X5_isLetter M9 r33
  (if r34 = 0 then ((-1 : Int32), M9) else let M36 := em_pI M9 9 1 ((M9.1 9 1) + (1 : Int32))
  match et_X2_add M36 r7 (r33 - (97 : Int32)) with
  | (r37, M38) =>
  let r39 := et_X5_howMany M38 r7
  match et_X5_parts E M38 r37 r39 (within + (1 : Int32)) with
  | (r40, M41) =>
  (r40, M41)) else (if r7 = (7 : Int32) then let r48 := et_X5_sign M9
  let r49 := et_X5_isLetter M9 r48
  (if r49 = 0 then ((-1 : Int32), M9) else let M51 := em_pI M9 9 1 ((M9.1 9 1) + (1 : Int32))
  match et_X2_add M51 r7 (r48 - (97 : Int32)) with
  | (r52, M53) =>
  let r54 := et_X5_howMany M53 r7
  match et_X5_parts E M53 r52 r54 (within + (1 : Int32)) with
  | (r55, M56) =>
  (r55, M56)) else match et_X2_add M9 r7 r1 with
  | (r43, M44) =>
  let r45 := et_X5_howMany M44 r7
  match et_X5_parts E M44 r43 r45 (within + (1 : Int32)) with
  | (r46, M47) =>
  (r46, M47))))))) else ((-1 : Int32), M))) else let M64 := em_pI M 9 1 ((M.1 9 1) + (1 : Int32))
  match et_X2_add M64 (12 : Int32) (r1 - (97 : Int32)) with
  | (r65, M66) =>
  (r65, M66)) else match et_X5_digits M with
  | (r67, M68) =>
  (r67, M68))
set_option maxHeartbeats 4000000 in
set_option maxRecDepth 100000 in
theorem ec_X5_exprB (l : Launch) (D : em_G) (B : Nat) (M : em_M) (within : Int32) (E : em_M → Int32 → Int32 × em_M) (fr lo : Nat) (hE : ¬ (7 : Int32) ≤ within → ∀ M : em_M, em_C l D B yX5_expression cX5_expression 5 (some .int) fr lo 0 0 false [.ref (B + 9), .int (within + (1 : Int32))] 132 em_R M (some (.int (E M (within + (1 : Int32))).1)) 132 em_R (E M (within + (1 : Int32))).2) : em_C l D B yX5_expression cX5_expression 5 (some .int) (fr + 8) (lo + 200) 0 0 false [.ref (B + 9), .int within] 132 em_R M (some (.int (et_X5_exprB E M within).1)) 132 em_R ((et_X5_exprB E M within).2) := by
  refine em_C_of RX5 [(0, .ref (B + 9)), (1, .int within)] (by decide) rfl rfl (Nat.le_of_ble_eq_true rfl) ?_
  rintro X rfl rfl rfl hRm hnL hnm hsz hX hQ
  obtain ⟨t0, hT⟩ : ∃ tz, et_X5_exprB E M within = tz := ⟨_, rfl⟩
  rw [hT] at hQ
  refine ez_aload_n hX 0 dX5_expression_0 rfl ?_
  refine ez_callV hX (N0 := 0) (As := []) (st := []) kc_9 (Nat.le_of_ble_eq_true rfl) lc_9 rfl (ec_X5_sign _ _ _ M) (Or.inl rfl) wm_X5_46 wv_X5_sign we_X5_sign wy_X5_sign rfl wd_X5_sign wi_X5 (ez_rok3 hRm (by omega)) (Nat.le_of_ble_eq_true rfl) dX5_expression_1 ?_
  refine ez_nmI (fun r1 er1 => ?_)
  refine ez_istore_n hX [(2, .int r1), (0, .ref (ez_B X + 9)), (1, .int within)] dX5_expression_4 (ez_lt hnL rfl) rfl ?_
  refine ez_iload_n hX 0 dX5_expression_5 rfl ?_
  refine ez_callS hX (N0 := 0) (As := [.int r1]) (st := []) (ec_X5_isDigit _ _ _ M r1) (Or.inl rfl) wm_X5_50 ws_X5_isDigit wy_X5_isDigit rfl wd_X5_isDigit wi_X5 (ez_rok3 hRm (by omega)) (Nat.le_of_ble_eq_true rfl) dX5_expression_6 ?_
  refine ez_nmI (fun r2 er2 => ?_)
  refine ez_if_eq hX 17 dX5_expression_9 (by decide) (fun c3 => ?_) (fun c3 => ?_)
  · -- c3 jump
    refine ez_iload_n hX 0 dX5_expression_17 rfl ?_
    refine ez_callS hX (N0 := 0) (As := [.int r1]) (st := []) (ec_X5_isLetter _ _ _ M r1) (Or.inl rfl) wm_X5_57 ws_X5_isLetter wy_X5_isLetter rfl wd_X5_isLetter wi_X5 (ez_rok3 hRm (by omega)) (Nat.le_of_ble_eq_true rfl) dX5_expression_18 ?_
    refine ez_nmI (fun r4 er4 => ?_)
    refine ez_if_eq hX 48 dX5_expression_21 (by decide) (fun c5 => ?_) (fun c5 => ?_)
    · -- c5 jump
      refine ez_iload_n hX 2 dX5_expression_48 rfl ?_
      refine ez_bipush hX (7 : Int32) dX5_expression_49 (by decide) ?_
      refine ez_icmp_ge hX 61 dX5_expression_51 (by decide) (fun c6 => ?_) (fun c6 => ?_)
      · -- c6 jump
        refine ez_iconst hX (-1 : Int32) dX5_expression_61 (by decide) ?_
        refine ez_istore_n hX [(3, .int (-1 : Int32)), (2, .int r1), (0, .ref (ez_B X + 9)), (1, .int within)] dX5_expression_62 (ez_lt hnL rfl) rfl ?_
        refine ez_iload_n hX 0 dX5_expression_63 rfl ?_
        refine ez_if_ge hX 69 dX5_expression_64 (by decide) (fun c => absurd c (by decide)) (fun _ => ?_)
        refine ez_iconst hX (-1 : Int32) dX5_expression_67 (by decide) ?_
        have ht : t0 = ((-1 : Int32), M) := hT.symm.trans (by simp only [et_X5_exprB, er1, er2, if_pos c3, er4, if_pos c5, if_pos c6])
        subst ht
        exact ez_iret hX hQ dX5_expression_68 rfl rfl
      · -- c6 on
        refine ez_iload_n hX 0 dX5_expression_54 rfl ?_
        refine ez_callS hX (N0 := 0) (As := [.int r1]) (st := []) (ec_X5_kindBy _ _ _ M r1) (Or.inl rfl) wm_X5_64 ws_X5_kindBy wy_X5_kindBy rfl wd_X5_kindBy wi_X5 (ez_rok3 hRm (by omega)) (Nat.le_of_ble_eq_true rfl) dX5_expression_55 ?_
        refine ez_nmI (fun r7 er7 => ?_)
        refine ez_goto hX 62 dX5_expression_58 (by decide) ?_
        refine ez_istore_n hX [(3, .int r7), (2, .int r1), (0, .ref (ez_B X + 9)), (1, .int within)] dX5_expression_62 (ez_lt hnL rfl) rfl ?_
        refine ez_iload_n hX 0 dX5_expression_63 rfl ?_
        refine ez_if_ge hX 69 dX5_expression_64 (by decide) (fun c8 => ?_) (fun c8 => ?_)
        · -- c8 jump
          refine ez_aload_n hX 2 dX5_expression_69 rfl ?_
          refine ez_dup hX dX5_expression_70 rfl ?_
          refine ez_geti hX kc_9 rfl (Nat.le_of_ble_eq_true rfl) lc_9 (Nat.le_of_ble_eq_true rfl) inX5 rfl wf_X5_32 dX5_expression_71 ?_
          refine ez_iconst hX (1 : Int32) dX5_expression_74 (by decide) ?_
          refine ez_iadd hX dX5_expression_75 ?_
          refine ez_puti hX kc_9 rfl (Nat.le_of_ble_eq_true rfl) lc_9 (Nat.le_of_ble_eq_true rfl) inX5 tyX5 tyX5_ok nmX5 ((M.1 9 1) + (1 : Int32)) rfl wf_X5_32 rfl rfl rfl dX5_expression_76 ?_
          refine ez_nmM (fun M9 eM9 => ?_)
          refine ez_iload_n hX 0 dX5_expression_79 rfl ?_
          refine ez_iconst hX (3 : Int32) dX5_expression_80 (by decide) ?_
          refine ez_icmp_ne hX 92 dX5_expression_81 (by decide) (fun c10 => ?_) (fun c10 => ?_)
          · -- c10 jump
            refine ez_iload_n hX 0 dX5_expression_92 rfl ?_
            refine ez_iconst hX (4 : Int32) dX5_expression_93 (by decide) ?_
            refine ez_icmp_ne hX 104 dX5_expression_94 (by decide) (fun c11 => ?_) (fun c11 => ?_)
            · -- c11 jump
              refine ez_iload_n hX 1 dX5_expression_104 rfl ?_
              refine ez_istore hX [(4, .int r1), (3, .int r7), (2, .int r1), (0, .ref (ez_B X + 9)), (1, .int within)] dX5_expression_105 (ez_lt hnL rfl) rfl ?_
              refine ez_iload_n hX 1 dX5_expression_107 rfl ?_
              refine ez_iconst hX (2 : Int32) dX5_expression_108 (by decide) ?_
              refine ez_icmp_eq hX 129 dX5_expression_109 (by decide) (fun c12 => ?_) (fun c12 => ?_)
              · -- c12 jump
                refine ez_aload_n hX 3 dX5_expression_129 rfl ?_
                refine ez_callV hX (N0 := 0) (As := []) (st := []) kc_9 (Nat.le_of_ble_eq_true rfl) lc_9 rfl (ec_X5_sign _ _ _ M9) (Or.inl rfl) wm_X5_46 wv_X5_sign we_X5_sign wy_X5_sign rfl wd_X5_sign wi_X5 (ez_rok3 hRm (by omega)) (Nat.le_of_ble_eq_true rfl) dX5_expression_130 ?_
                refine ez_nmI (fun r13 er13 => ?_)
                refine ez_callS hX (N0 := 0) (As := [.int r13]) (st := []) (ec_X5_isLetter _ _ _ M9 r13) (Or.inl rfl) wm_X5_57 ws_X5_isLetter wy_X5_isLetter rfl wd_X5_isLetter wi_X5 (ez_rok3 hRm (by omega)) (Nat.le_of_ble_eq_true rfl) dX5_expression_133 ?_
                refine ez_nmI (fun r14 er14 => ?_)
                refine ez_if_ne hX 141 dX5_expression_136 (by decide) (fun c15 => ?_) (fun c15 => ?_)
                · -- c15 jump
                  refine ez_aload_n hX 3 dX5_expression_141 rfl ?_
                  refine ez_callV hX (N0 := 0) (As := []) (st := []) kc_9 (Nat.le_of_ble_eq_true rfl) lc_9 rfl (ec_X5_sign _ _ _ M9) (Or.inl rfl) wm_X5_46 wv_X5_sign we_X5_sign wy_X5_sign rfl wd_X5_sign wi_X5 (ez_rok3 hRm (by omega)) (Nat.le_of_ble_eq_true rfl) dX5_expression_142 ?_
                  refine ez_reI er13 ?_
                  refine ez_bipush hX (97 : Int32) dX5_expression_145 (by decide) ?_
                  refine ez_isub hX dX5_expression_147 ?_
                  refine ez_istore hX [(4, .int (r13 - (97 : Int32))), (3, .int r7), (2, .int r1), (0, .ref (ez_B X + 9)), (1, .int within)] dX5_expression_148 (ez_lt hnL rfl) rfl ?_
                  refine ez_aload_n hX 3 dX5_expression_150 rfl ?_
                  refine ez_dup hX dX5_expression_151 rfl ?_
                  refine ez_geti hX kc_9 rfl (Nat.le_of_ble_eq_true rfl) lc_9 (Nat.le_of_ble_eq_true rfl) inX5 rfl wf_X5_32 dX5_expression_152 ?_
                  refine ez_iconst hX (1 : Int32) dX5_expression_155 (by decide) ?_
                  refine ez_iadd hX dX5_expression_156 ?_
                  refine ez_puti hX kc_9 rfl (Nat.le_of_ble_eq_true rfl) lc_9 (Nat.le_of_ble_eq_true rfl) inX5 tyX5 tyX5_ok nmX5 ((M9.1 9 1) + (1 : Int32)) rfl wf_X5_32 rfl rfl rfl dX5_expression_157 ?_
                  refine ez_nmM (fun M16 eM16 => ?_)
                  refine ez_aload_n hX 3 dX5_expression_160 rfl ?_
                  refine ez_aload_n hX 3 dX5_expression_161 rfl ?_
                  refine ez_getr hX kc_9 rfl (Nat.le_of_ble_eq_true rfl) lc_9 (Nat.le_of_ble_eq_true rfl) inX5 1 rfl rc_9_3 wf_X5_15 dX5_expression_162 ?_
                  refine ez_iload_n hX 1 dX5_expression_165 rfl ?_
                  refine ez_iload hX 0 dX5_expression_166 rfl ?_
                  refine ez_callV hX (N0 := 0) (As := [.int r7, .int (r13 - (97 : Int32))]) (st := [.ref (ez_B X + 9)]) kc_1 (Nat.le_of_ble_eq_true rfl) lc_1 rfl (ec_X2_add _ _ _ M16 r7 (r13 - (97 : Int32))) (Or.inl rfl) wm_X5_60 wv_X2_add we_X2_add wy_X2_add rfl wd_X2_add wi_X2 (ez_rok3 hRm (by omega)) (Nat.le_of_ble_eq_true rfl) dX5_expression_168 ?_
                  refine ez_nmIM (fun r17 M18 eM18 => ?_)
                  refine ez_iload_n hX 1 dX5_expression_171 rfl ?_
                  refine ez_callS hX (N0 := 0) (As := [.int r7]) (st := [.int r17, .ref (ez_B X + 9)]) (ec_X5_howMany _ _ _ M18 r7) (Or.inl rfl) wm_X5_70 ws_X5_howMany wy_X5_howMany rfl wd_X5_howMany wi_X5 (ez_rok3 hRm (by omega)) (Nat.le_of_ble_eq_true rfl) dX5_expression_172 ?_
                  refine ez_nmI (fun r19 er19 => ?_)
                  refine ez_iload_n hX 4 dX5_expression_175 rfl ?_
                  refine ez_iconst hX (1 : Int32) dX5_expression_176 (by decide) ?_
                  refine ez_iadd hX dX5_expression_177 ?_
                  refine ez_callV hX (N0 := 0) (As := [.int r17, .int r19, .int (within + (1 : Int32))]) (st := []) kc_9 (Nat.le_of_ble_eq_true rfl) lc_9 rfl (ec_X5_parts _ _ _ M18 r17 r19 (within + (1 : Int32)) E fr lo (hE c6)) (Or.inl rfl) wm_X5_73 wv_X5_parts we_X5_parts wy_X5_parts rfl wd_X5_parts wi_X5 (ez_rok3 hRm (by omega)) (Nat.le_of_ble_eq_true rfl) dX5_expression_178 ?_
                  refine ez_nmIM (fun r20 M21 eM21 => ?_)
                  have ht : t0 = (r20, M21) := hT.symm.trans (by simp only [et_X5_exprB, er1, er2, if_pos c3, er4, if_pos c5, if_neg c6, er7, if_pos c8, eM9, if_neg c10, if_neg c11, if_pos c12, er13, er14, if_neg c15, eM16, eM18, er19, eM21])
                  subst ht
                  exact ez_iret hX hQ dX5_expression_181 rfl rfl
                · -- c15 on
                  refine ez_iconst hX (-1 : Int32) dX5_expression_139 (by decide) ?_
                  have ht : t0 = ((-1 : Int32), M9) := hT.symm.trans (by simp only [et_X5_exprB, er1, er2, if_pos c3, er4, if_pos c5, if_neg c6, er7, if_pos c8, eM9, if_neg c10, if_neg c11, if_pos c12, er13, er14, if_pos c15])
                  subst ht
                  exact ez_iret hX hQ dX5_expression_140 rfl rfl
              · -- c12 on
                refine ez_iload_n hX 1 dX5_expression_112 rfl ?_
                refine ez_bipush hX (13 : Int32) dX5_expression_113 (by decide) ?_
                refine ez_icmp_eq hX 129 dX5_expression_115 (by decide) (fun c22 => ?_) (fun c22 => ?_)
                · -- c22 jump
                  refine ez_aload_n hX 3 dX5_expression_129 rfl ?_
                  refine ez_callV hX (N0 := 0) (As := []) (st := []) kc_9 (Nat.le_of_ble_eq_true rfl) lc_9 rfl (ec_X5_sign _ _ _ M9) (Or.inl rfl) wm_X5_46 wv_X5_sign we_X5_sign wy_X5_sign rfl wd_X5_sign wi_X5 (ez_rok3 hRm (by omega)) (Nat.le_of_ble_eq_true rfl) dX5_expression_130 ?_
                  refine ez_nmI (fun r23 er23 => ?_)
                  refine ez_callS hX (N0 := 0) (As := [.int r23]) (st := []) (ec_X5_isLetter _ _ _ M9 r23) (Or.inl rfl) wm_X5_57 ws_X5_isLetter wy_X5_isLetter rfl wd_X5_isLetter wi_X5 (ez_rok3 hRm (by omega)) (Nat.le_of_ble_eq_true rfl) dX5_expression_133 ?_
                  refine ez_nmI (fun r24 er24 => ?_)
                  refine ez_if_ne hX 141 dX5_expression_136 (by decide) (fun c25 => ?_) (fun c25 => ?_)
                  · -- c25 jump
                    refine ez_aload_n hX 3 dX5_expression_141 rfl ?_
                    refine ez_callV hX (N0 := 0) (As := []) (st := []) kc_9 (Nat.le_of_ble_eq_true rfl) lc_9 rfl (ec_X5_sign _ _ _ M9) (Or.inl rfl) wm_X5_46 wv_X5_sign we_X5_sign wy_X5_sign rfl wd_X5_sign wi_X5 (ez_rok3 hRm (by omega)) (Nat.le_of_ble_eq_true rfl) dX5_expression_142 ?_
                    refine ez_reI er23 ?_
                    refine ez_bipush hX (97 : Int32) dX5_expression_145 (by decide) ?_
                    refine ez_isub hX dX5_expression_147 ?_
                    refine ez_istore hX [(4, .int (r23 - (97 : Int32))), (3, .int r7), (2, .int r1), (0, .ref (ez_B X + 9)), (1, .int within)] dX5_expression_148 (ez_lt hnL rfl) rfl ?_
                    refine ez_aload_n hX 3 dX5_expression_150 rfl ?_
                    refine ez_dup hX dX5_expression_151 rfl ?_
                    refine ez_geti hX kc_9 rfl (Nat.le_of_ble_eq_true rfl) lc_9 (Nat.le_of_ble_eq_true rfl) inX5 rfl wf_X5_32 dX5_expression_152 ?_
                    refine ez_iconst hX (1 : Int32) dX5_expression_155 (by decide) ?_
                    refine ez_iadd hX dX5_expression_156 ?_
                    refine ez_puti hX kc_9 rfl (Nat.le_of_ble_eq_true rfl) lc_9 (Nat.le_of_ble_eq_true rfl) inX5 tyX5 tyX5_ok nmX5 ((M9.1 9 1) + (1 : Int32)) rfl wf_X5_32 rfl rfl rfl dX5_expression_157 ?_
                    refine ez_nmM (fun M26 eM26 => ?_)
                    refine ez_aload_n hX 3 dX5_expression_160 rfl ?_
                    refine ez_aload_n hX 3 dX5_expression_161 rfl ?_
                    refine ez_getr hX kc_9 rfl (Nat.le_of_ble_eq_true rfl) lc_9 (Nat.le_of_ble_eq_true rfl) inX5 1 rfl rc_9_3 wf_X5_15 dX5_expression_162 ?_
                    refine ez_iload_n hX 1 dX5_expression_165 rfl ?_
                    refine ez_iload hX 0 dX5_expression_166 rfl ?_
                    refine ez_callV hX (N0 := 0) (As := [.int r7, .int (r23 - (97 : Int32))]) (st := [.ref (ez_B X + 9)]) kc_1 (Nat.le_of_ble_eq_true rfl) lc_1 rfl (ec_X2_add _ _ _ M26 r7 (r23 - (97 : Int32))) (Or.inl rfl) wm_X5_60 wv_X2_add we_X2_add wy_X2_add rfl wd_X2_add wi_X2 (ez_rok3 hRm (by omega)) (Nat.le_of_ble_eq_true rfl) dX5_expression_168 ?_
                    refine ez_nmIM (fun r27 M28 eM28 => ?_)
                    refine ez_iload_n hX 1 dX5_expression_171 rfl ?_
                    refine ez_callS hX (N0 := 0) (As := [.int r7]) (st := [.int r27, .ref (ez_B X + 9)]) (ec_X5_howMany _ _ _ M28 r7) (Or.inl rfl) wm_X5_70 ws_X5_howMany wy_X5_howMany rfl wd_X5_howMany wi_X5 (ez_rok3 hRm (by omega)) (Nat.le_of_ble_eq_true rfl) dX5_expression_172 ?_
                    refine ez_nmI (fun r29 er29 => ?_)
                    refine ez_iload_n hX 4 dX5_expression_175 rfl ?_
                    refine ez_iconst hX (1 : Int32) dX5_expression_176 (by decide) ?_
                    refine ez_iadd hX dX5_expression_177 ?_
                    refine ez_callV hX (N0 := 0) (As := [.int r27, .int r29, .int (within + (1 : Int32))]) (st := []) kc_9 (Nat.le_of_ble_eq_true rfl) lc_9 rfl (ec_X5_parts _ _ _ M28 r27 r29 (within + (1 : Int32)) E fr lo (hE c6)) (Or.inl rfl) wm_X5_73 wv_X5_parts we_X5_parts wy_X5_parts rfl wd_X5_parts wi_X5 (ez_rok3 hRm (by omega)) (Nat.le_of_ble_eq_true rfl) dX5_expression_178 ?_
                    refine ez_nmIM (fun r30 M31 eM31 => ?_)
                    have ht : t0 = (r30, M31) := hT.symm.trans (by simp only [et_X5_exprB, er1, er2, if_pos c3, er4, if_pos c5, if_neg c6, er7, if_pos c8, eM9, if_neg c10, if_neg c11, if_neg c12, if_pos c22, er23, er24, if_neg c25, eM26, eM28, er29, eM31])
                    subst ht
                    exact ez_iret hX hQ dX5_expression_181 rfl rfl
                  · -- c25 on
                    refine ez_iconst hX (-1 : Int32) dX5_expression_139 (by decide) ?_
                    have ht : t0 = ((-1 : Int32), M9) := hT.symm.trans (by simp only [et_X5_exprB, er1, er2, if_pos c3, er4, if_pos c5, if_neg c6, er7, if_pos c8, eM9, if_neg c10, if_neg c11, if_neg c12, if_pos c22, er23, er24, if_pos c25])
                    subst ht
                    exact ez_iret hX hQ dX5_expression_140 rfl rfl
                · -- c22 on
                  refine ez_iload_n hX 1 dX5_expression_118 rfl ?_
                  refine ez_iconst hX (5 : Int32) dX5_expression_119 (by decide) ?_
                  refine ez_icmp_eq hX 129 dX5_expression_120 (by decide) (fun c32 => ?_) (fun c32 => ?_)
                  · -- c32 jump
                    refine ez_aload_n hX 3 dX5_expression_129 rfl ?_
                    refine ez_callV hX (N0 := 0) (As := []) (st := []) kc_9 (Nat.le_of_ble_eq_true rfl) lc_9 rfl (ec_X5_sign _ _ _ M9) (Or.inl rfl) wm_X5_46 wv_X5_sign we_X5_sign wy_X5_sign rfl wd_X5_sign wi_X5 (ez_rok3 hRm (by omega)) (Nat.le_of_ble_eq_true rfl) dX5_expression_130 ?_
                    refine ez_nmI (fun r33 er33 => ?_)
                    refine ez_callS hX (N0 := 0) (As := [.int r33]) (st := []) (ec_X5_isLetter _ _ _ M9 r33) (Or.inl rfl) wm_X5_57 ws_X5_isLetter wy_X5_isLetter rfl wd_X5_isLetter wi_X5 (ez_rok3 hRm (by omega)) (Nat.le_of_ble_eq_true rfl) dX5_expression_133 ?_
                    refine ez_nmI (fun r34 er34 => ?_)
                    refine ez_if_ne hX 141 dX5_expression_136 (by decide) (fun c35 => ?_) (fun c35 => ?_)
                    · -- c35 jump
                      refine ez_aload_n hX 3 dX5_expression_141 rfl ?_
                      refine ez_callV hX (N0 := 0) (As := []) (st := []) kc_9 (Nat.le_of_ble_eq_true rfl) lc_9 rfl (ec_X5_sign _ _ _ M9) (Or.inl rfl) wm_X5_46 wv_X5_sign we_X5_sign wy_X5_sign rfl wd_X5_sign wi_X5 (ez_rok3 hRm (by omega)) (Nat.le_of_ble_eq_true rfl) dX5_expression_142 ?_
                      refine ez_reI er33 ?_
                      refine ez_bipush hX (97 : Int32) dX5_expression_145 (by decide) ?_
                      refine ez_isub hX dX5_expression_147 ?_
                      refine ez_istore hX [(4, .int (r33 - (97 : Int32))), (3, .int r7), (2, .int r1), (0, .ref (ez_B X + 9)), (1, .int within)] dX5_expression_148 (ez_lt hnL rfl) rfl ?_
                      refine ez_aload_n hX 3 dX5_expression_150 rfl ?_
                      refine ez_dup hX dX5_expression_151 rfl ?_
                      refine ez_geti hX kc_9 rfl (Nat.le_of_ble_eq_true rfl) lc_9 (Nat.le_of_ble_eq_true rfl) inX5 rfl wf_X5_32 dX5_expression_152 ?_
                      refine ez_iconst hX (1 : Int32) dX5_expression_155 (by decide) ?_
                      refine ez_iadd hX dX5_expression_156 ?_
                      refine ez_puti hX kc_9 rfl (Nat.le_of_ble_eq_true rfl) lc_9 (Nat.le_of_ble_eq_true rfl) inX5 tyX5 tyX5_ok nmX5 ((M9.1 9 1) + (1 : Int32)) rfl wf_X5_32 rfl rfl rfl dX5_expression_157 ?_
                      refine ez_nmM (fun M36 eM36 => ?_)
                      refine ez_aload_n hX 3 dX5_expression_160 rfl ?_
                      refine ez_aload_n hX 3 dX5_expression_161 rfl ?_
                      refine ez_getr hX kc_9 rfl (Nat.le_of_ble_eq_true rfl) lc_9 (Nat.le_of_ble_eq_true rfl) inX5 1 rfl rc_9_3 wf_X5_15 dX5_expression_162 ?_
                      refine ez_iload_n hX 1 dX5_expression_165 rfl ?_
                      refine ez_iload hX 0 dX5_expression_166 rfl ?_
                      refine ez_callV hX (N0 := 0) (As := [.int r7, .int (r33 - (97 : Int32))]) (st := [.ref (ez_B X + 9)]) kc_1 (Nat.le_of_ble_eq_true rfl) lc_1 rfl (ec_X2_add _ _ _ M36 r7 (r33 - (97 : Int32))) (Or.inl rfl) wm_X5_60 wv_X2_add we_X2_add wy_X2_add rfl wd_X2_add wi_X2 (ez_rok3 hRm (by omega)) (Nat.le_of_ble_eq_true rfl) dX5_expression_168 ?_
                      refine ez_nmIM (fun r37 M38 eM38 => ?_)
                      refine ez_iload_n hX 1 dX5_expression_171 rfl ?_
                      refine ez_callS hX (N0 := 0) (As := [.int r7]) (st := [.int r37, .ref (ez_B X + 9)]) (ec_X5_howMany _ _ _ M38 r7) (Or.inl rfl) wm_X5_70 ws_X5_howMany wy_X5_howMany rfl wd_X5_howMany wi_X5 (ez_rok3 hRm (by omega)) (Nat.le_of_ble_eq_true rfl) dX5_expression_172 ?_
                      refine ez_nmI (fun r39 er39 => ?_)
                      refine ez_iload_n hX 4 dX5_expression_175 rfl ?_
                      refine ez_iconst hX (1 : Int32) dX5_expression_176 (by decide) ?_
                      refine ez_iadd hX dX5_expression_177 ?_
                      refine ez_callV hX (N0 := 0) (As := [.int r37, .int r39, .int (within + (1 : Int32))]) (st := []) kc_9 (Nat.le_of_ble_eq_true rfl) lc_9 rfl (ec_X5_parts _ _ _ M38 r37 r39 (within + (1 : Int32)) E fr lo (hE c6)) (Or.inl rfl) wm_X5_73 wv_X5_parts we_X5_parts wy_X5_parts rfl wd_X5_parts wi_X5 (ez_rok3 hRm (by omega)) (Nat.le_of_ble_eq_true rfl) dX5_expression_178 ?_
                      refine ez_nmIM (fun r40 M41 eM41 => ?_)
                      have ht : t0 = (r40, M41) := hT.symm.trans (by simp only [et_X5_exprB, er1, er2, if_pos c3, er4, if_pos c5, if_neg c6, er7, if_pos c8, eM9, if_neg c10, if_neg c11, if_neg c12, if_neg c22, if_pos c32, er33, er34, if_neg c35, eM36, eM38, er39, eM41])
                      subst ht
                      exact ez_iret hX hQ dX5_expression_181 rfl rfl
                    · -- c35 on
                      refine ez_iconst hX (-1 : Int32) dX5_expression_139 (by decide) ?_
                      have ht : t0 = ((-1 : Int32), M9) := hT.symm.trans (by simp only [et_X5_exprB, er1, er2, if_pos c3, er4, if_pos c5, if_neg c6, er7, if_pos c8, eM9, if_neg c10, if_neg c11, if_neg c12, if_neg c22, if_pos c32, er33, er34, if_pos c35])
                      subst ht
                      exact ez_iret hX hQ dX5_expression_140 rfl rfl
                  · -- c32 on
                    refine ez_iload_n hX 1 dX5_expression_123 rfl ?_
                    refine ez_bipush hX (7 : Int32) dX5_expression_124 (by decide) ?_
                    refine ez_icmp_ne hX 160 dX5_expression_126 (by decide) (fun c42 => ?_) (fun c42 => ?_)
                    · -- c42 jump
                      refine ez_aload_n hX 3 dX5_expression_160 rfl ?_
                      refine ez_aload_n hX 3 dX5_expression_161 rfl ?_
                      refine ez_getr hX kc_9 rfl (Nat.le_of_ble_eq_true rfl) lc_9 (Nat.le_of_ble_eq_true rfl) inX5 1 rfl rc_9_3 wf_X5_15 dX5_expression_162 ?_
                      refine ez_iload_n hX 1 dX5_expression_165 rfl ?_
                      refine ez_iload hX 0 dX5_expression_166 rfl ?_
                      refine ez_callV hX (N0 := 0) (As := [.int r7, .int r1]) (st := [.ref (ez_B X + 9)]) kc_1 (Nat.le_of_ble_eq_true rfl) lc_1 rfl (ec_X2_add _ _ _ M9 r7 r1) (Or.inl rfl) wm_X5_60 wv_X2_add we_X2_add wy_X2_add rfl wd_X2_add wi_X2 (ez_rok3 hRm (by omega)) (Nat.le_of_ble_eq_true rfl) dX5_expression_168 ?_
                      refine ez_nmIM (fun r43 M44 eM44 => ?_)
                      refine ez_iload_n hX 1 dX5_expression_171 rfl ?_
                      refine ez_callS hX (N0 := 0) (As := [.int r7]) (st := [.int r43, .ref (ez_B X + 9)]) (ec_X5_howMany _ _ _ M44 r7) (Or.inl rfl) wm_X5_70 ws_X5_howMany wy_X5_howMany rfl wd_X5_howMany wi_X5 (ez_rok3 hRm (by omega)) (Nat.le_of_ble_eq_true rfl) dX5_expression_172 ?_
                      refine ez_nmI (fun r45 er45 => ?_)
                      refine ez_iload_n hX 4 dX5_expression_175 rfl ?_
                      refine ez_iconst hX (1 : Int32) dX5_expression_176 (by decide) ?_
                      refine ez_iadd hX dX5_expression_177 ?_
                      refine ez_callV hX (N0 := 0) (As := [.int r43, .int r45, .int (within + (1 : Int32))]) (st := []) kc_9 (Nat.le_of_ble_eq_true rfl) lc_9 rfl (ec_X5_parts _ _ _ M44 r43 r45 (within + (1 : Int32)) E fr lo (hE c6)) (Or.inl rfl) wm_X5_73 wv_X5_parts we_X5_parts wy_X5_parts rfl wd_X5_parts wi_X5 (ez_rok3 hRm (by omega)) (Nat.le_of_ble_eq_true rfl) dX5_expression_178 ?_
                      refine ez_nmIM (fun r46 M47 eM47 => ?_)
                      have ht : t0 = (r46, M47) := hT.symm.trans (by simp only [et_X5_exprB, er1, er2, if_pos c3, er4, if_pos c5, if_neg c6, er7, if_pos c8, eM9, if_neg c10, if_neg c11, if_neg c12, if_neg c22, if_neg c32, if_neg c42, eM44, er45, eM47])
                      subst ht
                      exact ez_iret hX hQ dX5_expression_181 rfl rfl
                    · -- c42 on
                      refine ez_aload_n hX 3 dX5_expression_129 rfl ?_
                      refine ez_callV hX (N0 := 0) (As := []) (st := []) kc_9 (Nat.le_of_ble_eq_true rfl) lc_9 rfl (ec_X5_sign _ _ _ M9) (Or.inl rfl) wm_X5_46 wv_X5_sign we_X5_sign wy_X5_sign rfl wd_X5_sign wi_X5 (ez_rok3 hRm (by omega)) (Nat.le_of_ble_eq_true rfl) dX5_expression_130 ?_
                      refine ez_nmI (fun r48 er48 => ?_)
                      refine ez_callS hX (N0 := 0) (As := [.int r48]) (st := []) (ec_X5_isLetter _ _ _ M9 r48) (Or.inl rfl) wm_X5_57 ws_X5_isLetter wy_X5_isLetter rfl wd_X5_isLetter wi_X5 (ez_rok3 hRm (by omega)) (Nat.le_of_ble_eq_true rfl) dX5_expression_133 ?_
                      refine ez_nmI (fun r49 er49 => ?_)
                      refine ez_if_ne hX 141 dX5_expression_136 (by decide) (fun c50 => ?_) (fun c50 => ?_)
                      · -- c50 jump
                        refine ez_aload_n hX 3 dX5_expression_141 rfl ?_
                        refine ez_callV hX (N0 := 0) (As := []) (st := []) kc_9 (Nat.le_of_ble_eq_true rfl) lc_9 rfl (ec_X5_sign _ _ _ M9) (Or.inl rfl) wm_X5_46 wv_X5_sign we_X5_sign wy_X5_sign rfl wd_X5_sign wi_X5 (ez_rok3 hRm (by omega)) (Nat.le_of_ble_eq_true rfl) dX5_expression_142 ?_
                        refine ez_reI er48 ?_
                        refine ez_bipush hX (97 : Int32) dX5_expression_145 (by decide) ?_
                        refine ez_isub hX dX5_expression_147 ?_
                        refine ez_istore hX [(4, .int (r48 - (97 : Int32))), (3, .int r7), (2, .int r1), (0, .ref (ez_B X + 9)), (1, .int within)] dX5_expression_148 (ez_lt hnL rfl) rfl ?_
                        refine ez_aload_n hX 3 dX5_expression_150 rfl ?_
                        refine ez_dup hX dX5_expression_151 rfl ?_
                        refine ez_geti hX kc_9 rfl (Nat.le_of_ble_eq_true rfl) lc_9 (Nat.le_of_ble_eq_true rfl) inX5 rfl wf_X5_32 dX5_expression_152 ?_
                        refine ez_iconst hX (1 : Int32) dX5_expression_155 (by decide) ?_
                        refine ez_iadd hX dX5_expression_156 ?_
                        refine ez_puti hX kc_9 rfl (Nat.le_of_ble_eq_true rfl) lc_9 (Nat.le_of_ble_eq_true rfl) inX5 tyX5 tyX5_ok nmX5 ((M9.1 9 1) + (1 : Int32)) rfl wf_X5_32 rfl rfl rfl dX5_expression_157 ?_
                        refine ez_nmM (fun M51 eM51 => ?_)
                        refine ez_aload_n hX 3 dX5_expression_160 rfl ?_
                        refine ez_aload_n hX 3 dX5_expression_161 rfl ?_
                        refine ez_getr hX kc_9 rfl (Nat.le_of_ble_eq_true rfl) lc_9 (Nat.le_of_ble_eq_true rfl) inX5 1 rfl rc_9_3 wf_X5_15 dX5_expression_162 ?_
                        refine ez_iload_n hX 1 dX5_expression_165 rfl ?_
                        refine ez_iload hX 0 dX5_expression_166 rfl ?_
                        refine ez_callV hX (N0 := 0) (As := [.int r7, .int (r48 - (97 : Int32))]) (st := [.ref (ez_B X + 9)]) kc_1 (Nat.le_of_ble_eq_true rfl) lc_1 rfl (ec_X2_add _ _ _ M51 r7 (r48 - (97 : Int32))) (Or.inl rfl) wm_X5_60 wv_X2_add we_X2_add wy_X2_add rfl wd_X2_add wi_X2 (ez_rok3 hRm (by omega)) (Nat.le_of_ble_eq_true rfl) dX5_expression_168 ?_
                        refine ez_nmIM (fun r52 M53 eM53 => ?_)
                        refine ez_iload_n hX 1 dX5_expression_171 rfl ?_
                        refine ez_callS hX (N0 := 0) (As := [.int r7]) (st := [.int r52, .ref (ez_B X + 9)]) (ec_X5_howMany _ _ _ M53 r7) (Or.inl rfl) wm_X5_70 ws_X5_howMany wy_X5_howMany rfl wd_X5_howMany wi_X5 (ez_rok3 hRm (by omega)) (Nat.le_of_ble_eq_true rfl) dX5_expression_172 ?_
                        refine ez_nmI (fun r54 er54 => ?_)
                        refine ez_iload_n hX 4 dX5_expression_175 rfl ?_
                        refine ez_iconst hX (1 : Int32) dX5_expression_176 (by decide) ?_
                        refine ez_iadd hX dX5_expression_177 ?_
                        refine ez_callV hX (N0 := 0) (As := [.int r52, .int r54, .int (within + (1 : Int32))]) (st := []) kc_9 (Nat.le_of_ble_eq_true rfl) lc_9 rfl (ec_X5_parts _ _ _ M53 r52 r54 (within + (1 : Int32)) E fr lo (hE c6)) (Or.inl rfl) wm_X5_73 wv_X5_parts we_X5_parts wy_X5_parts rfl wd_X5_parts wi_X5 (ez_rok3 hRm (by omega)) (Nat.le_of_ble_eq_true rfl) dX5_expression_178 ?_
                        refine ez_nmIM (fun r55 M56 eM56 => ?_)
                        have ht : t0 = (r55, M56) := hT.symm.trans (by simp only [et_X5_exprB, er1, er2, if_pos c3, er4, if_pos c5, if_neg c6, er7, if_pos c8, eM9, if_neg c10, if_neg c11, if_neg c12, if_neg c22, if_neg c32, if_pos c42, er48, er49, if_neg c50, eM51, eM53, er54, eM56])
                        subst ht
                        exact ez_iret hX hQ dX5_expression_181 rfl rfl
                      · -- c50 on
                        refine ez_iconst hX (-1 : Int32) dX5_expression_139 (by decide) ?_
                        have ht : t0 = ((-1 : Int32), M9) := hT.symm.trans (by simp only [et_X5_exprB, er1, er2, if_pos c3, er4, if_pos c5, if_neg c6, er7, if_pos c8, eM9, if_neg c10, if_neg c11, if_neg c12, if_neg c22, if_neg c32, if_pos c42, er48, er49, if_pos c50])
                        subst ht
                        exact ez_iret hX hQ dX5_expression_140 rfl rfl
            · -- c11 on
              refine ez_iload_n hX 1 dX5_expression_97 rfl ?_
              refine ez_bipush hX (70 : Int32) dX5_expression_98 (by decide) ?_
              refine ez_isub hX dX5_expression_100 ?_
              refine ez_goto hX 105 dX5_expression_101 (by decide) ?_
              refine ez_istore hX [(4, .int (r1 - (70 : Int32))), (3, .int r7), (2, .int r1), (0, .ref (ez_B X + 9)), (1, .int within)] dX5_expression_105 (ez_lt hnL rfl) rfl ?_
              refine ez_iload_n hX 1 dX5_expression_107 rfl ?_
              refine ez_iconst hX (2 : Int32) dX5_expression_108 (by decide) ?_
              refine ez_icmp_eq hX 129 dX5_expression_109 (by decide) (fun c => absurd c (by rw [c11]; decide)) (fun _ => ?_)
              refine ez_iload_n hX 1 dX5_expression_112 rfl ?_
              refine ez_bipush hX (13 : Int32) dX5_expression_113 (by decide) ?_
              refine ez_icmp_eq hX 129 dX5_expression_115 (by decide) (fun c => absurd c (by rw [c11]; decide)) (fun _ => ?_)
              refine ez_iload_n hX 1 dX5_expression_118 rfl ?_
              refine ez_iconst hX (5 : Int32) dX5_expression_119 (by decide) ?_
              refine ez_icmp_eq hX 129 dX5_expression_120 (by decide) (fun c => absurd c (by rw [c11]; decide)) (fun _ => ?_)
              refine ez_iload_n hX 1 dX5_expression_123 rfl ?_
              refine ez_bipush hX (7 : Int32) dX5_expression_124 (by decide) ?_
              refine ez_icmp_ne hX 160 dX5_expression_126 (by decide) (fun _ => ?_) (fun c => absurd c (by rw [c11]; decide))
              refine ez_aload_n hX 3 dX5_expression_160 rfl ?_
              refine ez_aload_n hX 3 dX5_expression_161 rfl ?_
              refine ez_getr hX kc_9 rfl (Nat.le_of_ble_eq_true rfl) lc_9 (Nat.le_of_ble_eq_true rfl) inX5 1 rfl rc_9_3 wf_X5_15 dX5_expression_162 ?_
              refine ez_iload_n hX 1 dX5_expression_165 rfl ?_
              refine ez_iload hX 0 dX5_expression_166 rfl ?_
              refine ez_callV hX (N0 := 0) (As := [.int r7, .int (r1 - (70 : Int32))]) (st := [.ref (ez_B X + 9)]) kc_1 (Nat.le_of_ble_eq_true rfl) lc_1 rfl (ec_X2_add _ _ _ M9 r7 (r1 - (70 : Int32))) (Or.inl rfl) wm_X5_60 wv_X2_add we_X2_add wy_X2_add rfl wd_X2_add wi_X2 (ez_rok3 hRm (by omega)) (Nat.le_of_ble_eq_true rfl) dX5_expression_168 ?_
              refine ez_nmIM (fun r57 M58 eM58 => ?_)
              refine ez_iload_n hX 1 dX5_expression_171 rfl ?_
              refine ez_callS hX (N0 := 0) (As := [.int r7]) (st := [.int r57, .ref (ez_B X + 9)]) (ec_X5_howMany _ _ _ M58 r7) (Or.inl rfl) wm_X5_70 ws_X5_howMany wy_X5_howMany rfl wd_X5_howMany wi_X5 (ez_rok3 hRm (by omega)) (Nat.le_of_ble_eq_true rfl) dX5_expression_172 ?_
              refine ez_nmI (fun r59 er59 => ?_)
              refine ez_iload_n hX 4 dX5_expression_175 rfl ?_
              refine ez_iconst hX (1 : Int32) dX5_expression_176 (by decide) ?_
              refine ez_iadd hX dX5_expression_177 ?_
              refine ez_callV hX (N0 := 0) (As := [.int r57, .int r59, .int (within + (1 : Int32))]) (st := []) kc_9 (Nat.le_of_ble_eq_true rfl) lc_9 rfl (ec_X5_parts _ _ _ M58 r57 r59 (within + (1 : Int32)) E fr lo (hE c6)) (Or.inl rfl) wm_X5_73 wv_X5_parts we_X5_parts wy_X5_parts rfl wd_X5_parts wi_X5 (ez_rok3 hRm (by omega)) (Nat.le_of_ble_eq_true rfl) dX5_expression_178 ?_
              refine ez_nmIM (fun r60 M61 eM61 => ?_)
              have ht : t0 = (r60, M61) := hT.symm.trans (by simp only [et_X5_exprB, er1, er2, if_pos c3, er4, if_pos c5, if_neg c6, er7, if_pos c8, eM9, if_neg c10, if_pos c11, eM58, er59, eM61])
              subst ht
              exact ez_iret hX hQ dX5_expression_181 rfl rfl
          · -- c10 on
            refine ez_aload_n hX 2 dX5_expression_84 rfl ?_
            refine ez_iload_n hX 3 dX5_expression_85 rfl ?_
            refine ez_iconst hX (1 : Int32) dX5_expression_86 (by decide) ?_
            refine ez_iadd hX dX5_expression_87 ?_
            refine ez_callV hX (N0 := 0) (As := [.int (within + (1 : Int32))]) (st := []) kc_9 (Nat.le_of_ble_eq_true rfl) lc_9 rfl (ec_X5_list _ _ _ M9 (within + (1 : Int32)) E fr lo (hE c6)) (Or.inl rfl) wm_X5_67 wv_X5_list we_X5_list wy_X5_list rfl wd_X5_list wi_X5 (ez_rok3 hRm (by omega)) (Nat.le_of_ble_eq_true rfl) dX5_expression_88 ?_
            refine ez_nmIM (fun r62 M63 eM63 => ?_)
            have ht : t0 = (r62, M63) := hT.symm.trans (by simp only [et_X5_exprB, er1, er2, if_pos c3, er4, if_pos c5, if_neg c6, er7, if_pos c8, eM9, if_pos c10, eM63])
            subst ht
            exact ez_iret hX hQ dX5_expression_91 rfl rfl
        · -- c8 on
          refine ez_iconst hX (-1 : Int32) dX5_expression_67 (by decide) ?_
          have ht : t0 = ((-1 : Int32), M) := hT.symm.trans (by simp only [et_X5_exprB, er1, er2, if_pos c3, er4, if_pos c5, if_neg c6, er7, if_neg c8])
          subst ht
          exact ez_iret hX hQ dX5_expression_68 rfl rfl
    · -- c5 on
      refine ez_aload_n hX 1 dX5_expression_24 rfl ?_
      refine ez_dup hX dX5_expression_25 rfl ?_
      refine ez_geti hX kc_9 rfl (Nat.le_of_ble_eq_true rfl) lc_9 (Nat.le_of_ble_eq_true rfl) inX5 rfl wf_X5_32 dX5_expression_26 ?_
      refine ez_iconst hX (1 : Int32) dX5_expression_29 (by decide) ?_
      refine ez_iadd hX dX5_expression_30 ?_
      refine ez_puti hX kc_9 rfl (Nat.le_of_ble_eq_true rfl) lc_9 (Nat.le_of_ble_eq_true rfl) inX5 tyX5 tyX5_ok nmX5 ((M.1 9 1) + (1 : Int32)) rfl wf_X5_32 rfl rfl rfl dX5_expression_31 ?_
      refine ez_nmM (fun M64 eM64 => ?_)
      refine ez_aload_n hX 1 dX5_expression_34 rfl ?_
      refine ez_getr hX kc_9 rfl (Nat.le_of_ble_eq_true rfl) lc_9 (Nat.le_of_ble_eq_true rfl) inX5 1 rfl rc_9_3 wf_X5_15 dX5_expression_35 ?_
      refine ez_bipush hX (12 : Int32) dX5_expression_38 (by decide) ?_
      refine ez_iload_n hX 0 dX5_expression_40 rfl ?_
      refine ez_bipush hX (97 : Int32) dX5_expression_41 (by decide) ?_
      refine ez_isub hX dX5_expression_43 ?_
      refine ez_callV hX (N0 := 0) (As := [.int (12 : Int32), .int (r1 - (97 : Int32))]) (st := []) kc_1 (Nat.le_of_ble_eq_true rfl) lc_1 rfl (ec_X2_add _ _ _ M64 (12 : Int32) (r1 - (97 : Int32))) (Or.inl rfl) wm_X5_60 wv_X2_add we_X2_add wy_X2_add rfl wd_X2_add wi_X2 (ez_rok3 hRm (by omega)) (Nat.le_of_ble_eq_true rfl) dX5_expression_44 ?_
      refine ez_nmIM (fun r65 M66 eM66 => ?_)
      have ht : t0 = (r65, M66) := hT.symm.trans (by simp only [et_X5_exprB, er1, er2, if_pos c3, er4, if_neg c5, eM64, eM66])
      subst ht
      exact ez_iret hX hQ dX5_expression_47 rfl rfl
  · -- c3 on
    refine ez_aload_n hX 1 dX5_expression_12 rfl ?_
    refine ez_callV hX (N0 := 0) (As := []) (st := []) kc_9 (Nat.le_of_ble_eq_true rfl) lc_9 rfl (ec_X5_digits _ _ _ M) (Or.inl rfl) wm_X5_54 wv_X5_digits we_X5_digits wy_X5_digits rfl wd_X5_digits wi_X5 (ez_rok3 hRm (by omega)) (Nat.le_of_ble_eq_true rfl) dX5_expression_13 ?_
    refine ez_nmIM (fun r67 M68 eM68 => ?_)
    have ht : t0 = (r67, M68) := hT.symm.trans (by simp only [et_X5_exprB, er1, er2, if_neg c3, eM68])
    subst ht
    exact ez_iret hX hQ dX5_expression_16 rfl rfl

def et_X5_expr : Nat → em_M → Int32 → Int32 × em_M
  | 0 => et_X5_exprB (fun M _ => (0, M))
  | d + 1 => et_X5_exprB (et_X5_expr d)
theorem ec_X5_expr (l : Launch) (D : em_G) (B : Nat) : ∀ (d : Nat) (M : em_M) (within : Int32), 7 ≤ within.toInt + d → em_C l D B yX5_expression cX5_expression 5 (some .int) (8 + 8 * d) (200 + 200 * d) 0 0 false [.ref (B + 9), .int within] 132 em_R M (some (.int (et_X5_expr d M within).1)) 132 em_R (et_X5_expr d M within).2 := by
  have e7 : (7 : Int32).toInt = 7 := by decide
  intro d
  induction d with
  | zero =>
    intro M within h
    exact ec_X5_exprB l D B M within (fun M _ => (0, M)) 0 0 (fun h7 => by rw [Int32.le_iff_toInt_le, e7] at h7; omega)
  | succ d ih =>
    intro M within h
    have := ec_X5_exprB l D B M within (et_X5_expr d) (8 + 8 * d) (200 + 200 * d) (fun h7 M' => by
      have e := ez_inc (Int32.not_le.mp h7)
      exact ih M' (within + 1) (by rw [e]; omega))
    rw [show 8 + 8 * (d + 1) = 8 + 8 * d + 8 by omega, show 200 + 200 * (d + 1) = 200 + 200 * d + 200 by omega]
    exact this
theorem ec_X5_expression (l : Launch) (D : em_G) (B : Nat) (M : em_M) (within : Int32) (h : within = 0) : em_C l D B yX5_expression cX5_expression 5 (some .int) 64 1600 0 0 false [.ref (B + 9), .int within] 132 em_R M (some (.int (et_X5_expr 7 M within).1)) 132 em_R (et_X5_expr 7 M within).2 :=
  ec_X5_expr l D B 7 M within (by rw [h]; decide)

def et_X5_take  (M : em_M) : Int32 × em_M :=
  let M1 := em_pI M 9 1 (0 : Int32)
  match et_X5_expr 7 M1 (0 : Int32) with
  | (r2, M3) =>
  (if r2 = (M.1 1 1) then (if (M3.1 9 1) = (M3.1 9 0) then let M10 := em_pI M3 9 0 (0 : Int32)
  match et_X2_end M10 (M.1 1 1) with
  | (r11, M12) =>
  (r11, M12) else let M8 := em_pI M3 9 0 (0 : Int32)
  let M9 := em_pI M8 1 1 (M.1 1 1)
  (((-10 : Int32) - (M9.1 9 1)), M9)) else let M5 := em_pI M3 9 0 (0 : Int32)
  let M6 := em_pI M5 1 1 (M.1 1 1)
  (((-10 : Int32) - (M6.1 9 1)), M6))
set_option maxHeartbeats 4000000 in
set_option maxRecDepth 100000 in
theorem ec_X5_take (l : Launch) (D : em_G) (B : Nat) (M : em_M) : em_C l D B yX5_take cX5_take 3 (some .int) 65 1624 0 0 false [.ref (B + 9)] 132 em_R M (some (.int (et_X5_take M).1)) 132 em_R ((et_X5_take M).2) := by
  refine em_C_of RX5 [(0, .ref (B + 9))] (by decide) rfl rfl (Nat.le_of_ble_eq_true rfl) ?_
  rintro X rfl rfl rfl hRm hnL hnm hsz hX hQ
  obtain ⟨t0, hT⟩ : ∃ tz, et_X5_take M = tz := ⟨_, rfl⟩
  rw [hT] at hQ
  refine ez_aload_n hX 0 dX5_take_0 rfl ?_
  refine ez_getr hX kc_9 rfl (Nat.le_of_ble_eq_true rfl) lc_9 (Nat.le_of_ble_eq_true rfl) inX5 1 rfl rc_9_3 wf_X5_15 dX5_take_1 ?_
  refine ez_geti hX kc_1 rfl (Nat.le_of_ble_eq_true rfl) lc_1 (Nat.le_of_ble_eq_true rfl) inX2 rfl wf_X5_27 dX5_take_4 ?_
  refine ez_istore_n hX [(1, .int (M.1 1 1)), (0, .ref (ez_B X + 9))] dX5_take_7 (ez_lt hnL rfl) rfl ?_
  refine ez_aload_n hX 1 dX5_take_8 rfl ?_
  refine ez_iconst hX (0 : Int32) dX5_take_9 (by decide) ?_
  refine ez_puti hX kc_9 rfl (Nat.le_of_ble_eq_true rfl) lc_9 (Nat.le_of_ble_eq_true rfl) inX5 tyX5 tyX5_ok nmX5 (0 : Int32) rfl wf_X5_32 rfl rfl rfl dX5_take_10 ?_
  refine ez_nmM (fun M1 eM1 => ?_)
  refine ez_aload_n hX 1 dX5_take_13 rfl ?_
  refine ez_iconst hX (0 : Int32) dX5_take_14 (by decide) ?_
  refine ez_callV hX (N0 := 0) (As := [.int (0 : Int32)]) (st := []) kc_9 (Nat.le_of_ble_eq_true rfl) lc_9 rfl (ec_X5_expression _ _ _ M1 (0 : Int32) rfl) (Or.inl rfl) wm_X5_35 wv_X5_expression we_X5_expression wy_X5_expression rfl wd_X5_expression wi_X5 (ez_rok hRm rfl) (Nat.le_of_ble_eq_true rfl) dX5_take_15 ?_
  refine ez_nmIM (fun r2 M3 eM3 => ?_)
  refine ez_iload_n hX 0 dX5_take_18 rfl ?_
  refine ez_icmp_ne hX 37 dX5_take_19 (by decide) (fun c4 => ?_) (fun c4 => ?_)
  · -- c4 jump
    refine ez_iconst hX (0 : Int32) dX5_take_37 (by decide) ?_
    refine ez_istore_n hX [(2, .int (0 : Int32)), (1, .int (M.1 1 1)), (0, .ref (ez_B X + 9))] dX5_take_38 (ez_lt hnL rfl) rfl ?_
    refine ez_aload_n hX 2 dX5_take_39 rfl ?_
    refine ez_iconst hX (0 : Int32) dX5_take_40 (by decide) ?_
    refine ez_puti hX kc_9 rfl (Nat.le_of_ble_eq_true rfl) lc_9 (Nat.le_of_ble_eq_true rfl) inX5 tyX5 tyX5_ok nmX5 (0 : Int32) rfl wf_X5_19 rfl rfl rfl dX5_take_41 ?_
    refine ez_nmM (fun M5 eM5 => ?_)
    refine ez_iload_n hX 0 dX5_take_44 rfl ?_
    refine ez_if_eq hX 57 dX5_take_45 (by decide) (fun _ => ?_) (fun c => absurd c (by decide))
    refine ez_aload_n hX 2 dX5_take_57 rfl ?_
    refine ez_getr hX kc_9 rfl (Nat.le_of_ble_eq_true rfl) lc_9 (Nat.le_of_ble_eq_true rfl) inX5 1 rfl rc_9_3 wf_X5_15 dX5_take_58 ?_
    refine ez_iload_n hX 1 dX5_take_61 rfl ?_
    refine ez_puti hX kc_1 rfl (Nat.le_of_ble_eq_true rfl) lc_1 (Nat.le_of_ble_eq_true rfl) inX2 tyX2 tyX2_ok nmX2 (M.1 1 1) rfl wf_X5_27 rfl rfl rfl dX5_take_62 ?_
    refine ez_nmM (fun M6 eM6 => ?_)
    refine ez_bipush hX (-10 : Int32) dX5_take_65 (by decide) ?_
    refine ez_aload_n hX 2 dX5_take_67 rfl ?_
    refine ez_geti hX kc_9 rfl (Nat.le_of_ble_eq_true rfl) lc_9 (Nat.le_of_ble_eq_true rfl) inX5 rfl wf_X5_32 dX5_take_68 ?_
    refine ez_isub hX dX5_take_71 ?_
    have ht : t0 = (((-10 : Int32) - (M6.1 9 1)), M6) := hT.symm.trans (by simp only [et_X5_take, eM1, eM3, if_neg c4, eM5, eM6])
    subst ht
    exact ez_iret hX hQ dX5_take_72 rfl rfl
  · -- c4 on
    refine ez_aload_n hX 1 dX5_take_22 rfl ?_
    refine ez_geti hX kc_9 rfl (Nat.le_of_ble_eq_true rfl) lc_9 (Nat.le_of_ble_eq_true rfl) inX5 rfl wf_X5_32 dX5_take_23 ?_
    refine ez_aload_n hX 1 dX5_take_26 rfl ?_
    refine ez_geti hX kc_9 rfl (Nat.le_of_ble_eq_true rfl) lc_9 (Nat.le_of_ble_eq_true rfl) inX5 rfl wf_X5_19 dX5_take_27 ?_
    refine ez_icmp_ne hX 37 dX5_take_30 (by decide) (fun c7 => ?_) (fun c7 => ?_)
    · -- c7 jump
      refine ez_iconst hX (0 : Int32) dX5_take_37 (by decide) ?_
      refine ez_istore_n hX [(2, .int (0 : Int32)), (1, .int (M.1 1 1)), (0, .ref (ez_B X + 9))] dX5_take_38 (ez_lt hnL rfl) rfl ?_
      refine ez_aload_n hX 2 dX5_take_39 rfl ?_
      refine ez_iconst hX (0 : Int32) dX5_take_40 (by decide) ?_
      refine ez_puti hX kc_9 rfl (Nat.le_of_ble_eq_true rfl) lc_9 (Nat.le_of_ble_eq_true rfl) inX5 tyX5 tyX5_ok nmX5 (0 : Int32) rfl wf_X5_19 rfl rfl rfl dX5_take_41 ?_
      refine ez_nmM (fun M8 eM8 => ?_)
      refine ez_iload_n hX 0 dX5_take_44 rfl ?_
      refine ez_if_eq hX 57 dX5_take_45 (by decide) (fun _ => ?_) (fun c => absurd c (by decide))
      refine ez_aload_n hX 2 dX5_take_57 rfl ?_
      refine ez_getr hX kc_9 rfl (Nat.le_of_ble_eq_true rfl) lc_9 (Nat.le_of_ble_eq_true rfl) inX5 1 rfl rc_9_3 wf_X5_15 dX5_take_58 ?_
      refine ez_iload_n hX 1 dX5_take_61 rfl ?_
      refine ez_puti hX kc_1 rfl (Nat.le_of_ble_eq_true rfl) lc_1 (Nat.le_of_ble_eq_true rfl) inX2 tyX2 tyX2_ok nmX2 (M.1 1 1) rfl wf_X5_27 rfl rfl rfl dX5_take_62 ?_
      refine ez_nmM (fun M9 eM9 => ?_)
      refine ez_bipush hX (-10 : Int32) dX5_take_65 (by decide) ?_
      refine ez_aload_n hX 2 dX5_take_67 rfl ?_
      refine ez_geti hX kc_9 rfl (Nat.le_of_ble_eq_true rfl) lc_9 (Nat.le_of_ble_eq_true rfl) inX5 rfl wf_X5_32 dX5_take_68 ?_
      refine ez_isub hX dX5_take_71 ?_
      have ht : t0 = (((-10 : Int32) - (M9.1 9 1)), M9) := hT.symm.trans (by simp only [et_X5_take, eM1, eM3, if_pos c4, if_neg c7, eM8, eM9])
      subst ht
      exact ez_iret hX hQ dX5_take_72 rfl rfl
    · -- c7 on
      refine ez_iconst hX (1 : Int32) dX5_take_33 (by decide) ?_
      refine ez_goto hX 38 dX5_take_34 (by decide) ?_
      refine ez_istore_n hX [(2, .int (1 : Int32)), (1, .int (M.1 1 1)), (0, .ref (ez_B X + 9))] dX5_take_38 (ez_lt hnL rfl) rfl ?_
      refine ez_aload_n hX 2 dX5_take_39 rfl ?_
      refine ez_iconst hX (0 : Int32) dX5_take_40 (by decide) ?_
      refine ez_puti hX kc_9 rfl (Nat.le_of_ble_eq_true rfl) lc_9 (Nat.le_of_ble_eq_true rfl) inX5 tyX5 tyX5_ok nmX5 (0 : Int32) rfl wf_X5_19 rfl rfl rfl dX5_take_41 ?_
      refine ez_nmM (fun M10 eM10 => ?_)
      refine ez_iload_n hX 0 dX5_take_44 rfl ?_
      refine ez_if_eq hX 57 dX5_take_45 (by decide) (fun c => absurd c (by decide)) (fun _ => ?_)
      refine ez_aload_n hX 2 dX5_take_48 rfl ?_
      refine ez_getr hX kc_9 rfl (Nat.le_of_ble_eq_true rfl) lc_9 (Nat.le_of_ble_eq_true rfl) inX5 1 rfl rc_9_3 wf_X5_15 dX5_take_49 ?_
      refine ez_iload_n hX 1 dX5_take_52 rfl ?_
      refine ez_callV hX (N0 := 0) (As := [.int (M.1 1 1)]) (st := []) kc_1 (Nat.le_of_ble_eq_true rfl) lc_1 rfl (ec_X2_end _ _ _ M10 (M.1 1 1)) (Or.inl rfl) wm_X5_39 wv_X2_end we_X2_end wy_X2_end rfl wd_X2_end wi_X2 (ez_rok hRm rfl) (Nat.le_of_ble_eq_true rfl) dX5_take_53 ?_
      refine ez_nmIM (fun r11 M12 eM12 => ?_)
      have ht : t0 = (r11, M12) := hT.symm.trans (by simp only [et_X5_take, eM1, eM3, if_pos c4, if_pos c7, eM10, eM12])
      subst ht
      exact ez_iret hX hQ dX5_take_56 rfl rfl

theorem ez_in60 {k : Int32} {f : Nat} (h : ez_cnt k 60 f) (hk : ¬ (60 : Int32) ≤ k) : vp_in k 60 := by
  rw [Int32.le_iff_toInt_le, show (60 : Int32).toInt = 60 by decide] at hk
  rw [vp_in_iff]
  unfold ez_cnt at h
  omega

def et_X8_become_12  (t : Nat)  : Nat → em_M → Int32 → em_M
  | 0, M, _ => M
  | fu + 1, M, k =>
  (if (60 : Int32) ≤ k then M else let M4 := em_pL M (t + 1) (k).toNatClampNeg (0 : Int64)
  et_X8_become_12 t fu M4 (k + (1 : Int32)))
def et_X8_become  (t : Nat) (M : em_M) (newSort : Int32) (n : Int32) : em_M :=
  let M1 := em_pI M t 0 newSort
  let M2 := em_pI M1 t 1 n
  et_X8_become_12 t 61 M2 (0 : Int32)
set_option maxHeartbeats 4000000 in
set_option maxRecDepth 100000 in
theorem el_X8_become_12 (X : em_X) (t : Nat) (ht : et t)   (t0 : em_M) (hRm : ez_rm X = { frames := 0, cells := 0, slots := 0, locals := 0 }) (hnL : ez_nL X = 4) (hX : ez_ok X cX8_become RX8) (hQ : ez_ret X none (none) 132 em_R (t0) 0 0) : ∀ (fu : Nat) (M : em_M) (k : Int32), ez_cnt k (60 : Int32) fu → et_X8_become_12 t fu M k = t0 → ez_Z X 132 em_R M 0 0 12 [(0, .ref (ez_B X + t)), (3, .int k)] [] := by
  intro fu
  induction fu with
  | zero =>
    intro M k hc hT
    exact absurd hc ez_cntz
  | succ fu ih =>
    intro M k hc hT
    refine ez_iload_n hX 1 dX8_become_12 rfl ?_
    refine ez_aload_n hX 0 dX8_become_13 rfl ?_
    refine ez_getr hX (kt_0 ht) rfl (Nat.le_of_ble_eq_true rfl) (kt_lt0 ht) (Nat.le_of_ble_eq_true rfl) inX8 (t + 1) rfl (rt_0_2 ht) wf_X8_15 dX8_become_14 ?_
    refine ez_alenJ hX (kt_1 ht) (kt_lt ht 1 (by decide)) (60 : Int32) (by decide) dX8_become_17 ?_
    refine ez_icmp_ge hX 34 dX8_become_18 (by decide) (fun c3 => ?_) (fun c3 => ?_)
    · -- c3 jump
      have ht : t0 = M := hT.symm.trans (by simp only [et_X8_become_12, if_pos c3])
      subst ht
      exact ez_vret hX hQ dX8_become_34 rfl rfl
    · -- c3 on
      refine ez_aload_n hX 0 dX8_become_21 rfl ?_
      refine ez_getr hX (kt_0 ht) rfl (Nat.le_of_ble_eq_true rfl) (kt_lt0 ht) (Nat.le_of_ble_eq_true rfl) inX8 (t + 1) rfl (rt_0_2 ht) wf_X8_15 dX8_become_22 ?_
      refine ez_iload_n hX 1 dX8_become_25 rfl ?_
      refine ez_lconst hX (0 : Int64) dX8_become_26 (by decide) ?_
      refine ez_last hX (kt_1 ht) (kt_lt ht 1 (by decide)) (ez_in60 hc c3) dX8_become_27 ?_
      refine ez_nmM (fun M4 eM4 => ?_)
      refine ez_iinc hX (k + (1 : Int32)) 1 [(3, .int (k + (1 : Int32))), (0, .ref (ez_B X + t))] dX8_become_28 rfl rfl (ez_lt hnL rfl) rfl ?_
      refine ez_goto hX 12 dX8_become_31 (by decide) ?_
      refine ez_lv [1, 0] rfl ?_
      exact ih M4 (k + (1 : Int32)) (ez_cnts' hc c3) (Eq.trans (by simp only [et_X8_become_12, if_neg c3, eM4]) hT)
set_option maxHeartbeats 4000000 in
set_option maxRecDepth 100000 in
theorem ec_X8_become (l : Launch) (D : em_G) (B : Nat) (t : Nat) (ht : et t) (M : em_M) (newSort : Int32) (n : Int32) : em_C l D B yX8_become cX8_become 4 none 0 0 0 0 false [.ref (B + t), .int newSort, .int n] 132 em_R M (none) 132 em_R ((et_X8_become t M newSort n)) := by
  refine em_C_of RX8 [(0, .ref (B + t)), (1, .int newSort), (2, .int n)] (by decide) rfl rfl (Nat.le_of_ble_eq_true rfl) ?_
  rintro X rfl rfl rfl hRm hnL hnm hsz hX hQ
  obtain ⟨t0, hT⟩ : ∃ tz, et_X8_become t M newSort n = tz := ⟨_, rfl⟩
  rw [hT] at hQ
  refine ez_aload_n hX 0 dX8_become_0 rfl ?_
  refine ez_iload_n hX 1 dX8_become_1 rfl ?_
  refine ez_puti hX (kt_0 ht) rfl (Nat.le_of_ble_eq_true rfl) (kt_lt0 ht) (Nat.le_of_ble_eq_true rfl) inX8 tyX8 tyX8_ok nmX8 newSort rfl wf_X8_11 rfl rfl rfl dX8_become_2 ?_
  refine ez_nmM (fun M1 eM1 => ?_)
  refine ez_aload_n hX 0 dX8_become_5 rfl ?_
  refine ez_iload_n hX 2 dX8_become_6 rfl ?_
  refine ez_puti hX (kt_0 ht) rfl (Nat.le_of_ble_eq_true rfl) (kt_lt0 ht) (Nat.le_of_ble_eq_true rfl) inX8 tyX8 tyX8_ok nmX8 n rfl wf_X8_19 rfl rfl rfl dX8_become_7 ?_
  refine ez_nmM (fun M2 eM2 => ?_)
  refine ez_iconst hX (0 : Int32) dX8_become_10 (by decide) ?_
  refine ez_istore_n hX [(3, .int (0 : Int32)), (0, .ref (ez_B X + t)), (1, .int newSort), (2, .int n)] dX8_become_11 (ez_lt hnL rfl) rfl ?_
  refine ez_lv [1, 0] rfl ?_
  exact el_X8_become_12 X t ht t0 hRm hnL hX hQ 61 M2 (0 : Int32) (ez_cnt0 (60 : Int32)) (Eq.trans (by simp only [et_X8_become, eM1, eM2]) hT)
