theorem ef_put {a n : Nat} {M : em_M} {i v : Int32} {c : Nat} (h : c ≠ a) : (et_X11_put a n M i v).1 c = M.1 c := by
  unfold et_X11_put
  repeat' split
  all_goals first | rfl | (simp only [ef_pI _ _ _ _ h])
theorem ef_put2 {a n : Nat} {M : em_M} {i v : Int32} : (et_X11_put a n M i v).2 = M.2 := by
  unfold et_X11_put
  repeat' split
  all_goals rfl

theorem ef_hd_2_3 {c : Nat} (h5 : c ≠ 5) (h6 : c ≠ 6) (M : em_M) (x1 : Int32) : (et_X2_handDown_2_3 M x1).1 c = M.1 c := rfl
theorem ef_hd_83_2 {c : Nat} (h5 : c ≠ 5) (h6 : c ≠ 6) (M : em_M) (x1 : Int32) : (et_X2_handDown_83_2 M x1).1 c = M.1 c := by
  unfold et_X2_handDown_83_2
  first | rfl | skip
  all_goals try dsimp only
  all_goals repeat' split
  all_goals simp only [ef_hd_2_3 h5 h6, ef_put h5, ef_put h6]
theorem ef_hd_80_2 {c : Nat} (h5 : c ≠ 5) (h6 : c ≠ 6) (M : em_M) (x1 x3 s0 s1 : Int32) : (et_X2_handDown_80_2 M x1 x3 s0 s1).1 c = M.1 c := by
  unfold et_X2_handDown_80_2
  first | rfl | skip
  all_goals try dsimp only
  all_goals repeat' split
  all_goals simp only [ef_hd_2_3 h5 h6, ef_hd_83_2 h5 h6, ef_put h5, ef_put h6]
theorem ef_hd_46_2 {c : Nat} (h5 : c ≠ 5) (h6 : c ≠ 6) (M : em_M) (x1 x3 s0 s1 s2 : Int32) : (et_X2_handDown_46_2 M x1 x3 s0 s1 s2).1 c = M.1 c := by
  unfold et_X2_handDown_46_2
  first | rfl | skip
  all_goals try dsimp only
  all_goals repeat' split
  all_goals simp only [ef_hd_2_3 h5 h6, ef_hd_83_2 h5 h6, ef_hd_80_2 h5 h6, ef_put h5, ef_put h6]
theorem ef_hd_2_2 {c : Nat} (h5 : c ≠ 5) (h6 : c ≠ 6) (M : em_M) (x1 : Int32) : (et_X2_handDown_2_2 M x1).1 c = M.1 c := by
  unfold et_X2_handDown_2_2
  first | rfl | skip
  all_goals try dsimp only
  all_goals repeat' split
  all_goals simp only [ef_hd_83_2 h5 h6, ef_hd_80_2 h5 h6, ef_hd_46_2 h5 h6, ef_put h5, ef_put h6]
theorem ef_hd_83_1 {c : Nat} (h5 : c ≠ 5) (h6 : c ≠ 6) (M : em_M) (x1 : Int32) : (et_X2_handDown_83_1 M x1).1 c = M.1 c := by
  unfold et_X2_handDown_83_1
  first | rfl | skip
  all_goals try dsimp only
  all_goals repeat' split
  all_goals simp only [ef_hd_80_2 h5 h6, ef_hd_46_2 h5 h6, ef_hd_2_2 h5 h6, ef_put h5, ef_put h6]
theorem ef_hd_80_1 {c : Nat} (h5 : c ≠ 5) (h6 : c ≠ 6) (M : em_M) (x1 x3 s0 s1 : Int32) : (et_X2_handDown_80_1 M x1 x3 s0 s1).1 c = M.1 c := by
  unfold et_X2_handDown_80_1
  first | rfl | skip
  all_goals try dsimp only
  all_goals repeat' split
  all_goals simp only [ef_hd_46_2 h5 h6, ef_hd_2_2 h5 h6, ef_hd_83_1 h5 h6, ef_put h5, ef_put h6]
theorem ef_hd_46_1 {c : Nat} (h5 : c ≠ 5) (h6 : c ≠ 6) (M : em_M) (x1 x3 s0 s1 s2 : Int32) : (et_X2_handDown_46_1 M x1 x3 s0 s1 s2).1 c = M.1 c := by
  unfold et_X2_handDown_46_1
  first | rfl | skip
  all_goals try dsimp only
  all_goals repeat' split
  all_goals simp only [ef_hd_2_2 h5 h6, ef_hd_83_1 h5 h6, ef_hd_80_1 h5 h6, ef_put h5, ef_put h6]
theorem ef_hd_2_1 {c : Nat} (h5 : c ≠ 5) (h6 : c ≠ 6) (M : em_M) (x1 : Int32) : (et_X2_handDown_2_1 M x1).1 c = M.1 c := by
  unfold et_X2_handDown_2_1
  first | rfl | skip
  all_goals try dsimp only
  all_goals repeat' split
  all_goals simp only [ef_hd_83_1 h5 h6, ef_hd_80_1 h5 h6, ef_hd_46_1 h5 h6, ef_put h5, ef_put h6]
theorem ef_hd_83_0 {c : Nat} (h5 : c ≠ 5) (h6 : c ≠ 6) (M : em_M) (x1 : Int32) : (et_X2_handDown_83_0 M x1).1 c = M.1 c := by
  unfold et_X2_handDown_83_0
  first | rfl | skip
  all_goals try dsimp only
  all_goals repeat' split
  all_goals simp only [ef_hd_80_1 h5 h6, ef_hd_46_1 h5 h6, ef_hd_2_1 h5 h6, ef_put h5, ef_put h6]
theorem ef_hd_80_0 {c : Nat} (h5 : c ≠ 5) (h6 : c ≠ 6) (M : em_M) (x1 x3 s0 s1 : Int32) : (et_X2_handDown_80_0 M x1 x3 s0 s1).1 c = M.1 c := by
  unfold et_X2_handDown_80_0
  first | rfl | skip
  all_goals try dsimp only
  all_goals repeat' split
  all_goals simp only [ef_hd_46_1 h5 h6, ef_hd_2_1 h5 h6, ef_hd_83_0 h5 h6, ef_put h5, ef_put h6]
theorem ef_hd_46_0 {c : Nat} (h5 : c ≠ 5) (h6 : c ≠ 6) (M : em_M) (x1 x3 s0 s1 s2 : Int32) : (et_X2_handDown_46_0 M x1 x3 s0 s1 s2).1 c = M.1 c := by
  unfold et_X2_handDown_46_0
  first | rfl | skip
  all_goals try dsimp only
  all_goals repeat' split
  all_goals simp only [ef_hd_2_1 h5 h6, ef_hd_83_0 h5 h6, ef_hd_80_0 h5 h6, ef_put h5, ef_put h6]
theorem ef_hd_2_0 {c : Nat} (h5 : c ≠ 5) (h6 : c ≠ 6) (M : em_M) (x1 : Int32) : (et_X2_handDown_2_0 M x1).1 c = M.1 c := by
  unfold et_X2_handDown_2_0
  first | rfl | skip
  all_goals try dsimp only
  all_goals repeat' split
  all_goals simp only [ef_hd_83_0 h5 h6, ef_hd_80_0 h5 h6, ef_hd_46_0 h5 h6, ef_put h5, ef_put h6]
theorem ef_hd (M : em_M) (e : Int32) {c : Nat} (h5 : c ≠ 5) (h6 : c ≠ 6) : (et_X2_handDown M e).1 c = M.1 c := ef_hd_2_0 h5 h6 M e

theorem ef_ci (M : em_M) (l e : Int32) {c : Nat} (h : c ≠ 8) : (et_X2_countIn M l e).1 c = M.1 c := by
  simp only [et_X2_countIn, et_X2_countIn_37, et_X2_countIn_104, et_X2_countIn_144]
  repeat' split
  all_goals first | rfl | simp only [ef_put h]

def et_X2_end_44   : Nat → em_M → Int32 → Int32 → Int32 × em_M
  | 0, M, _, _ => (0, M)
  | fu + 1, M, line, e =>
  (if (M.1 1 1) ≤ e then (line, M) else let M6 := et_X2_handDown M e
  let M7 := et_X2_countIn M6 line e
  et_X2_end_44 fu M7 line (e + (1 : Int32)))
def et_X2_end  (M : em_M) (root : Int32) : Int32 × em_M :=
  let M1 := em_pI M 1 0 ((M.1 1 0) + (1 : Int32))
  let M2 := et_X11_put 7 8 M1 (M.1 1 0) root
  let M3 := et_X11_put 5 800 M2 root (1 : Int32)
  let M4 := et_X11_put 6 800 M3 root (1 : Int32)
  et_X2_end_44 (((M4.1 1 1).toInt - (root).toInt).toNat + 1) M4 (M.1 1 0) root
set_option maxHeartbeats 4000000 in
set_option maxRecDepth 100000 in
theorem el_X2_end_44 (X : em_X)    (t0 : Int32 × em_M) (hRm : ez_rm X = { frames := 4, cells := 0, slots := 0, locals := 88 }) (hnL : ez_nL X = 4) (hX : ez_ok X cX2_end RX2) (hQ : ez_ret X (some .int) (some (.int t0.1)) 132 em_R (t0.2) 0 0) : ∀ (fu : Nat) (M : em_M) (line : Int32) (e : Int32), ez_cnu e (M.1 1 1) fu → et_X2_end_44  fu M line e = t0 → ez_Z X 132 em_R M 0 0 44 [(0, .ref (ez_B X + 1)), (2, .int line), (3, .int e)] [] := by
  intro fu
  induction fu with
  | zero =>
    intro M line e hc hT
    exact absurd hc ez_cnuz
  | succ fu ih =>
    intro M line e hc hT
    refine ez_iload_n hX 2 dX2_end_44 rfl ?_
    refine ez_aload_n hX 0 dX2_end_45 rfl ?_
    refine ez_geti hX kc_1 rfl (Nat.le_of_ble_eq_true rfl) lc_1 (Nat.le_of_ble_eq_true rfl) inX2 rfl wf_X2_41 dX2_end_46 ?_
    refine ez_icmp_ge hX 69 dX2_end_49 (by decide) (fun c5 => ?_) (fun c5 => ?_)
    · -- c5 jump
      refine ez_iload_n hX 1 dX2_end_69 rfl ?_
      have ht : t0 = (line, M) := hT.symm.trans (by simp only [et_X2_end_44, if_pos c5])
      subst ht
      exact ez_iret hX hQ dX2_end_70 rfl rfl
    · -- c5 on
      refine ez_aload_n hX 0 dX2_end_52 rfl ?_
      refine ez_iload_n hX 2 dX2_end_53 rfl ?_
      refine ez_callV hX (N0 := 0) (As := [.int e]) (st := []) kc_1 (Nat.le_of_ble_eq_true rfl) lc_1 rfl (ec_X2_handDown _ _ _ M e) (Or.inl rfl) wm_X2_52 wv_X2_handDown we_X2_handDown wy_X2_handDown rfl wd_X2_handDown wi_X2 (ez_rok hRm rfl) (Nat.le_of_ble_eq_true rfl) dX2_end_54 ?_
      refine ez_nmM (fun M6 eM6 => ?_)
      refine ez_aload_n hX 0 dX2_end_57 rfl ?_
      refine ez_iload_n hX 1 dX2_end_58 rfl ?_
      refine ez_iload_n hX 2 dX2_end_59 rfl ?_
      refine ez_callV hX (N0 := 0) (As := [.int line, .int e]) (st := []) kc_1 (Nat.le_of_ble_eq_true rfl) lc_1 rfl (ec_X2_countIn _ _ _ M6 line e) (Or.inl rfl) wm_X2_56 wv_X2_countIn we_X2_countIn wy_X2_countIn rfl wd_X2_countIn wi_X2 (ez_rok hRm rfl) (Nat.le_of_ble_eq_true rfl) dX2_end_60 ?_
      refine ez_nmM (fun M7 eM7 => ?_)
      refine ez_iinc hX (e + (1 : Int32)) 2 [(3, .int (e + (1 : Int32))), (0, .ref (ez_B X + 1)), (2, .int line)] dX2_end_63 rfl rfl (ez_lt hnL rfl) rfl ?_
      refine ez_goto hX 44 dX2_end_66 (by decide) ?_
      refine ez_lv [1, 2, 0] rfl ?_
      exact ih M7 line (e + (1 : Int32)) (ez_cnus hc c5 (by rw [← eM7, ← eM6, ef_ci _ _ _ (by decide), ef_hd _ _ (by decide) (by decide)])) (Eq.trans (by simp only [et_X2_end_44, if_neg c5, eM6, eM7]) hT)
set_option maxHeartbeats 4000000 in
set_option maxRecDepth 100000 in
theorem ec_X2_end (l : Launch) (D : em_G) (B : Nat) (M : em_M) (root : Int32) : em_C l D B yX2_end cX2_end 4 (some .int) 4 88 0 0 false [.ref (B + 1), .int root] 132 em_R M (some (.int (et_X2_end M root).1)) 132 em_R ((et_X2_end M root).2) := by
  refine em_C_of RX2 [(0, .ref (B + 1)), (1, .int root)] (by decide) rfl rfl (Nat.le_of_ble_eq_true rfl) ?_
  rintro X rfl rfl rfl hRm hnL hnm hsz hX hQ
  obtain ⟨t0, hT⟩ : ∃ tz, et_X2_end M root = tz := ⟨_, rfl⟩
  rw [hT] at hQ
  refine ez_aload_n hX 0 dX2_end_0 rfl ?_
  refine ez_geti hX kc_1 rfl (Nat.le_of_ble_eq_true rfl) lc_1 (Nat.le_of_ble_eq_true rfl) inX2 rfl wf_X2_33 dX2_end_1 ?_
  refine ez_istore_n hX [(2, .int (M.1 1 0)), (0, .ref (ez_B X + 1)), (1, .int root)] dX2_end_4 (ez_lt hnL rfl) rfl ?_
  refine ez_aload_n hX 1 dX2_end_5 rfl ?_
  refine ez_dup hX dX2_end_6 rfl ?_
  refine ez_geti hX kc_1 rfl (Nat.le_of_ble_eq_true rfl) lc_1 (Nat.le_of_ble_eq_true rfl) inX2 rfl wf_X2_33 dX2_end_7 ?_
  refine ez_iconst hX (1 : Int32) dX2_end_10 (by decide) ?_
  refine ez_iadd hX dX2_end_11 ?_
  refine ez_puti hX kc_1 rfl (Nat.le_of_ble_eq_true rfl) lc_1 (Nat.le_of_ble_eq_true rfl) inX2 tyX2 tyX2_ok nmX2 ((M.1 1 0) + (1 : Int32)) rfl wf_X2_33 rfl rfl rfl dX2_end_12 ?_
  refine ez_nmM (fun M1 eM1 => ?_)
  refine ez_aload_n hX 1 dX2_end_15 rfl ?_
  refine ez_getr hX kc_1 rfl (Nat.le_of_ble_eq_true rfl) lc_1 (Nat.le_of_ble_eq_true rfl) inX2 7 rfl rc_1_7 wf_X2_27 dX2_end_16 ?_
  refine ez_iload_n hX 0 dX2_end_19 rfl ?_
  refine ez_iload_n hX 2 dX2_end_20 rfl ?_
  refine ez_callSN hX (N0 := 0) (As := [.ref (ez_B X + 7), .int (M.1 1 0), .int root]) (st := []) (ec_X11_put _ _ _ 7 8 kc_7 lc_7 M1 (M.1 1 0) root) (Or.inl rfl) wm_X2_44 ws_X11_put wy_X11_put rfl wd_X11_put wi_X11 (ez_rok hRm rfl) (Nat.le_of_ble_eq_true rfl) dX2_end_21 ?_
  refine ez_nmM (fun M2 eM2 => ?_)
  refine ez_aload_n hX 1 dX2_end_24 rfl ?_
  refine ez_getr hX kc_1 rfl (Nat.le_of_ble_eq_true rfl) lc_1 (Nat.le_of_ble_eq_true rfl) inX2 5 rfl rc_1_5 wf_X2_21 dX2_end_25 ?_
  refine ez_iload_n hX 2 dX2_end_28 rfl ?_
  refine ez_iconst hX (1 : Int32) dX2_end_29 (by decide) ?_
  refine ez_callSN hX (N0 := 0) (As := [.ref (ez_B X + 5), .int root, .int (1 : Int32)]) (st := []) (ec_X11_put _ _ _ 5 800 kc_5 lc_5 M2 root (1 : Int32)) (Or.inl rfl) wm_X2_44 ws_X11_put wy_X11_put rfl wd_X11_put wi_X11 (ez_rok hRm rfl) (Nat.le_of_ble_eq_true rfl) dX2_end_30 ?_
  refine ez_nmM (fun M3 eM3 => ?_)
  refine ez_aload_n hX 1 dX2_end_33 rfl ?_
  refine ez_getr hX kc_1 rfl (Nat.le_of_ble_eq_true rfl) lc_1 (Nat.le_of_ble_eq_true rfl) inX2 6 rfl rc_1_6 wf_X2_24 dX2_end_34 ?_
  refine ez_iload_n hX 2 dX2_end_37 rfl ?_
  refine ez_iconst hX (1 : Int32) dX2_end_38 (by decide) ?_
  refine ez_callSN hX (N0 := 0) (As := [.ref (ez_B X + 6), .int root, .int (1 : Int32)]) (st := []) (ec_X11_put _ _ _ 6 800 kc_6 lc_6 M3 root (1 : Int32)) (Or.inl rfl) wm_X2_44 ws_X11_put wy_X11_put rfl wd_X11_put wi_X11 (ez_rok hRm rfl) (Nat.le_of_ble_eq_true rfl) dX2_end_39 ?_
  refine ez_nmM (fun M4 eM4 => ?_)
  refine ez_iload_n hX 2 dX2_end_42 rfl ?_
  refine ez_istore_n hX [(3, .int root), (2, .int (M.1 1 0)), (0, .ref (ez_B X + 1)), (1, .int root)] dX2_end_43 (ez_lt hnL rfl) rfl ?_
  refine ez_lv [2, 1, 0] rfl ?_
  exact el_X2_end_44 X  t0 hRm hnL hX hQ (((M4.1 1 1).toInt - (root).toInt).toNat + 1) M4 (M.1 1 0) root (ez_cnu0 _ _) (Eq.trans (by simp only [et_X2_end, eM1, eM2, eM3, eM4]) hT)

def et_X5_parts_3 (E : em_M → Int32 → Int32 × em_M) (within : Int32) : Nat → em_M → Int32 → Int32 → Int32 → Int32 × em_M
  | 0, M, _, _, _ => (0, M)
  | fu + 1, M, e, n, k =>
  (if n ≤ k then let q4 := et_X5_passed M (41 : Int32)
  let r2 := q4.1
  let M3 := q4.2
  (if r2 = 0 then ((-1 : Int32), M3) else (e, M3)) else (if k = 0 then let q18 := et_X5_passed M (40 : Int32)
  let r16 := q18.1
  let M17 := q18.2
  (if r16 = 0 then ((-1 : Int32), M17) else let q22 := E M17 within
  let r20 := q22.1
  let M21 := q22.2
  (if 0 ≤ r20 then let M24 := et_X2_link M21 e k r20
  et_X5_parts_3 E within fu M24 e n (k + (1 : Int32)) else ((-1 : Int32), M21))) else let q9 := et_X5_passed M (44 : Int32)
  let r7 := q9.1
  let M8 := q9.2
  (if r7 = 0 then ((-1 : Int32), M8) else let q13 := E M8 within
  let r11 := q13.1
  let M12 := q13.2
  (if 0 ≤ r11 then let M15 := et_X2_link M12 e k r11
  et_X5_parts_3 E within fu M15 e n (k + (1 : Int32)) else ((-1 : Int32), M12)))))
def et_X5_parts (E : em_M → Int32 → Int32 × em_M) (M : em_M) (e : Int32) (n : Int32) (within : Int32) : Int32 × em_M :=
  et_X5_parts_3 E within (n.toNatClampNeg + 1) M e n (0 : Int32)
set_option maxHeartbeats 4000000 in
set_option maxRecDepth 100000 in
theorem el_X5_parts_3 (X : em_X)  (within : Int32) (E : em_M → Int32 → Int32 × em_M) (fr lo : Nat) (hE : ∀ M : em_M, em_C (ez_l X) (ez_D X) (ez_B X) yX5_expression cX5_expression 5 (some .int) fr lo 0 0 false [.ref ((ez_B X) + 9), .int within] 132 em_R M (some (.int (E M within).1)) 132 em_R (E M within).2) (t0 : Int32 × em_M) (hRm : ez_rm X = { frames := (fr + 4), cells := 0, slots := 0, locals := (lo + 100) }) (hnL : ez_nL X = 6) (hX : ez_ok X cX5_parts RX5) (hQ : ez_ret X (some .int) (some (.int t0.1)) 132 em_R (t0.2) 0 0) : ∀ (fu : Nat) (M : em_M) (e : Int32) (n : Int32) (k : Int32), ez_cnt k n fu → et_X5_parts_3 E within fu M e n k = t0 → ez_Z X 132 em_R M 0 0 3 [(0, .ref (ez_B X + 9)), (1, .int e), (2, .int n), (3, .int within), (4, .int k)] [] := by
  intro fu
  induction fu with
  | zero =>
    intro M e n k hc hT
    exact absurd hc ez_cntz
  | succ fu ih =>
    intro M e n k hc hT
    refine ez_iload hX 4 dX5_parts_3 rfl ?_
    refine ez_iload_n hX 2 dX5_parts_5 rfl ?_
    refine ez_icmp_ge hX 64 dX5_parts_6 (by decide) (fun c1 => ?_) (fun c1 => ?_)
    · -- c1 jump
      refine ez_aload_n hX 0 dX5_parts_64 rfl ?_
      refine ez_bipush hX (41 : Int32) dX5_parts_65 (by decide) ?_
      refine ez_callV hX (N0 := 0) (As := [.int (41 : Int32)]) (st := []) kc_9 (Nat.le_of_ble_eq_true rfl) lc_9 rfl (ec_X5_passed _ _ _ M (41 : Int32)) (Or.inl rfl) wm_X5_77 wv_X5_passed we_X5_passed wy_X5_passed rfl wd_X5_passed wi_X5 (ez_rok3 hRm (by omega)) (Nat.le_of_ble_eq_true rfl) dX5_parts_67 ?_
      refine ez_nmIM (fun r2 M3 eM3 => ?_)
      refine ez_if_eq hX 77 dX5_parts_70 (by decide) (fun c5 => ?_) (fun c5 => ?_)
      · -- c5 jump
        refine ez_iconst hX (-1 : Int32) dX5_parts_77 (by decide) ?_
        have ht : t0 = ((-1 : Int32), M3) := hT.symm.trans (by simp only [et_X5_parts_3, if_pos c1, eM3, if_pos c5])
        subst ht
        exact ez_iret hX hQ dX5_parts_78 rfl rfl
      · -- c5 on
        refine ez_iload_n hX 1 dX5_parts_73 rfl ?_
        refine ez_goto hX 78 dX5_parts_74 (by decide) ?_
        have ht : t0 = (e, M3) := hT.symm.trans (by simp only [et_X5_parts_3, if_pos c1, eM3, if_neg c5])
        subst ht
        exact ez_iret hX hQ dX5_parts_78 rfl rfl
    · -- c1 on
      refine ez_aload_n hX 0 dX5_parts_9 rfl ?_
      refine ez_iload hX 4 dX5_parts_10 rfl ?_
      refine ez_if_ne hX 20 dX5_parts_12 (by decide) (fun c6 => ?_) (fun c6 => ?_)
      · -- c6 jump
        refine ez_bipush hX (44 : Int32) dX5_parts_20 (by decide) ?_
        refine ez_callV hX (N0 := 0) (As := [.int (44 : Int32)]) (st := []) kc_9 (Nat.le_of_ble_eq_true rfl) lc_9 rfl (ec_X5_passed _ _ _ M (44 : Int32)) (Or.inl rfl) wm_X5_77 wv_X5_passed we_X5_passed wy_X5_passed rfl wd_X5_passed wi_X5 (ez_rok3 hRm (by omega)) (Nat.le_of_ble_eq_true rfl) dX5_parts_22 ?_
        refine ez_nmIM (fun r7 M8 eM8 => ?_)
        refine ez_if_eq hX 36 dX5_parts_25 (by decide) (fun c10 => ?_) (fun c10 => ?_)
        · -- c10 jump
          refine ez_iconst hX (-1 : Int32) dX5_parts_36 (by decide) ?_
          refine ez_istore hX [(5, .int (-1 : Int32)), (0, .ref (ez_B X + 9)), (1, .int e), (2, .int n), (3, .int within), (4, .int k)] dX5_parts_37 (ez_lt hnL rfl) rfl ?_
          refine ez_iload hX 0 dX5_parts_39 rfl ?_
          refine ez_if_ge hX 46 dX5_parts_41 (by decide) (fun c => absurd c (by decide)) (fun _ => ?_)
          refine ez_iconst hX (-1 : Int32) dX5_parts_44 (by decide) ?_
          have ht : t0 = ((-1 : Int32), M8) := hT.symm.trans (by simp only [et_X5_parts_3, if_neg c1, if_neg c6, eM8, if_pos c10])
          subst ht
          exact ez_iret hX hQ dX5_parts_45 rfl rfl
        · -- c10 on
          refine ez_aload_n hX 0 dX5_parts_28 rfl ?_
          refine ez_iload_n hX 3 dX5_parts_29 rfl ?_
          refine ez_callV hX (N0 := 0) (As := [.int within]) (st := []) kc_9 (Nat.le_of_ble_eq_true rfl) lc_9 rfl (hE M8) (Or.inl rfl) wm_X5_35 wv_X5_expression we_X5_expression wy_X5_expression rfl wd_X5_expression wi_X5 (ez_rok3 hRm (by omega)) (Nat.le_of_ble_eq_true rfl) dX5_parts_30 ?_
          refine ez_nmIM (fun r11 M12 eM12 => ?_)
          refine ez_goto hX 37 dX5_parts_33 (by decide) ?_
          refine ez_istore hX [(5, .int r11), (0, .ref (ez_B X + 9)), (1, .int e), (2, .int n), (3, .int within), (4, .int k)] dX5_parts_37 (ez_lt hnL rfl) rfl ?_
          refine ez_iload hX 0 dX5_parts_39 rfl ?_
          refine ez_if_ge hX 46 dX5_parts_41 (by decide) (fun c14 => ?_) (fun c14 => ?_)
          · -- c14 jump
            refine ez_aload_n hX 1 dX5_parts_46 rfl ?_
            refine ez_getr hX kc_9 rfl (Nat.le_of_ble_eq_true rfl) lc_9 (Nat.le_of_ble_eq_true rfl) inX5 1 rfl rc_9_3 wf_X5_15 dX5_parts_47 ?_
            refine ez_iload_n hX 2 dX5_parts_50 rfl ?_
            refine ez_iload hX 5 dX5_parts_51 rfl ?_
            refine ez_iload hX 0 dX5_parts_53 rfl ?_
            refine ez_callV hX (N0 := 0) (As := [.int e, .int k, .int r11]) (st := []) kc_1 (Nat.le_of_ble_eq_true rfl) lc_1 rfl (ec_X2_link _ _ _ M12 e k r11) (Or.inl rfl) wm_X5_81 wv_X2_link we_X2_link wy_X2_link rfl wd_X2_link wi_X2 (ez_rok3 hRm (by omega)) (Nat.le_of_ble_eq_true rfl) dX5_parts_55 ?_
            refine ez_nmM (fun M15 eM15 => ?_)
            refine ez_iinc hX (k + (1 : Int32)) 5 [(4, .int (k + (1 : Int32))), (5, .int r11), (0, .ref (ez_B X + 9)), (1, .int e), (2, .int n), (3, .int within)] dX5_parts_58 rfl rfl (ez_lt hnL rfl) rfl ?_
            refine ez_goto hX 3 dX5_parts_61 (by decide) ?_
            refine ez_lv [2, 3, 4, 5, 0] rfl ?_
            exact ih M15 e n (k + (1 : Int32)) (ez_cnts' hc c1) (Eq.trans (by simp only [et_X5_parts_3, if_neg c1, if_neg c6, eM8, if_neg c10, eM12, if_pos c14, eM15]) hT)
          · -- c14 on
            refine ez_iconst hX (-1 : Int32) dX5_parts_44 (by decide) ?_
            have ht : t0 = ((-1 : Int32), M12) := hT.symm.trans (by simp only [et_X5_parts_3, if_neg c1, if_neg c6, eM8, if_neg c10, eM12, if_neg c14])
            subst ht
            exact ez_iret hX hQ dX5_parts_45 rfl rfl
      · -- c6 on
        refine ez_bipush hX (40 : Int32) dX5_parts_15 (by decide) ?_
        refine ez_goto hX 22 dX5_parts_17 (by decide) ?_
        refine ez_callV hX (N0 := 0) (As := [.int (40 : Int32)]) (st := []) kc_9 (Nat.le_of_ble_eq_true rfl) lc_9 rfl (ec_X5_passed _ _ _ M (40 : Int32)) (Or.inl rfl) wm_X5_77 wv_X5_passed we_X5_passed wy_X5_passed rfl wd_X5_passed wi_X5 (ez_rok3 hRm (by omega)) (Nat.le_of_ble_eq_true rfl) dX5_parts_22 ?_
        refine ez_nmIM (fun r16 M17 eM17 => ?_)
        refine ez_if_eq hX 36 dX5_parts_25 (by decide) (fun c19 => ?_) (fun c19 => ?_)
        · -- c19 jump
          refine ez_iconst hX (-1 : Int32) dX5_parts_36 (by decide) ?_
          refine ez_istore hX [(5, .int (-1 : Int32)), (0, .ref (ez_B X + 9)), (1, .int e), (2, .int n), (3, .int within), (4, .int k)] dX5_parts_37 (ez_lt hnL rfl) rfl ?_
          refine ez_iload hX 0 dX5_parts_39 rfl ?_
          refine ez_if_ge hX 46 dX5_parts_41 (by decide) (fun c => absurd c (by decide)) (fun _ => ?_)
          refine ez_iconst hX (-1 : Int32) dX5_parts_44 (by decide) ?_
          have ht : t0 = ((-1 : Int32), M17) := hT.symm.trans (by simp only [et_X5_parts_3, if_neg c1, if_pos c6, eM17, if_pos c19])
          subst ht
          exact ez_iret hX hQ dX5_parts_45 rfl rfl
        · -- c19 on
          refine ez_aload_n hX 0 dX5_parts_28 rfl ?_
          refine ez_iload_n hX 3 dX5_parts_29 rfl ?_
          refine ez_callV hX (N0 := 0) (As := [.int within]) (st := []) kc_9 (Nat.le_of_ble_eq_true rfl) lc_9 rfl (hE M17) (Or.inl rfl) wm_X5_35 wv_X5_expression we_X5_expression wy_X5_expression rfl wd_X5_expression wi_X5 (ez_rok3 hRm (by omega)) (Nat.le_of_ble_eq_true rfl) dX5_parts_30 ?_
          refine ez_nmIM (fun r20 M21 eM21 => ?_)
          refine ez_goto hX 37 dX5_parts_33 (by decide) ?_
          refine ez_istore hX [(5, .int r20), (0, .ref (ez_B X + 9)), (1, .int e), (2, .int n), (3, .int within), (4, .int k)] dX5_parts_37 (ez_lt hnL rfl) rfl ?_
          refine ez_iload hX 0 dX5_parts_39 rfl ?_
          refine ez_if_ge hX 46 dX5_parts_41 (by decide) (fun c23 => ?_) (fun c23 => ?_)
          · -- c23 jump
            refine ez_aload_n hX 1 dX5_parts_46 rfl ?_
            refine ez_getr hX kc_9 rfl (Nat.le_of_ble_eq_true rfl) lc_9 (Nat.le_of_ble_eq_true rfl) inX5 1 rfl rc_9_3 wf_X5_15 dX5_parts_47 ?_
            refine ez_iload_n hX 2 dX5_parts_50 rfl ?_
            refine ez_iload hX 5 dX5_parts_51 rfl ?_
            refine ez_iload hX 0 dX5_parts_53 rfl ?_
            refine ez_callV hX (N0 := 0) (As := [.int e, .int k, .int r20]) (st := []) kc_1 (Nat.le_of_ble_eq_true rfl) lc_1 rfl (ec_X2_link _ _ _ M21 e k r20) (Or.inl rfl) wm_X5_81 wv_X2_link we_X2_link wy_X2_link rfl wd_X2_link wi_X2 (ez_rok3 hRm (by omega)) (Nat.le_of_ble_eq_true rfl) dX5_parts_55 ?_
            refine ez_nmM (fun M24 eM24 => ?_)
            refine ez_iinc hX (k + (1 : Int32)) 5 [(4, .int (k + (1 : Int32))), (5, .int r20), (0, .ref (ez_B X + 9)), (1, .int e), (2, .int n), (3, .int within)] dX5_parts_58 rfl rfl (ez_lt hnL rfl) rfl ?_
            refine ez_goto hX 3 dX5_parts_61 (by decide) ?_
            refine ez_lv [2, 3, 4, 5, 0] rfl ?_
            exact ih M24 e n (k + (1 : Int32)) (ez_cnts' hc c1) (Eq.trans (by simp only [et_X5_parts_3, if_neg c1, if_pos c6, eM17, if_neg c19, eM21, if_pos c23, eM24]) hT)
          · -- c23 on
            refine ez_iconst hX (-1 : Int32) dX5_parts_44 (by decide) ?_
            have ht : t0 = ((-1 : Int32), M21) := hT.symm.trans (by simp only [et_X5_parts_3, if_neg c1, if_pos c6, eM17, if_neg c19, eM21, if_neg c23])
            subst ht
            exact ez_iret hX hQ dX5_parts_45 rfl rfl
set_option maxHeartbeats 4000000 in
set_option maxRecDepth 100000 in
theorem ec_X5_parts (l : Launch) (D : em_G) (B : Nat) (M : em_M) (e : Int32) (n : Int32) (within : Int32) (E : em_M → Int32 → Int32 × em_M) (fr lo : Nat) (hE : ∀ M : em_M, em_C l D B yX5_expression cX5_expression 5 (some .int) fr lo 0 0 false [.ref (B + 9), .int within] 132 em_R M (some (.int (E M within).1)) 132 em_R (E M within).2) : em_C l D B yX5_parts cX5_parts 6 (some .int) (fr + 4) (lo + 100) 0 0 false [.ref (B + 9), .int e, .int n, .int within] 132 em_R M (some (.int (et_X5_parts E M e n within).1)) 132 em_R ((et_X5_parts E M e n within).2) := by
  refine em_C_of RX5 [(0, .ref (B + 9)), (1, .int e), (2, .int n), (3, .int within)] (by decide) rfl rfl (Nat.le_of_ble_eq_true rfl) ?_
  rintro X rfl rfl rfl hRm hnL hnm hsz hX hQ
  obtain ⟨t0, hT⟩ : ∃ tz, et_X5_parts E M e n within = tz := ⟨_, rfl⟩
  rw [hT] at hQ
  refine ez_iconst hX (0 : Int32) dX5_parts_0 (by decide) ?_
  refine ez_istore hX [(4, .int (0 : Int32)), (0, .ref (ez_B X + 9)), (1, .int e), (2, .int n), (3, .int within)] dX5_parts_1 (ez_lt hnL rfl) rfl ?_
  refine ez_lv [1, 2, 3, 4, 0] rfl ?_
  exact el_X5_parts_3 X within E fr lo hE t0 hRm hnL hX hQ (n.toNatClampNeg + 1) M e n (0 : Int32) (ez_cnt0 _) (Eq.trans (by simp only [et_X5_parts]) hT)

def et_X5_list_15_5 (E : em_M → Int32 → Int32 × em_M) (within : Int32) (M : em_M) (x2 : Int32) (x3 : Int32) : Int32 × em_M :=
  let q74 := E M within
  let r72 := q74.1
  let M73 := q74.2
  (if 0 ≤ r72 then let M76 := et_X2_link M73 x3 (0 : Int32) r72
  let q79 := et_X5_passed M76 (93 : Int32)
  let r77 := q79.1
  let M78 := q79.2
  (if r77 = 0 then ((-1 : Int32), M78) else (x2, M78)) else ((-1 : Int32), M73))
def et_X5_list_15_4 (E : em_M → Int32 → Int32 × em_M) (within : Int32) (M : em_M) (x2 : Int32) (x3 : Int32) : Int32 × em_M :=
  let q57 := E M within
  let r55 := q57.1
  let M56 := q57.2
  (if 0 ≤ r55 then let M59 := et_X2_link M56 x3 (0 : Int32) r55
  let q62 := et_X5_passed M59 (93 : Int32)
  let r60 := q62.1
  let M61 := q62.2
  (if r60 = 0 then let q66 := et_X5_passed M61 (44 : Int32)
  let r64 := q66.1
  let M65 := q66.2
  (if r64 = 0 then ((-1 : Int32), M65) else let q70 := et_X2_add M65 (14 : Int32) (0 : Int32)
  let r68 := q70.1
  let M69 := q70.2
  let M71 := et_X2_link M69 x3 (1 : Int32) r68
  et_X5_list_15_5 E within M71 x2 r68) else (x2, M61)) else ((-1 : Int32), M56))
def et_X5_list_15_3 (E : em_M → Int32 → Int32 × em_M) (within : Int32) (M : em_M) (x2 : Int32) (x3 : Int32) : Int32 × em_M :=
  let q40 := E M within
  let r38 := q40.1
  let M39 := q40.2
  (if 0 ≤ r38 then let M42 := et_X2_link M39 x3 (0 : Int32) r38
  let q45 := et_X5_passed M42 (93 : Int32)
  let r43 := q45.1
  let M44 := q45.2
  (if r43 = 0 then let q49 := et_X5_passed M44 (44 : Int32)
  let r47 := q49.1
  let M48 := q49.2
  (if r47 = 0 then ((-1 : Int32), M48) else let q53 := et_X2_add M48 (14 : Int32) (0 : Int32)
  let r51 := q53.1
  let M52 := q53.2
  let M54 := et_X2_link M52 x3 (1 : Int32) r51
  et_X5_list_15_4 E within M54 x2 r51) else (x2, M44)) else ((-1 : Int32), M39))
def et_X5_list_15_2 (E : em_M → Int32 → Int32 × em_M) (within : Int32) (M : em_M) (x2 : Int32) (x3 : Int32) : Int32 × em_M :=
  let q23 := E M within
  let r21 := q23.1
  let M22 := q23.2
  (if 0 ≤ r21 then let M25 := et_X2_link M22 x3 (0 : Int32) r21
  let q28 := et_X5_passed M25 (93 : Int32)
  let r26 := q28.1
  let M27 := q28.2
  (if r26 = 0 then let q32 := et_X5_passed M27 (44 : Int32)
  let r30 := q32.1
  let M31 := q32.2
  (if r30 = 0 then ((-1 : Int32), M31) else let q36 := et_X2_add M31 (14 : Int32) (0 : Int32)
  let r34 := q36.1
  let M35 := q36.2
  let M37 := et_X2_link M35 x3 (1 : Int32) r34
  et_X5_list_15_3 E within M37 x2 r34) else (x2, M27)) else ((-1 : Int32), M22))
def et_X5_list_15_1 (E : em_M → Int32 → Int32 × em_M) (within : Int32) (M : em_M) (x2 : Int32) (x3 : Int32) : Int32 × em_M :=
  let q6 := E M within
  let r4 := q6.1
  let M5 := q6.2
  (if 0 ≤ r4 then let M8 := et_X2_link M5 x3 (0 : Int32) r4
  let q11 := et_X5_passed M8 (93 : Int32)
  let r9 := q11.1
  let M10 := q11.2
  (if r9 = 0 then let q15 := et_X5_passed M10 (44 : Int32)
  let r13 := q15.1
  let M14 := q15.2
  (if r13 = 0 then ((-1 : Int32), M14) else let q19 := et_X2_add M14 (14 : Int32) (0 : Int32)
  let r17 := q19.1
  let M18 := q19.2
  let M20 := et_X2_link M18 x3 (1 : Int32) r17
  et_X5_list_15_2 E within M20 x2 r17) else (x2, M10)) else ((-1 : Int32), M5))
def et_X5_list (E : em_M → Int32 → Int32 × em_M) (M : em_M) (within : Int32) : Int32 × em_M :=
  let q3 := et_X2_add M (3 : Int32) (0 : Int32)
  let r1 := q3.1
  let M2 := q3.2
  et_X5_list_15_1 E within M2 r1 r1
set_option maxHeartbeats 4000000 in
set_option maxRecDepth 100000 in
theorem el_X5_list_15_5 (X : em_X)  (within : Int32) (E : em_M → Int32 → Int32 × em_M) (fr lo : Nat) (hE : ∀ M : em_M, em_C (ez_l X) (ez_D X) (ez_B X) yX5_expression cX5_expression 5 (some .int) fr lo 0 0 false [.ref ((ez_B X) + 9), .int within] 132 em_R M (some (.int (E M within).1)) 132 em_R (E M within).2) (t0 : Int32 × em_M) (hRm : ez_rm X = { frames := (fr + 4), cells := 0, slots := 0, locals := (lo + 100) }) (hnL : ez_nL X = 7) (hX : ez_ok X cX5_list RX5) (M : em_M) (x2 : Int32) (x3 : Int32)  (hQ : ez_ret X (some .int) (some (.int t0.1)) 132 em_R (t0.2) 0 0) (hT : et_X5_list_15_5 E within M x2 x3 = t0) : ez_Z X 132 em_R M 0 0 15 [(0, .ref (ez_B X + 9)), (1, .int within), (2, .int x2), (3, .int x3), (4, .int (5 : Int32))] [] := by
  refine ez_iload hX 4 dX5_list_15 rfl ?_
  refine ez_iconst hX (5 : Int32) dX5_list_17 (by decide) ?_
  refine ez_icmp_gt hX 106 dX5_list_18 (by decide) (fun c => absurd c (by decide)) (fun _ => ?_)
  refine ez_aload_n hX 0 dX5_list_21 rfl ?_
  refine ez_iload_n hX 1 dX5_list_22 rfl ?_
  refine ez_callV hX (N0 := 0) (As := [.int within]) (st := []) kc_9 (Nat.le_of_ble_eq_true rfl) lc_9 rfl (hE M) (Or.inl rfl) wm_X5_35 wv_X5_expression we_X5_expression wy_X5_expression rfl wd_X5_expression wi_X5 (ez_rok3 hRm (by omega)) (Nat.le_of_ble_eq_true rfl) dX5_list_23 ?_
  refine ez_nmIM (fun r72 M73 eM73 => ?_)
  refine ez_istore hX [(5, .int r72), (0, .ref (ez_B X + 9)), (1, .int within), (2, .int x2), (3, .int x3), (4, .int (5 : Int32))] dX5_list_26 (ez_lt hnL rfl) rfl ?_
  refine ez_iload hX 0 dX5_list_28 rfl ?_
  refine ez_if_ge hX 35 dX5_list_30 (by decide) (fun c75 => ?_) (fun c75 => ?_)
  · -- c75 jump
    refine ez_aload_n hX 1 dX5_list_35 rfl ?_
    refine ez_getr hX kc_9 rfl (Nat.le_of_ble_eq_true rfl) lc_9 (Nat.le_of_ble_eq_true rfl) inX5 1 rfl rc_9_3 wf_X5_15 dX5_list_36 ?_
    refine ez_iload_n hX 4 dX5_list_39 rfl ?_
    refine ez_iconst hX (0 : Int32) dX5_list_40 (by decide) ?_
    refine ez_iload hX 0 dX5_list_41 rfl ?_
    refine ez_callV hX (N0 := 0) (As := [.int x3, .int (0 : Int32), .int r72]) (st := []) kc_1 (Nat.le_of_ble_eq_true rfl) lc_1 rfl (ec_X2_link _ _ _ M73 x3 (0 : Int32) r72) (Or.inl rfl) wm_X5_81 wv_X2_link we_X2_link wy_X2_link rfl wd_X2_link wi_X2 (ez_rok3 hRm (by omega)) (Nat.le_of_ble_eq_true rfl) dX5_list_43 ?_
    refine ez_nmM (fun M76 eM76 => ?_)
    refine ez_aload_n hX 1 dX5_list_46 rfl ?_
    refine ez_bipush hX (93 : Int32) dX5_list_47 (by decide) ?_
    refine ez_callV hX (N0 := 0) (As := [.int (93 : Int32)]) (st := []) kc_9 (Nat.le_of_ble_eq_true rfl) lc_9 rfl (ec_X5_passed _ _ _ M76 (93 : Int32)) (Or.inl rfl) wm_X5_77 wv_X5_passed we_X5_passed wy_X5_passed rfl wd_X5_passed wi_X5 (ez_rok3 hRm (by omega)) (Nat.le_of_ble_eq_true rfl) dX5_list_49 ?_
    refine ez_nmIM (fun r77 M78 eM78 => ?_)
    refine ez_if_eq hX 57 dX5_list_52 (by decide) (fun c80 => ?_) (fun c80 => ?_)
    · -- c80 jump
      refine ez_iload hX 5 dX5_list_57 rfl ?_
      refine ez_iconst hX (5 : Int32) dX5_list_59 (by decide) ?_
      refine ez_icmp_eq hX 72 dX5_list_60 (by decide) (fun _ => ?_) (fun c => absurd c (by decide))
      refine ez_iconst hX (-1 : Int32) dX5_list_72 (by decide) ?_
      have ht : t0 = ((-1 : Int32), M78) := hT.symm.trans (by simp only [et_X5_list_15_5, eM73, if_pos c75, eM76, eM78, if_pos c80])
      subst ht
      exact ez_iret hX hQ dX5_list_73 rfl rfl
    · -- c80 on
      refine ez_iload_n hX 3 dX5_list_55 rfl ?_
      have ht : t0 = (x2, M78) := hT.symm.trans (by simp only [et_X5_list_15_5, eM73, if_pos c75, eM76, eM78, if_neg c80])
      subst ht
      exact ez_iret hX hQ dX5_list_56 rfl rfl
  · -- c75 on
    refine ez_iconst hX (-1 : Int32) dX5_list_33 (by decide) ?_
    have ht : t0 = ((-1 : Int32), M73) := hT.symm.trans (by simp only [et_X5_list_15_5, eM73, if_neg c75])
    subst ht
    exact ez_iret hX hQ dX5_list_34 rfl rfl
set_option maxHeartbeats 4000000 in
set_option maxRecDepth 100000 in
theorem el_X5_list_15_4 (X : em_X)  (within : Int32) (E : em_M → Int32 → Int32 × em_M) (fr lo : Nat) (hE : ∀ M : em_M, em_C (ez_l X) (ez_D X) (ez_B X) yX5_expression cX5_expression 5 (some .int) fr lo 0 0 false [.ref ((ez_B X) + 9), .int within] 132 em_R M (some (.int (E M within).1)) 132 em_R (E M within).2) (t0 : Int32 × em_M) (hRm : ez_rm X = { frames := (fr + 4), cells := 0, slots := 0, locals := (lo + 100) }) (hnL : ez_nL X = 7) (hX : ez_ok X cX5_list RX5) (M : em_M) (x2 : Int32) (x3 : Int32)  (hQ : ez_ret X (some .int) (some (.int t0.1)) 132 em_R (t0.2) 0 0) (hT : et_X5_list_15_4 E within M x2 x3 = t0) : ez_Z X 132 em_R M 0 0 15 [(0, .ref (ez_B X + 9)), (1, .int within), (2, .int x2), (3, .int x3), (4, .int (4 : Int32))] [] := by
  refine ez_iload hX 4 dX5_list_15 rfl ?_
  refine ez_iconst hX (5 : Int32) dX5_list_17 (by decide) ?_
  refine ez_icmp_gt hX 106 dX5_list_18 (by decide) (fun c => absurd c (by decide)) (fun _ => ?_)
  refine ez_aload_n hX 0 dX5_list_21 rfl ?_
  refine ez_iload_n hX 1 dX5_list_22 rfl ?_
  refine ez_callV hX (N0 := 0) (As := [.int within]) (st := []) kc_9 (Nat.le_of_ble_eq_true rfl) lc_9 rfl (hE M) (Or.inl rfl) wm_X5_35 wv_X5_expression we_X5_expression wy_X5_expression rfl wd_X5_expression wi_X5 (ez_rok3 hRm (by omega)) (Nat.le_of_ble_eq_true rfl) dX5_list_23 ?_
  refine ez_nmIM (fun r55 M56 eM56 => ?_)
  refine ez_istore hX [(5, .int r55), (0, .ref (ez_B X + 9)), (1, .int within), (2, .int x2), (3, .int x3), (4, .int (4 : Int32))] dX5_list_26 (ez_lt hnL rfl) rfl ?_
  refine ez_iload hX 0 dX5_list_28 rfl ?_
  refine ez_if_ge hX 35 dX5_list_30 (by decide) (fun c58 => ?_) (fun c58 => ?_)
  · -- c58 jump
    refine ez_aload_n hX 1 dX5_list_35 rfl ?_
    refine ez_getr hX kc_9 rfl (Nat.le_of_ble_eq_true rfl) lc_9 (Nat.le_of_ble_eq_true rfl) inX5 1 rfl rc_9_3 wf_X5_15 dX5_list_36 ?_
    refine ez_iload_n hX 4 dX5_list_39 rfl ?_
    refine ez_iconst hX (0 : Int32) dX5_list_40 (by decide) ?_
    refine ez_iload hX 0 dX5_list_41 rfl ?_
    refine ez_callV hX (N0 := 0) (As := [.int x3, .int (0 : Int32), .int r55]) (st := []) kc_1 (Nat.le_of_ble_eq_true rfl) lc_1 rfl (ec_X2_link _ _ _ M56 x3 (0 : Int32) r55) (Or.inl rfl) wm_X5_81 wv_X2_link we_X2_link wy_X2_link rfl wd_X2_link wi_X2 (ez_rok3 hRm (by omega)) (Nat.le_of_ble_eq_true rfl) dX5_list_43 ?_
    refine ez_nmM (fun M59 eM59 => ?_)
    refine ez_aload_n hX 1 dX5_list_46 rfl ?_
    refine ez_bipush hX (93 : Int32) dX5_list_47 (by decide) ?_
    refine ez_callV hX (N0 := 0) (As := [.int (93 : Int32)]) (st := []) kc_9 (Nat.le_of_ble_eq_true rfl) lc_9 rfl (ec_X5_passed _ _ _ M59 (93 : Int32)) (Or.inl rfl) wm_X5_77 wv_X5_passed we_X5_passed wy_X5_passed rfl wd_X5_passed wi_X5 (ez_rok3 hRm (by omega)) (Nat.le_of_ble_eq_true rfl) dX5_list_49 ?_
    refine ez_nmIM (fun r60 M61 eM61 => ?_)
    refine ez_if_eq hX 57 dX5_list_52 (by decide) (fun c63 => ?_) (fun c63 => ?_)
    · -- c63 jump
      refine ez_iload hX 5 dX5_list_57 rfl ?_
      refine ez_iconst hX (5 : Int32) dX5_list_59 (by decide) ?_
      refine ez_icmp_eq hX 72 dX5_list_60 (by decide) (fun c => absurd c (by decide)) (fun _ => ?_)
      refine ez_aload_n hX 1 dX5_list_63 rfl ?_
      refine ez_bipush hX (44 : Int32) dX5_list_64 (by decide) ?_
      refine ez_callV hX (N0 := 0) (As := [.int (44 : Int32)]) (st := []) kc_9 (Nat.le_of_ble_eq_true rfl) lc_9 rfl (ec_X5_passed _ _ _ M61 (44 : Int32)) (Or.inl rfl) wm_X5_77 wv_X5_passed we_X5_passed wy_X5_passed rfl wd_X5_passed wi_X5 (ez_rok3 hRm (by omega)) (Nat.le_of_ble_eq_true rfl) dX5_list_66 ?_
      refine ez_nmIM (fun r64 M65 eM65 => ?_)
      refine ez_if_ne hX 74 dX5_list_69 (by decide) (fun c67 => ?_) (fun c67 => ?_)
      · -- c67 jump
        refine ez_aload_n hX 1 dX5_list_74 rfl ?_
        refine ez_getr hX kc_9 rfl (Nat.le_of_ble_eq_true rfl) lc_9 (Nat.le_of_ble_eq_true rfl) inX5 1 rfl rc_9_3 wf_X5_15 dX5_list_75 ?_
        refine ez_bipush hX (14 : Int32) dX5_list_78 (by decide) ?_
        refine ez_iconst hX (0 : Int32) dX5_list_80 (by decide) ?_
        refine ez_callV hX (N0 := 0) (As := [.int (14 : Int32), .int (0 : Int32)]) (st := []) kc_1 (Nat.le_of_ble_eq_true rfl) lc_1 rfl (ec_X2_add _ _ _ M65 (14 : Int32) (0 : Int32)) (Or.inl rfl) wm_X5_60 wv_X2_add we_X2_add wy_X2_add rfl wd_X2_add wi_X2 (ez_rok3 hRm (by omega)) (Nat.le_of_ble_eq_true rfl) dX5_list_81 ?_
        refine ez_nmIM (fun r68 M69 eM69 => ?_)
        refine ez_istore hX [(6, .int r68), (5, .int r55), (0, .ref (ez_B X + 9)), (1, .int within), (2, .int x2), (3, .int x3), (4, .int (4 : Int32))] dX5_list_84 (ez_lt hnL rfl) rfl ?_
        refine ez_aload_n hX 2 dX5_list_86 rfl ?_
        refine ez_getr hX kc_9 rfl (Nat.le_of_ble_eq_true rfl) lc_9 (Nat.le_of_ble_eq_true rfl) inX5 1 rfl rc_9_3 wf_X5_15 dX5_list_87 ?_
        refine ez_iload_n hX 5 dX5_list_90 rfl ?_
        refine ez_iconst hX (1 : Int32) dX5_list_91 (by decide) ?_
        refine ez_iload hX 0 dX5_list_92 rfl ?_
        refine ez_callV hX (N0 := 0) (As := [.int x3, .int (1 : Int32), .int r68]) (st := []) kc_1 (Nat.le_of_ble_eq_true rfl) lc_1 rfl (ec_X2_link _ _ _ M69 x3 (1 : Int32) r68) (Or.inl rfl) wm_X5_81 wv_X2_link we_X2_link wy_X2_link rfl wd_X2_link wi_X2 (ez_rok3 hRm (by omega)) (Nat.le_of_ble_eq_true rfl) dX5_list_94 ?_
        refine ez_nmM (fun M71 eM71 => ?_)
        refine ez_iload hX 0 dX5_list_97 rfl ?_
        refine ez_istore_n hX [(3, .int r68), (6, .int r68), (5, .int r55), (0, .ref (ez_B X + 9)), (1, .int within), (2, .int x2), (4, .int (4 : Int32))] dX5_list_99 (ez_lt hnL rfl) rfl ?_
        refine ez_iinc hX (5 : Int32) 6 [(4, .int (5 : Int32)), (3, .int r68), (6, .int r68), (5, .int r55), (0, .ref (ez_B X + 9)), (1, .int within), (2, .int x2)] dX5_list_100 rfl (by decide) (ez_lt hnL rfl) rfl ?_
        refine ez_goto hX 15 dX5_list_103 (by decide) ?_
        refine ez_lv [4, 5, 6, 1, 0] rfl ?_
        exact el_X5_list_15_5 X within E fr lo hE t0 hRm hnL hX M71 x2 r68 hQ (Eq.trans (by simp only [et_X5_list_15_4, eM56, if_pos c58, eM59, eM61, if_pos c63, eM65, if_neg c67, eM69, eM71]) hT)
      · -- c67 on
        refine ez_iconst hX (-1 : Int32) dX5_list_72 (by decide) ?_
        have ht : t0 = ((-1 : Int32), M65) := hT.symm.trans (by simp only [et_X5_list_15_4, eM56, if_pos c58, eM59, eM61, if_pos c63, eM65, if_pos c67])
        subst ht
        exact ez_iret hX hQ dX5_list_73 rfl rfl
    · -- c63 on
      refine ez_iload_n hX 3 dX5_list_55 rfl ?_
      have ht : t0 = (x2, M61) := hT.symm.trans (by simp only [et_X5_list_15_4, eM56, if_pos c58, eM59, eM61, if_neg c63])
      subst ht
      exact ez_iret hX hQ dX5_list_56 rfl rfl
  · -- c58 on
    refine ez_iconst hX (-1 : Int32) dX5_list_33 (by decide) ?_
    have ht : t0 = ((-1 : Int32), M56) := hT.symm.trans (by simp only [et_X5_list_15_4, eM56, if_neg c58])
    subst ht
    exact ez_iret hX hQ dX5_list_34 rfl rfl
set_option maxHeartbeats 4000000 in
set_option maxRecDepth 100000 in
theorem el_X5_list_15_3 (X : em_X)  (within : Int32) (E : em_M → Int32 → Int32 × em_M) (fr lo : Nat) (hE : ∀ M : em_M, em_C (ez_l X) (ez_D X) (ez_B X) yX5_expression cX5_expression 5 (some .int) fr lo 0 0 false [.ref ((ez_B X) + 9), .int within] 132 em_R M (some (.int (E M within).1)) 132 em_R (E M within).2) (t0 : Int32 × em_M) (hRm : ez_rm X = { frames := (fr + 4), cells := 0, slots := 0, locals := (lo + 100) }) (hnL : ez_nL X = 7) (hX : ez_ok X cX5_list RX5) (M : em_M) (x2 : Int32) (x3 : Int32)  (hQ : ez_ret X (some .int) (some (.int t0.1)) 132 em_R (t0.2) 0 0) (hT : et_X5_list_15_3 E within M x2 x3 = t0) : ez_Z X 132 em_R M 0 0 15 [(0, .ref (ez_B X + 9)), (1, .int within), (2, .int x2), (3, .int x3), (4, .int (3 : Int32))] [] := by
  refine ez_iload hX 4 dX5_list_15 rfl ?_
  refine ez_iconst hX (5 : Int32) dX5_list_17 (by decide) ?_
  refine ez_icmp_gt hX 106 dX5_list_18 (by decide) (fun c => absurd c (by decide)) (fun _ => ?_)
  refine ez_aload_n hX 0 dX5_list_21 rfl ?_
  refine ez_iload_n hX 1 dX5_list_22 rfl ?_
  refine ez_callV hX (N0 := 0) (As := [.int within]) (st := []) kc_9 (Nat.le_of_ble_eq_true rfl) lc_9 rfl (hE M) (Or.inl rfl) wm_X5_35 wv_X5_expression we_X5_expression wy_X5_expression rfl wd_X5_expression wi_X5 (ez_rok3 hRm (by omega)) (Nat.le_of_ble_eq_true rfl) dX5_list_23 ?_
  refine ez_nmIM (fun r38 M39 eM39 => ?_)
  refine ez_istore hX [(5, .int r38), (0, .ref (ez_B X + 9)), (1, .int within), (2, .int x2), (3, .int x3), (4, .int (3 : Int32))] dX5_list_26 (ez_lt hnL rfl) rfl ?_
  refine ez_iload hX 0 dX5_list_28 rfl ?_
  refine ez_if_ge hX 35 dX5_list_30 (by decide) (fun c41 => ?_) (fun c41 => ?_)
  · -- c41 jump
    refine ez_aload_n hX 1 dX5_list_35 rfl ?_
    refine ez_getr hX kc_9 rfl (Nat.le_of_ble_eq_true rfl) lc_9 (Nat.le_of_ble_eq_true rfl) inX5 1 rfl rc_9_3 wf_X5_15 dX5_list_36 ?_
    refine ez_iload_n hX 4 dX5_list_39 rfl ?_
    refine ez_iconst hX (0 : Int32) dX5_list_40 (by decide) ?_
    refine ez_iload hX 0 dX5_list_41 rfl ?_
    refine ez_callV hX (N0 := 0) (As := [.int x3, .int (0 : Int32), .int r38]) (st := []) kc_1 (Nat.le_of_ble_eq_true rfl) lc_1 rfl (ec_X2_link _ _ _ M39 x3 (0 : Int32) r38) (Or.inl rfl) wm_X5_81 wv_X2_link we_X2_link wy_X2_link rfl wd_X2_link wi_X2 (ez_rok3 hRm (by omega)) (Nat.le_of_ble_eq_true rfl) dX5_list_43 ?_
    refine ez_nmM (fun M42 eM42 => ?_)
    refine ez_aload_n hX 1 dX5_list_46 rfl ?_
    refine ez_bipush hX (93 : Int32) dX5_list_47 (by decide) ?_
    refine ez_callV hX (N0 := 0) (As := [.int (93 : Int32)]) (st := []) kc_9 (Nat.le_of_ble_eq_true rfl) lc_9 rfl (ec_X5_passed _ _ _ M42 (93 : Int32)) (Or.inl rfl) wm_X5_77 wv_X5_passed we_X5_passed wy_X5_passed rfl wd_X5_passed wi_X5 (ez_rok3 hRm (by omega)) (Nat.le_of_ble_eq_true rfl) dX5_list_49 ?_
    refine ez_nmIM (fun r43 M44 eM44 => ?_)
    refine ez_if_eq hX 57 dX5_list_52 (by decide) (fun c46 => ?_) (fun c46 => ?_)
    · -- c46 jump
      refine ez_iload hX 5 dX5_list_57 rfl ?_
      refine ez_iconst hX (5 : Int32) dX5_list_59 (by decide) ?_
      refine ez_icmp_eq hX 72 dX5_list_60 (by decide) (fun c => absurd c (by decide)) (fun _ => ?_)
      refine ez_aload_n hX 1 dX5_list_63 rfl ?_
      refine ez_bipush hX (44 : Int32) dX5_list_64 (by decide) ?_
      refine ez_callV hX (N0 := 0) (As := [.int (44 : Int32)]) (st := []) kc_9 (Nat.le_of_ble_eq_true rfl) lc_9 rfl (ec_X5_passed _ _ _ M44 (44 : Int32)) (Or.inl rfl) wm_X5_77 wv_X5_passed we_X5_passed wy_X5_passed rfl wd_X5_passed wi_X5 (ez_rok3 hRm (by omega)) (Nat.le_of_ble_eq_true rfl) dX5_list_66 ?_
      refine ez_nmIM (fun r47 M48 eM48 => ?_)
      refine ez_if_ne hX 74 dX5_list_69 (by decide) (fun c50 => ?_) (fun c50 => ?_)
      · -- c50 jump
        refine ez_aload_n hX 1 dX5_list_74 rfl ?_
        refine ez_getr hX kc_9 rfl (Nat.le_of_ble_eq_true rfl) lc_9 (Nat.le_of_ble_eq_true rfl) inX5 1 rfl rc_9_3 wf_X5_15 dX5_list_75 ?_
        refine ez_bipush hX (14 : Int32) dX5_list_78 (by decide) ?_
        refine ez_iconst hX (0 : Int32) dX5_list_80 (by decide) ?_
        refine ez_callV hX (N0 := 0) (As := [.int (14 : Int32), .int (0 : Int32)]) (st := []) kc_1 (Nat.le_of_ble_eq_true rfl) lc_1 rfl (ec_X2_add _ _ _ M48 (14 : Int32) (0 : Int32)) (Or.inl rfl) wm_X5_60 wv_X2_add we_X2_add wy_X2_add rfl wd_X2_add wi_X2 (ez_rok3 hRm (by omega)) (Nat.le_of_ble_eq_true rfl) dX5_list_81 ?_
        refine ez_nmIM (fun r51 M52 eM52 => ?_)
        refine ez_istore hX [(6, .int r51), (5, .int r38), (0, .ref (ez_B X + 9)), (1, .int within), (2, .int x2), (3, .int x3), (4, .int (3 : Int32))] dX5_list_84 (ez_lt hnL rfl) rfl ?_
        refine ez_aload_n hX 2 dX5_list_86 rfl ?_
        refine ez_getr hX kc_9 rfl (Nat.le_of_ble_eq_true rfl) lc_9 (Nat.le_of_ble_eq_true rfl) inX5 1 rfl rc_9_3 wf_X5_15 dX5_list_87 ?_
        refine ez_iload_n hX 5 dX5_list_90 rfl ?_
        refine ez_iconst hX (1 : Int32) dX5_list_91 (by decide) ?_
        refine ez_iload hX 0 dX5_list_92 rfl ?_
        refine ez_callV hX (N0 := 0) (As := [.int x3, .int (1 : Int32), .int r51]) (st := []) kc_1 (Nat.le_of_ble_eq_true rfl) lc_1 rfl (ec_X2_link _ _ _ M52 x3 (1 : Int32) r51) (Or.inl rfl) wm_X5_81 wv_X2_link we_X2_link wy_X2_link rfl wd_X2_link wi_X2 (ez_rok3 hRm (by omega)) (Nat.le_of_ble_eq_true rfl) dX5_list_94 ?_
        refine ez_nmM (fun M54 eM54 => ?_)
        refine ez_iload hX 0 dX5_list_97 rfl ?_
        refine ez_istore_n hX [(3, .int r51), (6, .int r51), (5, .int r38), (0, .ref (ez_B X + 9)), (1, .int within), (2, .int x2), (4, .int (3 : Int32))] dX5_list_99 (ez_lt hnL rfl) rfl ?_
        refine ez_iinc hX (4 : Int32) 6 [(4, .int (4 : Int32)), (3, .int r51), (6, .int r51), (5, .int r38), (0, .ref (ez_B X + 9)), (1, .int within), (2, .int x2)] dX5_list_100 rfl (by decide) (ez_lt hnL rfl) rfl ?_
        refine ez_goto hX 15 dX5_list_103 (by decide) ?_
        refine ez_lv [4, 5, 6, 1, 0] rfl ?_
        exact el_X5_list_15_4 X within E fr lo hE t0 hRm hnL hX M54 x2 r51 hQ (Eq.trans (by simp only [et_X5_list_15_3, eM39, if_pos c41, eM42, eM44, if_pos c46, eM48, if_neg c50, eM52, eM54]) hT)
      · -- c50 on
        refine ez_iconst hX (-1 : Int32) dX5_list_72 (by decide) ?_
        have ht : t0 = ((-1 : Int32), M48) := hT.symm.trans (by simp only [et_X5_list_15_3, eM39, if_pos c41, eM42, eM44, if_pos c46, eM48, if_pos c50])
        subst ht
        exact ez_iret hX hQ dX5_list_73 rfl rfl
    · -- c46 on
      refine ez_iload_n hX 3 dX5_list_55 rfl ?_
      have ht : t0 = (x2, M44) := hT.symm.trans (by simp only [et_X5_list_15_3, eM39, if_pos c41, eM42, eM44, if_neg c46])
      subst ht
      exact ez_iret hX hQ dX5_list_56 rfl rfl
  · -- c41 on
    refine ez_iconst hX (-1 : Int32) dX5_list_33 (by decide) ?_
    have ht : t0 = ((-1 : Int32), M39) := hT.symm.trans (by simp only [et_X5_list_15_3, eM39, if_neg c41])
    subst ht
    exact ez_iret hX hQ dX5_list_34 rfl rfl
set_option maxHeartbeats 4000000 in
set_option maxRecDepth 100000 in
theorem el_X5_list_15_2 (X : em_X)  (within : Int32) (E : em_M → Int32 → Int32 × em_M) (fr lo : Nat) (hE : ∀ M : em_M, em_C (ez_l X) (ez_D X) (ez_B X) yX5_expression cX5_expression 5 (some .int) fr lo 0 0 false [.ref ((ez_B X) + 9), .int within] 132 em_R M (some (.int (E M within).1)) 132 em_R (E M within).2) (t0 : Int32 × em_M) (hRm : ez_rm X = { frames := (fr + 4), cells := 0, slots := 0, locals := (lo + 100) }) (hnL : ez_nL X = 7) (hX : ez_ok X cX5_list RX5) (M : em_M) (x2 : Int32) (x3 : Int32)  (hQ : ez_ret X (some .int) (some (.int t0.1)) 132 em_R (t0.2) 0 0) (hT : et_X5_list_15_2 E within M x2 x3 = t0) : ez_Z X 132 em_R M 0 0 15 [(0, .ref (ez_B X + 9)), (1, .int within), (2, .int x2), (3, .int x3), (4, .int (2 : Int32))] [] := by
  refine ez_iload hX 4 dX5_list_15 rfl ?_
  refine ez_iconst hX (5 : Int32) dX5_list_17 (by decide) ?_
  refine ez_icmp_gt hX 106 dX5_list_18 (by decide) (fun c => absurd c (by decide)) (fun _ => ?_)
  refine ez_aload_n hX 0 dX5_list_21 rfl ?_
  refine ez_iload_n hX 1 dX5_list_22 rfl ?_
  refine ez_callV hX (N0 := 0) (As := [.int within]) (st := []) kc_9 (Nat.le_of_ble_eq_true rfl) lc_9 rfl (hE M) (Or.inl rfl) wm_X5_35 wv_X5_expression we_X5_expression wy_X5_expression rfl wd_X5_expression wi_X5 (ez_rok3 hRm (by omega)) (Nat.le_of_ble_eq_true rfl) dX5_list_23 ?_
  refine ez_nmIM (fun r21 M22 eM22 => ?_)
  refine ez_istore hX [(5, .int r21), (0, .ref (ez_B X + 9)), (1, .int within), (2, .int x2), (3, .int x3), (4, .int (2 : Int32))] dX5_list_26 (ez_lt hnL rfl) rfl ?_
  refine ez_iload hX 0 dX5_list_28 rfl ?_
  refine ez_if_ge hX 35 dX5_list_30 (by decide) (fun c24 => ?_) (fun c24 => ?_)
  · -- c24 jump
    refine ez_aload_n hX 1 dX5_list_35 rfl ?_
    refine ez_getr hX kc_9 rfl (Nat.le_of_ble_eq_true rfl) lc_9 (Nat.le_of_ble_eq_true rfl) inX5 1 rfl rc_9_3 wf_X5_15 dX5_list_36 ?_
    refine ez_iload_n hX 4 dX5_list_39 rfl ?_
    refine ez_iconst hX (0 : Int32) dX5_list_40 (by decide) ?_
    refine ez_iload hX 0 dX5_list_41 rfl ?_
    refine ez_callV hX (N0 := 0) (As := [.int x3, .int (0 : Int32), .int r21]) (st := []) kc_1 (Nat.le_of_ble_eq_true rfl) lc_1 rfl (ec_X2_link _ _ _ M22 x3 (0 : Int32) r21) (Or.inl rfl) wm_X5_81 wv_X2_link we_X2_link wy_X2_link rfl wd_X2_link wi_X2 (ez_rok3 hRm (by omega)) (Nat.le_of_ble_eq_true rfl) dX5_list_43 ?_
    refine ez_nmM (fun M25 eM25 => ?_)
    refine ez_aload_n hX 1 dX5_list_46 rfl ?_
    refine ez_bipush hX (93 : Int32) dX5_list_47 (by decide) ?_
    refine ez_callV hX (N0 := 0) (As := [.int (93 : Int32)]) (st := []) kc_9 (Nat.le_of_ble_eq_true rfl) lc_9 rfl (ec_X5_passed _ _ _ M25 (93 : Int32)) (Or.inl rfl) wm_X5_77 wv_X5_passed we_X5_passed wy_X5_passed rfl wd_X5_passed wi_X5 (ez_rok3 hRm (by omega)) (Nat.le_of_ble_eq_true rfl) dX5_list_49 ?_
    refine ez_nmIM (fun r26 M27 eM27 => ?_)
    refine ez_if_eq hX 57 dX5_list_52 (by decide) (fun c29 => ?_) (fun c29 => ?_)
    · -- c29 jump
      refine ez_iload hX 5 dX5_list_57 rfl ?_
      refine ez_iconst hX (5 : Int32) dX5_list_59 (by decide) ?_
      refine ez_icmp_eq hX 72 dX5_list_60 (by decide) (fun c => absurd c (by decide)) (fun _ => ?_)
      refine ez_aload_n hX 1 dX5_list_63 rfl ?_
      refine ez_bipush hX (44 : Int32) dX5_list_64 (by decide) ?_
      refine ez_callV hX (N0 := 0) (As := [.int (44 : Int32)]) (st := []) kc_9 (Nat.le_of_ble_eq_true rfl) lc_9 rfl (ec_X5_passed _ _ _ M27 (44 : Int32)) (Or.inl rfl) wm_X5_77 wv_X5_passed we_X5_passed wy_X5_passed rfl wd_X5_passed wi_X5 (ez_rok3 hRm (by omega)) (Nat.le_of_ble_eq_true rfl) dX5_list_66 ?_
      refine ez_nmIM (fun r30 M31 eM31 => ?_)
      refine ez_if_ne hX 74 dX5_list_69 (by decide) (fun c33 => ?_) (fun c33 => ?_)
      · -- c33 jump
        refine ez_aload_n hX 1 dX5_list_74 rfl ?_
        refine ez_getr hX kc_9 rfl (Nat.le_of_ble_eq_true rfl) lc_9 (Nat.le_of_ble_eq_true rfl) inX5 1 rfl rc_9_3 wf_X5_15 dX5_list_75 ?_
        refine ez_bipush hX (14 : Int32) dX5_list_78 (by decide) ?_
        refine ez_iconst hX (0 : Int32) dX5_list_80 (by decide) ?_
        refine ez_callV hX (N0 := 0) (As := [.int (14 : Int32), .int (0 : Int32)]) (st := []) kc_1 (Nat.le_of_ble_eq_true rfl) lc_1 rfl (ec_X2_add _ _ _ M31 (14 : Int32) (0 : Int32)) (Or.inl rfl) wm_X5_60 wv_X2_add we_X2_add wy_X2_add rfl wd_X2_add wi_X2 (ez_rok3 hRm (by omega)) (Nat.le_of_ble_eq_true rfl) dX5_list_81 ?_
        refine ez_nmIM (fun r34 M35 eM35 => ?_)
        refine ez_istore hX [(6, .int r34), (5, .int r21), (0, .ref (ez_B X + 9)), (1, .int within), (2, .int x2), (3, .int x3), (4, .int (2 : Int32))] dX5_list_84 (ez_lt hnL rfl) rfl ?_
        refine ez_aload_n hX 2 dX5_list_86 rfl ?_
        refine ez_getr hX kc_9 rfl (Nat.le_of_ble_eq_true rfl) lc_9 (Nat.le_of_ble_eq_true rfl) inX5 1 rfl rc_9_3 wf_X5_15 dX5_list_87 ?_
        refine ez_iload_n hX 5 dX5_list_90 rfl ?_
        refine ez_iconst hX (1 : Int32) dX5_list_91 (by decide) ?_
        refine ez_iload hX 0 dX5_list_92 rfl ?_
        refine ez_callV hX (N0 := 0) (As := [.int x3, .int (1 : Int32), .int r34]) (st := []) kc_1 (Nat.le_of_ble_eq_true rfl) lc_1 rfl (ec_X2_link _ _ _ M35 x3 (1 : Int32) r34) (Or.inl rfl) wm_X5_81 wv_X2_link we_X2_link wy_X2_link rfl wd_X2_link wi_X2 (ez_rok3 hRm (by omega)) (Nat.le_of_ble_eq_true rfl) dX5_list_94 ?_
        refine ez_nmM (fun M37 eM37 => ?_)
        refine ez_iload hX 0 dX5_list_97 rfl ?_
        refine ez_istore_n hX [(3, .int r34), (6, .int r34), (5, .int r21), (0, .ref (ez_B X + 9)), (1, .int within), (2, .int x2), (4, .int (2 : Int32))] dX5_list_99 (ez_lt hnL rfl) rfl ?_
        refine ez_iinc hX (3 : Int32) 6 [(4, .int (3 : Int32)), (3, .int r34), (6, .int r34), (5, .int r21), (0, .ref (ez_B X + 9)), (1, .int within), (2, .int x2)] dX5_list_100 rfl (by decide) (ez_lt hnL rfl) rfl ?_
        refine ez_goto hX 15 dX5_list_103 (by decide) ?_
        refine ez_lv [4, 5, 6, 1, 0] rfl ?_
        exact el_X5_list_15_3 X within E fr lo hE t0 hRm hnL hX M37 x2 r34 hQ (Eq.trans (by simp only [et_X5_list_15_2, eM22, if_pos c24, eM25, eM27, if_pos c29, eM31, if_neg c33, eM35, eM37]) hT)
      · -- c33 on
        refine ez_iconst hX (-1 : Int32) dX5_list_72 (by decide) ?_
        have ht : t0 = ((-1 : Int32), M31) := hT.symm.trans (by simp only [et_X5_list_15_2, eM22, if_pos c24, eM25, eM27, if_pos c29, eM31, if_pos c33])
        subst ht
        exact ez_iret hX hQ dX5_list_73 rfl rfl
    · -- c29 on
      refine ez_iload_n hX 3 dX5_list_55 rfl ?_
      have ht : t0 = (x2, M27) := hT.symm.trans (by simp only [et_X5_list_15_2, eM22, if_pos c24, eM25, eM27, if_neg c29])
      subst ht
      exact ez_iret hX hQ dX5_list_56 rfl rfl
  · -- c24 on
    refine ez_iconst hX (-1 : Int32) dX5_list_33 (by decide) ?_
    have ht : t0 = ((-1 : Int32), M22) := hT.symm.trans (by simp only [et_X5_list_15_2, eM22, if_neg c24])
    subst ht
    exact ez_iret hX hQ dX5_list_34 rfl rfl
set_option maxHeartbeats 4000000 in
set_option maxRecDepth 100000 in
theorem el_X5_list_15_1 (X : em_X)  (within : Int32) (E : em_M → Int32 → Int32 × em_M) (fr lo : Nat) (hE : ∀ M : em_M, em_C (ez_l X) (ez_D X) (ez_B X) yX5_expression cX5_expression 5 (some .int) fr lo 0 0 false [.ref ((ez_B X) + 9), .int within] 132 em_R M (some (.int (E M within).1)) 132 em_R (E M within).2) (t0 : Int32 × em_M) (hRm : ez_rm X = { frames := (fr + 4), cells := 0, slots := 0, locals := (lo + 100) }) (hnL : ez_nL X = 7) (hX : ez_ok X cX5_list RX5) (M : em_M) (x2 : Int32) (x3 : Int32)  (hQ : ez_ret X (some .int) (some (.int t0.1)) 132 em_R (t0.2) 0 0) (hT : et_X5_list_15_1 E within M x2 x3 = t0) : ez_Z X 132 em_R M 0 0 15 [(0, .ref (ez_B X + 9)), (1, .int within), (2, .int x2), (3, .int x3), (4, .int (1 : Int32))] [] := by
  refine ez_iload hX 4 dX5_list_15 rfl ?_
  refine ez_iconst hX (5 : Int32) dX5_list_17 (by decide) ?_
  refine ez_icmp_gt hX 106 dX5_list_18 (by decide) (fun c => absurd c (by decide)) (fun _ => ?_)
  refine ez_aload_n hX 0 dX5_list_21 rfl ?_
  refine ez_iload_n hX 1 dX5_list_22 rfl ?_
  refine ez_callV hX (N0 := 0) (As := [.int within]) (st := []) kc_9 (Nat.le_of_ble_eq_true rfl) lc_9 rfl (hE M) (Or.inl rfl) wm_X5_35 wv_X5_expression we_X5_expression wy_X5_expression rfl wd_X5_expression wi_X5 (ez_rok3 hRm (by omega)) (Nat.le_of_ble_eq_true rfl) dX5_list_23 ?_
  refine ez_nmIM (fun r4 M5 eM5 => ?_)
  refine ez_istore hX [(5, .int r4), (0, .ref (ez_B X + 9)), (1, .int within), (2, .int x2), (3, .int x3), (4, .int (1 : Int32))] dX5_list_26 (ez_lt hnL rfl) rfl ?_
  refine ez_iload hX 0 dX5_list_28 rfl ?_
  refine ez_if_ge hX 35 dX5_list_30 (by decide) (fun c7 => ?_) (fun c7 => ?_)
  · -- c7 jump
    refine ez_aload_n hX 1 dX5_list_35 rfl ?_
    refine ez_getr hX kc_9 rfl (Nat.le_of_ble_eq_true rfl) lc_9 (Nat.le_of_ble_eq_true rfl) inX5 1 rfl rc_9_3 wf_X5_15 dX5_list_36 ?_
    refine ez_iload_n hX 4 dX5_list_39 rfl ?_
    refine ez_iconst hX (0 : Int32) dX5_list_40 (by decide) ?_
    refine ez_iload hX 0 dX5_list_41 rfl ?_
    refine ez_callV hX (N0 := 0) (As := [.int x3, .int (0 : Int32), .int r4]) (st := []) kc_1 (Nat.le_of_ble_eq_true rfl) lc_1 rfl (ec_X2_link _ _ _ M5 x3 (0 : Int32) r4) (Or.inl rfl) wm_X5_81 wv_X2_link we_X2_link wy_X2_link rfl wd_X2_link wi_X2 (ez_rok3 hRm (by omega)) (Nat.le_of_ble_eq_true rfl) dX5_list_43 ?_
    refine ez_nmM (fun M8 eM8 => ?_)
    refine ez_aload_n hX 1 dX5_list_46 rfl ?_
    refine ez_bipush hX (93 : Int32) dX5_list_47 (by decide) ?_
    refine ez_callV hX (N0 := 0) (As := [.int (93 : Int32)]) (st := []) kc_9 (Nat.le_of_ble_eq_true rfl) lc_9 rfl (ec_X5_passed _ _ _ M8 (93 : Int32)) (Or.inl rfl) wm_X5_77 wv_X5_passed we_X5_passed wy_X5_passed rfl wd_X5_passed wi_X5 (ez_rok3 hRm (by omega)) (Nat.le_of_ble_eq_true rfl) dX5_list_49 ?_
    refine ez_nmIM (fun r9 M10 eM10 => ?_)
    refine ez_if_eq hX 57 dX5_list_52 (by decide) (fun c12 => ?_) (fun c12 => ?_)
    · -- c12 jump
      refine ez_iload hX 5 dX5_list_57 rfl ?_
      refine ez_iconst hX (5 : Int32) dX5_list_59 (by decide) ?_
      refine ez_icmp_eq hX 72 dX5_list_60 (by decide) (fun c => absurd c (by decide)) (fun _ => ?_)
      refine ez_aload_n hX 1 dX5_list_63 rfl ?_
      refine ez_bipush hX (44 : Int32) dX5_list_64 (by decide) ?_
      refine ez_callV hX (N0 := 0) (As := [.int (44 : Int32)]) (st := []) kc_9 (Nat.le_of_ble_eq_true rfl) lc_9 rfl (ec_X5_passed _ _ _ M10 (44 : Int32)) (Or.inl rfl) wm_X5_77 wv_X5_passed we_X5_passed wy_X5_passed rfl wd_X5_passed wi_X5 (ez_rok3 hRm (by omega)) (Nat.le_of_ble_eq_true rfl) dX5_list_66 ?_
      refine ez_nmIM (fun r13 M14 eM14 => ?_)
      refine ez_if_ne hX 74 dX5_list_69 (by decide) (fun c16 => ?_) (fun c16 => ?_)
      · -- c16 jump
        refine ez_aload_n hX 1 dX5_list_74 rfl ?_
        refine ez_getr hX kc_9 rfl (Nat.le_of_ble_eq_true rfl) lc_9 (Nat.le_of_ble_eq_true rfl) inX5 1 rfl rc_9_3 wf_X5_15 dX5_list_75 ?_
        refine ez_bipush hX (14 : Int32) dX5_list_78 (by decide) ?_
        refine ez_iconst hX (0 : Int32) dX5_list_80 (by decide) ?_
        refine ez_callV hX (N0 := 0) (As := [.int (14 : Int32), .int (0 : Int32)]) (st := []) kc_1 (Nat.le_of_ble_eq_true rfl) lc_1 rfl (ec_X2_add _ _ _ M14 (14 : Int32) (0 : Int32)) (Or.inl rfl) wm_X5_60 wv_X2_add we_X2_add wy_X2_add rfl wd_X2_add wi_X2 (ez_rok3 hRm (by omega)) (Nat.le_of_ble_eq_true rfl) dX5_list_81 ?_
        refine ez_nmIM (fun r17 M18 eM18 => ?_)
        refine ez_istore hX [(6, .int r17), (5, .int r4), (0, .ref (ez_B X + 9)), (1, .int within), (2, .int x2), (3, .int x3), (4, .int (1 : Int32))] dX5_list_84 (ez_lt hnL rfl) rfl ?_
        refine ez_aload_n hX 2 dX5_list_86 rfl ?_
        refine ez_getr hX kc_9 rfl (Nat.le_of_ble_eq_true rfl) lc_9 (Nat.le_of_ble_eq_true rfl) inX5 1 rfl rc_9_3 wf_X5_15 dX5_list_87 ?_
        refine ez_iload_n hX 5 dX5_list_90 rfl ?_
        refine ez_iconst hX (1 : Int32) dX5_list_91 (by decide) ?_
        refine ez_iload hX 0 dX5_list_92 rfl ?_
        refine ez_callV hX (N0 := 0) (As := [.int x3, .int (1 : Int32), .int r17]) (st := []) kc_1 (Nat.le_of_ble_eq_true rfl) lc_1 rfl (ec_X2_link _ _ _ M18 x3 (1 : Int32) r17) (Or.inl rfl) wm_X5_81 wv_X2_link we_X2_link wy_X2_link rfl wd_X2_link wi_X2 (ez_rok3 hRm (by omega)) (Nat.le_of_ble_eq_true rfl) dX5_list_94 ?_
        refine ez_nmM (fun M20 eM20 => ?_)
        refine ez_iload hX 0 dX5_list_97 rfl ?_
        refine ez_istore_n hX [(3, .int r17), (6, .int r17), (5, .int r4), (0, .ref (ez_B X + 9)), (1, .int within), (2, .int x2), (4, .int (1 : Int32))] dX5_list_99 (ez_lt hnL rfl) rfl ?_
        refine ez_iinc hX (2 : Int32) 6 [(4, .int (2 : Int32)), (3, .int r17), (6, .int r17), (5, .int r4), (0, .ref (ez_B X + 9)), (1, .int within), (2, .int x2)] dX5_list_100 rfl (by decide) (ez_lt hnL rfl) rfl ?_
        refine ez_goto hX 15 dX5_list_103 (by decide) ?_
        refine ez_lv [4, 5, 6, 1, 0] rfl ?_
        exact el_X5_list_15_2 X within E fr lo hE t0 hRm hnL hX M20 x2 r17 hQ (Eq.trans (by simp only [et_X5_list_15_1, eM5, if_pos c7, eM8, eM10, if_pos c12, eM14, if_neg c16, eM18, eM20]) hT)
      · -- c16 on
        refine ez_iconst hX (-1 : Int32) dX5_list_72 (by decide) ?_
        have ht : t0 = ((-1 : Int32), M14) := hT.symm.trans (by simp only [et_X5_list_15_1, eM5, if_pos c7, eM8, eM10, if_pos c12, eM14, if_pos c16])
        subst ht
        exact ez_iret hX hQ dX5_list_73 rfl rfl
    · -- c12 on
      refine ez_iload_n hX 3 dX5_list_55 rfl ?_
      have ht : t0 = (x2, M10) := hT.symm.trans (by simp only [et_X5_list_15_1, eM5, if_pos c7, eM8, eM10, if_neg c12])
      subst ht
      exact ez_iret hX hQ dX5_list_56 rfl rfl
  · -- c7 on
    refine ez_iconst hX (-1 : Int32) dX5_list_33 (by decide) ?_
    have ht : t0 = ((-1 : Int32), M5) := hT.symm.trans (by simp only [et_X5_list_15_1, eM5, if_neg c7])
    subst ht
    exact ez_iret hX hQ dX5_list_34 rfl rfl
set_option maxHeartbeats 4000000 in
set_option maxRecDepth 100000 in
theorem ec_X5_list (l : Launch) (D : em_G) (B : Nat) (M : em_M) (within : Int32) (E : em_M → Int32 → Int32 × em_M) (fr lo : Nat) (hE : ∀ M : em_M, em_C l D B yX5_expression cX5_expression 5 (some .int) fr lo 0 0 false [.ref (B + 9), .int within] 132 em_R M (some (.int (E M within).1)) 132 em_R (E M within).2) : em_C l D B yX5_list cX5_list 7 (some .int) (fr + 4) (lo + 100) 0 0 false [.ref (B + 9), .int within] 132 em_R M (some (.int (et_X5_list E M within).1)) 132 em_R ((et_X5_list E M within).2) := by
  refine em_C_of RX5 [(0, .ref (B + 9)), (1, .int within)] (by decide) rfl rfl (Nat.le_of_ble_eq_true rfl) ?_
  rintro X rfl rfl rfl hRm hnL hnm hsz hX hQ
  obtain ⟨t0, hT⟩ : ∃ tz, et_X5_list E M within = tz := ⟨_, rfl⟩
  rw [hT] at hQ
  refine ez_aload_n hX 0 dX5_list_0 rfl ?_
  refine ez_getr hX kc_9 rfl (Nat.le_of_ble_eq_true rfl) lc_9 (Nat.le_of_ble_eq_true rfl) inX5 1 rfl rc_9_3 wf_X5_15 dX5_list_1 ?_
  refine ez_iconst hX (3 : Int32) dX5_list_4 (by decide) ?_
  refine ez_iconst hX (0 : Int32) dX5_list_5 (by decide) ?_
  refine ez_callV hX (N0 := 0) (As := [.int (3 : Int32), .int (0 : Int32)]) (st := []) kc_1 (Nat.le_of_ble_eq_true rfl) lc_1 rfl (ec_X2_add _ _ _ M (3 : Int32) (0 : Int32)) (Or.inl rfl) wm_X5_60 wv_X2_add we_X2_add wy_X2_add rfl wd_X2_add wi_X2 (ez_rok3 hRm (by omega)) (Nat.le_of_ble_eq_true rfl) dX5_list_6 ?_
  refine ez_nmIM (fun r1 M2 eM2 => ?_)
  refine ez_istore_n hX [(2, .int r1), (0, .ref (ez_B X + 9)), (1, .int within)] dX5_list_9 (ez_lt hnL rfl) rfl ?_
  refine ez_iload_n hX 0 dX5_list_10 rfl ?_
  refine ez_istore_n hX [(3, .int r1), (2, .int r1), (0, .ref (ez_B X + 9)), (1, .int within)] dX5_list_11 (ez_lt hnL rfl) rfl ?_
  refine ez_iconst hX (1 : Int32) dX5_list_12 (by decide) ?_
  refine ez_istore hX [(4, .int (1 : Int32)), (3, .int r1), (2, .int r1), (0, .ref (ez_B X + 9)), (1, .int within)] dX5_list_13 (ez_lt hnL rfl) rfl ?_
  refine ez_lv [3, 4, 2, 1, 0] rfl ?_
  exact el_X5_list_15_1 X within E fr lo hE t0 hRm hnL hX M2 r1 r1 hQ (Eq.trans (by simp only [et_X5_list, eM2]) hT)

def et_X5_exprB (E : em_M → Int32 → Int32 × em_M) (M : em_M) (within : Int32) : Int32 × em_M :=
  let r1 := et_X5_sign M
  let r2 := et_X5_isDigit M r1
  (if r2 = 0 then let r4 := et_X5_isLetter M r1
  (if r4 = 0 then (if (7 : Int32) ≤ within then ((-1 : Int32), M) else let r7 := et_X5_kindBy M r1
  (if 0 ≤ r7 then let M9 := em_pI M 9 1 ((M.1 9 1) + (1 : Int32))
  (if r7 = (3 : Int32) then let q76 := et_X5_list E M9 (within + (1 : Int32))
  let r74 := q76.1
  let M75 := q76.2
  (r74, M75) else (if r7 = (4 : Int32) then let q69 := et_X2_add M9 r7 (r1 - (70 : Int32))
  let r67 := q69.1
  let M68 := q69.2
  let r70 := et_X5_howMany M68 r7
  let q73 := et_X5_parts E M68 r67 r70 (within + (1 : Int32))
  let r71 := q73.1
  let M72 := q73.2
  (r71, M72) else (if r7 = (2 : Int32) then let r13 := et_X5_sign M9
  let r14 := et_X5_isLetter M9 r13
  (if r14 = 0 then ((-1 : Int32), M9) else let M16 := em_pI M9 9 1 ((M9.1 9 1) + (1 : Int32))
  let q19 := et_X2_add M16 r7 (r13 - (97 : Int32))
  let r17 := q19.1
  let M18 := q19.2
  let r20 := et_X5_howMany M18 r7
  let q23 := et_X5_parts E M18 r17 r20 (within + (1 : Int32))
  let r21 := q23.1
  let M22 := q23.2
  (r21, M22)) else (if r7 = (13 : Int32) then let r25 := et_X5_sign M9
  let r26 := et_X5_isLetter M9 r25
  (if r26 = 0 then ((-1 : Int32), M9) else let M28 := em_pI M9 9 1 ((M9.1 9 1) + (1 : Int32))
  let q31 := et_X2_add M28 r7 (r25 - (97 : Int32))
  let r29 := q31.1
  let M30 := q31.2
  let r32 := et_X5_howMany M30 r7
  let q35 := et_X5_parts E M30 r29 r32 (within + (1 : Int32))
  let r33 := q35.1
  let M34 := q35.2
  (r33, M34)) else (if r7 = (5 : Int32) then let r37 := et_X5_sign M9
  let r38 := et_X5_isLetter M9 r37
  (if r38 = 0 then ((-1 : Int32), M9) else let M40 := em_pI M9 9 1 ((M9.1 9 1) + (1 : Int32))
  let q43 := et_X2_add M40 r7 (r37 - (97 : Int32))
  let r41 := q43.1
  let M42 := q43.2
  let r44 := et_X5_howMany M42 r7
  let q47 := et_X5_parts E M42 r41 r44 (within + (1 : Int32))
  let r45 := q47.1
  let M46 := q47.2
  (r45, M46)) else (if r7 = (7 : Int32) then let r56 := et_X5_sign M9
  let r57 := et_X5_isLetter M9 r56
  (if r57 = 0 then ((-1 : Int32), M9) else let M59 := em_pI M9 9 1 ((M9.1 9 1) + (1 : Int32))
  let q62 := et_X2_add M59 r7 (r56 - (97 : Int32))
  let r60 := q62.1
  let M61 := q62.2
  let r63 := et_X5_howMany M61 r7
  let q66 := et_X5_parts E M61 r60 r63 (within + (1 : Int32))
  let r64 := q66.1
  let M65 := q66.2
  (r64, M65)) else let q51 := et_X2_add M9 r7 r1
  let r49 := q51.1
  let M50 := q51.2
  let r52 := et_X5_howMany M50 r7
  let q55 := et_X5_parts E M50 r49 r52 (within + (1 : Int32))
  let r53 := q55.1
  let M54 := q55.2
  (r53, M54))))))) else ((-1 : Int32), M))) else let M77 := em_pI M 9 1 ((M.1 9 1) + (1 : Int32))
  let q80 := et_X2_add M77 (12 : Int32) (r1 - (97 : Int32))
  let r78 := q80.1
  let M79 := q80.2
  (r78, M79)) else let q83 := et_X5_digits M
  let r81 := q83.1
  let M82 := q83.2
  (r81, M82))
set_option maxHeartbeats 4000000 in
set_option maxRecDepth 100000 in
theorem ec_X5_exprB (l : Launch) (D : em_G) (B : Nat) (M : em_M) (within : Int32) (E : em_M → Int32 → Int32 × em_M) (fr lo : Nat) (hE : ¬ (7 : Int32) ≤ within → ∀ M : em_M, em_C l D B yX5_expression cX5_expression 5 (some .int) fr lo 0 0 false [.ref (B + 9), .int (within + (1 : Int32))] 132 em_R M (some (.int (E M (within + (1 : Int32))).1)) 132 em_R (E M (within + (1 : Int32))).2) : em_C l D B yX5_expression cX5_expression 5 (some .int) (fr + 8) (lo + 200) 0 0 false [.ref (B + 9), .int within] 132 em_R M (some (.int (et_X5_exprB E M within).1)) 132 em_R ((et_X5_exprB E M within).2) := by
  refine em_C_of RX5 [(0, .ref (B + 9)), (1, .int within)] (by decide) rfl rfl (Nat.le_of_ble_eq_true rfl) ?_
  rintro X rfl rfl rfl hRm hnL hnm hsz hX hQ
  obtain ⟨t0, hT⟩ : ∃ tz, et_X5_exprB E M within = tz := ⟨_, rfl⟩
  rw [hT] at hQ
  refine ez_aload_n hX 0 dX5_expression_0 rfl ?_
  refine ez_callV hX (N0 := 0) (As := []) (st := []) kc_9 (Nat.le_of_ble_eq_true rfl) lc_9 rfl (ec_X5_sign _ _ _ M) (Or.inl rfl) wm_X5_46 wv_X5_sign we_X5_sign wy_X5_sign rfl wd_X5_sign wi_X5 (ez_rok3 hRm (by omega)) (Nat.le_of_ble_eq_true rfl) dX5_expression_1 ?_
  refine ez_nmI (fun r1 er1 => ?_)
  refine ez_istore_n hX [(2, .int r1), (0, .ref (ez_B X + 9)), (1, .int within)] dX5_expression_4 (ez_lt hnL rfl) rfl ?_
  refine ez_iload_n hX 0 dX5_expression_5 rfl ?_
  refine ez_callS hX (N0 := 0) (As := [.int r1]) (st := []) (ec_X5_isDigit _ _ _ M r1) (Or.inl rfl) wm_X5_50 ws_X5_isDigit wy_X5_isDigit rfl wd_X5_isDigit wi_X5 (ez_rok3 hRm (by omega)) (Nat.le_of_ble_eq_true rfl) dX5_expression_6 ?_
  refine ez_nmI (fun r2 er2 => ?_)
  refine ez_if_eq hX 17 dX5_expression_9 (by decide) (fun c3 => ?_) (fun c3 => ?_)
  · -- c3 jump
    refine ez_iload_n hX 0 dX5_expression_17 rfl ?_
    refine ez_callS hX (N0 := 0) (As := [.int r1]) (st := []) (ec_X5_isLetter _ _ _ M r1) (Or.inl rfl) wm_X5_57 ws_X5_isLetter wy_X5_isLetter rfl wd_X5_isLetter wi_X5 (ez_rok3 hRm (by omega)) (Nat.le_of_ble_eq_true rfl) dX5_expression_18 ?_
    refine ez_nmI (fun r4 er4 => ?_)
    refine ez_if_eq hX 48 dX5_expression_21 (by decide) (fun c5 => ?_) (fun c5 => ?_)
    · -- c5 jump
      refine ez_iload_n hX 2 dX5_expression_48 rfl ?_
      refine ez_bipush hX (7 : Int32) dX5_expression_49 (by decide) ?_
      refine ez_icmp_ge hX 61 dX5_expression_51 (by decide) (fun c6 => ?_) (fun c6 => ?_)
      · -- c6 jump
        refine ez_iconst hX (-1 : Int32) dX5_expression_61 (by decide) ?_
        refine ez_istore_n hX [(3, .int (-1 : Int32)), (2, .int r1), (0, .ref (ez_B X + 9)), (1, .int within)] dX5_expression_62 (ez_lt hnL rfl) rfl ?_
        refine ez_iload_n hX 0 dX5_expression_63 rfl ?_
        refine ez_if_ge hX 69 dX5_expression_64 (by decide) (fun c => absurd c (by decide)) (fun _ => ?_)
        refine ez_iconst hX (-1 : Int32) dX5_expression_67 (by decide) ?_
        have ht : t0 = ((-1 : Int32), M) := hT.symm.trans (by simp only [et_X5_exprB, er1, er2, if_pos c3, er4, if_pos c5, if_pos c6])
        subst ht
        exact ez_iret hX hQ dX5_expression_68 rfl rfl
      · -- c6 on
        refine ez_iload_n hX 0 dX5_expression_54 rfl ?_
        refine ez_callS hX (N0 := 0) (As := [.int r1]) (st := []) (ec_X5_kindBy _ _ _ M r1) (Or.inl rfl) wm_X5_64 ws_X5_kindBy wy_X5_kindBy rfl wd_X5_kindBy wi_X5 (ez_rok3 hRm (by omega)) (Nat.le_of_ble_eq_true rfl) dX5_expression_55 ?_
        refine ez_nmI (fun r7 er7 => ?_)
        refine ez_goto hX 62 dX5_expression_58 (by decide) ?_
        refine ez_istore_n hX [(3, .int r7), (2, .int r1), (0, .ref (ez_B X + 9)), (1, .int within)] dX5_expression_62 (ez_lt hnL rfl) rfl ?_
        refine ez_iload_n hX 0 dX5_expression_63 rfl ?_
        refine ez_if_ge hX 69 dX5_expression_64 (by decide) (fun c8 => ?_) (fun c8 => ?_)
        · -- c8 jump
          refine ez_aload_n hX 2 dX5_expression_69 rfl ?_
          refine ez_dup hX dX5_expression_70 rfl ?_
          refine ez_geti hX kc_9 rfl (Nat.le_of_ble_eq_true rfl) lc_9 (Nat.le_of_ble_eq_true rfl) inX5 rfl wf_X5_32 dX5_expression_71 ?_
          refine ez_iconst hX (1 : Int32) dX5_expression_74 (by decide) ?_
          refine ez_iadd hX dX5_expression_75 ?_
          refine ez_puti hX kc_9 rfl (Nat.le_of_ble_eq_true rfl) lc_9 (Nat.le_of_ble_eq_true rfl) inX5 tyX5 tyX5_ok nmX5 ((M.1 9 1) + (1 : Int32)) rfl wf_X5_32 rfl rfl rfl dX5_expression_76 ?_
          refine ez_nmM (fun M9 eM9 => ?_)
          refine ez_iload_n hX 0 dX5_expression_79 rfl ?_
          refine ez_iconst hX (3 : Int32) dX5_expression_80 (by decide) ?_
          refine ez_icmp_ne hX 92 dX5_expression_81 (by decide) (fun c10 => ?_) (fun c10 => ?_)
          · -- c10 jump
            refine ez_iload_n hX 0 dX5_expression_92 rfl ?_
            refine ez_iconst hX (4 : Int32) dX5_expression_93 (by decide) ?_
            refine ez_icmp_ne hX 104 dX5_expression_94 (by decide) (fun c11 => ?_) (fun c11 => ?_)
            · -- c11 jump
              refine ez_iload_n hX 1 dX5_expression_104 rfl ?_
              refine ez_istore hX [(4, .int r1), (3, .int r7), (2, .int r1), (0, .ref (ez_B X + 9)), (1, .int within)] dX5_expression_105 (ez_lt hnL rfl) rfl ?_
              refine ez_iload_n hX 1 dX5_expression_107 rfl ?_
              refine ez_iconst hX (2 : Int32) dX5_expression_108 (by decide) ?_
              refine ez_icmp_eq hX 129 dX5_expression_109 (by decide) (fun c12 => ?_) (fun c12 => ?_)
              · -- c12 jump
                refine ez_aload_n hX 3 dX5_expression_129 rfl ?_
                refine ez_callV hX (N0 := 0) (As := []) (st := []) kc_9 (Nat.le_of_ble_eq_true rfl) lc_9 rfl (ec_X5_sign _ _ _ M9) (Or.inl rfl) wm_X5_46 wv_X5_sign we_X5_sign wy_X5_sign rfl wd_X5_sign wi_X5 (ez_rok3 hRm (by omega)) (Nat.le_of_ble_eq_true rfl) dX5_expression_130 ?_
                refine ez_nmI (fun r13 er13 => ?_)
                refine ez_callS hX (N0 := 0) (As := [.int r13]) (st := []) (ec_X5_isLetter _ _ _ M9 r13) (Or.inl rfl) wm_X5_57 ws_X5_isLetter wy_X5_isLetter rfl wd_X5_isLetter wi_X5 (ez_rok3 hRm (by omega)) (Nat.le_of_ble_eq_true rfl) dX5_expression_133 ?_
                refine ez_nmI (fun r14 er14 => ?_)
                refine ez_if_ne hX 141 dX5_expression_136 (by decide) (fun c15 => ?_) (fun c15 => ?_)
                · -- c15 jump
                  refine ez_aload_n hX 3 dX5_expression_141 rfl ?_
                  refine ez_callV hX (N0 := 0) (As := []) (st := []) kc_9 (Nat.le_of_ble_eq_true rfl) lc_9 rfl (ec_X5_sign _ _ _ M9) (Or.inl rfl) wm_X5_46 wv_X5_sign we_X5_sign wy_X5_sign rfl wd_X5_sign wi_X5 (ez_rok3 hRm (by omega)) (Nat.le_of_ble_eq_true rfl) dX5_expression_142 ?_
                  refine ez_reI er13 ?_
                  refine ez_bipush hX (97 : Int32) dX5_expression_145 (by decide) ?_
                  refine ez_isub hX dX5_expression_147 ?_
                  refine ez_istore hX [(4, .int (r13 - (97 : Int32))), (3, .int r7), (2, .int r1), (0, .ref (ez_B X + 9)), (1, .int within)] dX5_expression_148 (ez_lt hnL rfl) rfl ?_
                  refine ez_aload_n hX 3 dX5_expression_150 rfl ?_
                  refine ez_dup hX dX5_expression_151 rfl ?_
                  refine ez_geti hX kc_9 rfl (Nat.le_of_ble_eq_true rfl) lc_9 (Nat.le_of_ble_eq_true rfl) inX5 rfl wf_X5_32 dX5_expression_152 ?_
                  refine ez_iconst hX (1 : Int32) dX5_expression_155 (by decide) ?_
                  refine ez_iadd hX dX5_expression_156 ?_
                  refine ez_puti hX kc_9 rfl (Nat.le_of_ble_eq_true rfl) lc_9 (Nat.le_of_ble_eq_true rfl) inX5 tyX5 tyX5_ok nmX5 ((M9.1 9 1) + (1 : Int32)) rfl wf_X5_32 rfl rfl rfl dX5_expression_157 ?_
                  refine ez_nmM (fun M16 eM16 => ?_)
                  refine ez_aload_n hX 3 dX5_expression_160 rfl ?_
                  refine ez_aload_n hX 3 dX5_expression_161 rfl ?_
                  refine ez_getr hX kc_9 rfl (Nat.le_of_ble_eq_true rfl) lc_9 (Nat.le_of_ble_eq_true rfl) inX5 1 rfl rc_9_3 wf_X5_15 dX5_expression_162 ?_
                  refine ez_iload_n hX 1 dX5_expression_165 rfl ?_
                  refine ez_iload hX 0 dX5_expression_166 rfl ?_
                  refine ez_callV hX (N0 := 0) (As := [.int r7, .int (r13 - (97 : Int32))]) (st := [.ref (ez_B X + 9)]) kc_1 (Nat.le_of_ble_eq_true rfl) lc_1 rfl (ec_X2_add _ _ _ M16 r7 (r13 - (97 : Int32))) (Or.inl rfl) wm_X5_60 wv_X2_add we_X2_add wy_X2_add rfl wd_X2_add wi_X2 (ez_rok3 hRm (by omega)) (Nat.le_of_ble_eq_true rfl) dX5_expression_168 ?_
                  refine ez_nmIM (fun r17 M18 eM18 => ?_)
                  refine ez_iload_n hX 1 dX5_expression_171 rfl ?_
                  refine ez_callS hX (N0 := 0) (As := [.int r7]) (st := [.int r17, .ref (ez_B X + 9)]) (ec_X5_howMany _ _ _ M18 r7) (Or.inl rfl) wm_X5_70 ws_X5_howMany wy_X5_howMany rfl wd_X5_howMany wi_X5 (ez_rok3 hRm (by omega)) (Nat.le_of_ble_eq_true rfl) dX5_expression_172 ?_
                  refine ez_nmI (fun r20 er20 => ?_)
                  refine ez_iload_n hX 4 dX5_expression_175 rfl ?_
                  refine ez_iconst hX (1 : Int32) dX5_expression_176 (by decide) ?_
                  refine ez_iadd hX dX5_expression_177 ?_
                  refine ez_callV hX (N0 := 0) (As := [.int r17, .int r20, .int (within + (1 : Int32))]) (st := []) kc_9 (Nat.le_of_ble_eq_true rfl) lc_9 rfl (ec_X5_parts _ _ _ M18 r17 r20 (within + (1 : Int32)) E fr lo (hE c6)) (Or.inl rfl) wm_X5_73 wv_X5_parts we_X5_parts wy_X5_parts rfl wd_X5_parts wi_X5 (ez_rok3 hRm (by omega)) (Nat.le_of_ble_eq_true rfl) dX5_expression_178 ?_
                  refine ez_nmIM (fun r21 M22 eM22 => ?_)
                  have ht : t0 = (r21, M22) := hT.symm.trans (by simp only [et_X5_exprB, er1, er2, if_pos c3, er4, if_pos c5, if_neg c6, er7, if_pos c8, eM9, if_neg c10, if_neg c11, if_pos c12, er13, er14, if_neg c15, eM16, eM18, er20, eM22])
                  subst ht
                  exact ez_iret hX hQ dX5_expression_181 rfl rfl
                · -- c15 on
                  refine ez_iconst hX (-1 : Int32) dX5_expression_139 (by decide) ?_
                  have ht : t0 = ((-1 : Int32), M9) := hT.symm.trans (by simp only [et_X5_exprB, er1, er2, if_pos c3, er4, if_pos c5, if_neg c6, er7, if_pos c8, eM9, if_neg c10, if_neg c11, if_pos c12, er13, er14, if_pos c15])
                  subst ht
                  exact ez_iret hX hQ dX5_expression_140 rfl rfl
              · -- c12 on
                refine ez_iload_n hX 1 dX5_expression_112 rfl ?_
                refine ez_bipush hX (13 : Int32) dX5_expression_113 (by decide) ?_
                refine ez_icmp_eq hX 129 dX5_expression_115 (by decide) (fun c24 => ?_) (fun c24 => ?_)
                · -- c24 jump
                  refine ez_aload_n hX 3 dX5_expression_129 rfl ?_
                  refine ez_callV hX (N0 := 0) (As := []) (st := []) kc_9 (Nat.le_of_ble_eq_true rfl) lc_9 rfl (ec_X5_sign _ _ _ M9) (Or.inl rfl) wm_X5_46 wv_X5_sign we_X5_sign wy_X5_sign rfl wd_X5_sign wi_X5 (ez_rok3 hRm (by omega)) (Nat.le_of_ble_eq_true rfl) dX5_expression_130 ?_
                  refine ez_nmI (fun r25 er25 => ?_)
                  refine ez_callS hX (N0 := 0) (As := [.int r25]) (st := []) (ec_X5_isLetter _ _ _ M9 r25) (Or.inl rfl) wm_X5_57 ws_X5_isLetter wy_X5_isLetter rfl wd_X5_isLetter wi_X5 (ez_rok3 hRm (by omega)) (Nat.le_of_ble_eq_true rfl) dX5_expression_133 ?_
                  refine ez_nmI (fun r26 er26 => ?_)
                  refine ez_if_ne hX 141 dX5_expression_136 (by decide) (fun c27 => ?_) (fun c27 => ?_)
                  · -- c27 jump
                    refine ez_aload_n hX 3 dX5_expression_141 rfl ?_
                    refine ez_callV hX (N0 := 0) (As := []) (st := []) kc_9 (Nat.le_of_ble_eq_true rfl) lc_9 rfl (ec_X5_sign _ _ _ M9) (Or.inl rfl) wm_X5_46 wv_X5_sign we_X5_sign wy_X5_sign rfl wd_X5_sign wi_X5 (ez_rok3 hRm (by omega)) (Nat.le_of_ble_eq_true rfl) dX5_expression_142 ?_
                    refine ez_reI er25 ?_
                    refine ez_bipush hX (97 : Int32) dX5_expression_145 (by decide) ?_
                    refine ez_isub hX dX5_expression_147 ?_
                    refine ez_istore hX [(4, .int (r25 - (97 : Int32))), (3, .int r7), (2, .int r1), (0, .ref (ez_B X + 9)), (1, .int within)] dX5_expression_148 (ez_lt hnL rfl) rfl ?_
                    refine ez_aload_n hX 3 dX5_expression_150 rfl ?_
                    refine ez_dup hX dX5_expression_151 rfl ?_
                    refine ez_geti hX kc_9 rfl (Nat.le_of_ble_eq_true rfl) lc_9 (Nat.le_of_ble_eq_true rfl) inX5 rfl wf_X5_32 dX5_expression_152 ?_
                    refine ez_iconst hX (1 : Int32) dX5_expression_155 (by decide) ?_
                    refine ez_iadd hX dX5_expression_156 ?_
                    refine ez_puti hX kc_9 rfl (Nat.le_of_ble_eq_true rfl) lc_9 (Nat.le_of_ble_eq_true rfl) inX5 tyX5 tyX5_ok nmX5 ((M9.1 9 1) + (1 : Int32)) rfl wf_X5_32 rfl rfl rfl dX5_expression_157 ?_
                    refine ez_nmM (fun M28 eM28 => ?_)
                    refine ez_aload_n hX 3 dX5_expression_160 rfl ?_
                    refine ez_aload_n hX 3 dX5_expression_161 rfl ?_
                    refine ez_getr hX kc_9 rfl (Nat.le_of_ble_eq_true rfl) lc_9 (Nat.le_of_ble_eq_true rfl) inX5 1 rfl rc_9_3 wf_X5_15 dX5_expression_162 ?_
                    refine ez_iload_n hX 1 dX5_expression_165 rfl ?_
                    refine ez_iload hX 0 dX5_expression_166 rfl ?_
                    refine ez_callV hX (N0 := 0) (As := [.int r7, .int (r25 - (97 : Int32))]) (st := [.ref (ez_B X + 9)]) kc_1 (Nat.le_of_ble_eq_true rfl) lc_1 rfl (ec_X2_add _ _ _ M28 r7 (r25 - (97 : Int32))) (Or.inl rfl) wm_X5_60 wv_X2_add we_X2_add wy_X2_add rfl wd_X2_add wi_X2 (ez_rok3 hRm (by omega)) (Nat.le_of_ble_eq_true rfl) dX5_expression_168 ?_
                    refine ez_nmIM (fun r29 M30 eM30 => ?_)
                    refine ez_iload_n hX 1 dX5_expression_171 rfl ?_
                    refine ez_callS hX (N0 := 0) (As := [.int r7]) (st := [.int r29, .ref (ez_B X + 9)]) (ec_X5_howMany _ _ _ M30 r7) (Or.inl rfl) wm_X5_70 ws_X5_howMany wy_X5_howMany rfl wd_X5_howMany wi_X5 (ez_rok3 hRm (by omega)) (Nat.le_of_ble_eq_true rfl) dX5_expression_172 ?_
                    refine ez_nmI (fun r32 er32 => ?_)
                    refine ez_iload_n hX 4 dX5_expression_175 rfl ?_
                    refine ez_iconst hX (1 : Int32) dX5_expression_176 (by decide) ?_
                    refine ez_iadd hX dX5_expression_177 ?_
                    refine ez_callV hX (N0 := 0) (As := [.int r29, .int r32, .int (within + (1 : Int32))]) (st := []) kc_9 (Nat.le_of_ble_eq_true rfl) lc_9 rfl (ec_X5_parts _ _ _ M30 r29 r32 (within + (1 : Int32)) E fr lo (hE c6)) (Or.inl rfl) wm_X5_73 wv_X5_parts we_X5_parts wy_X5_parts rfl wd_X5_parts wi_X5 (ez_rok3 hRm (by omega)) (Nat.le_of_ble_eq_true rfl) dX5_expression_178 ?_
                    refine ez_nmIM (fun r33 M34 eM34 => ?_)
                    have ht : t0 = (r33, M34) := hT.symm.trans (by simp only [et_X5_exprB, er1, er2, if_pos c3, er4, if_pos c5, if_neg c6, er7, if_pos c8, eM9, if_neg c10, if_neg c11, if_neg c12, if_pos c24, er25, er26, if_neg c27, eM28, eM30, er32, eM34])
                    subst ht
                    exact ez_iret hX hQ dX5_expression_181 rfl rfl
                  · -- c27 on
                    refine ez_iconst hX (-1 : Int32) dX5_expression_139 (by decide) ?_
                    have ht : t0 = ((-1 : Int32), M9) := hT.symm.trans (by simp only [et_X5_exprB, er1, er2, if_pos c3, er4, if_pos c5, if_neg c6, er7, if_pos c8, eM9, if_neg c10, if_neg c11, if_neg c12, if_pos c24, er25, er26, if_pos c27])
                    subst ht
                    exact ez_iret hX hQ dX5_expression_140 rfl rfl
                · -- c24 on
                  refine ez_iload_n hX 1 dX5_expression_118 rfl ?_
                  refine ez_iconst hX (5 : Int32) dX5_expression_119 (by decide) ?_
                  refine ez_icmp_eq hX 129 dX5_expression_120 (by decide) (fun c36 => ?_) (fun c36 => ?_)
                  · -- c36 jump
                    refine ez_aload_n hX 3 dX5_expression_129 rfl ?_
                    refine ez_callV hX (N0 := 0) (As := []) (st := []) kc_9 (Nat.le_of_ble_eq_true rfl) lc_9 rfl (ec_X5_sign _ _ _ M9) (Or.inl rfl) wm_X5_46 wv_X5_sign we_X5_sign wy_X5_sign rfl wd_X5_sign wi_X5 (ez_rok3 hRm (by omega)) (Nat.le_of_ble_eq_true rfl) dX5_expression_130 ?_
                    refine ez_nmI (fun r37 er37 => ?_)
                    refine ez_callS hX (N0 := 0) (As := [.int r37]) (st := []) (ec_X5_isLetter _ _ _ M9 r37) (Or.inl rfl) wm_X5_57 ws_X5_isLetter wy_X5_isLetter rfl wd_X5_isLetter wi_X5 (ez_rok3 hRm (by omega)) (Nat.le_of_ble_eq_true rfl) dX5_expression_133 ?_
                    refine ez_nmI (fun r38 er38 => ?_)
                    refine ez_if_ne hX 141 dX5_expression_136 (by decide) (fun c39 => ?_) (fun c39 => ?_)
                    · -- c39 jump
                      refine ez_aload_n hX 3 dX5_expression_141 rfl ?_
                      refine ez_callV hX (N0 := 0) (As := []) (st := []) kc_9 (Nat.le_of_ble_eq_true rfl) lc_9 rfl (ec_X5_sign _ _ _ M9) (Or.inl rfl) wm_X5_46 wv_X5_sign we_X5_sign wy_X5_sign rfl wd_X5_sign wi_X5 (ez_rok3 hRm (by omega)) (Nat.le_of_ble_eq_true rfl) dX5_expression_142 ?_
                      refine ez_reI er37 ?_
                      refine ez_bipush hX (97 : Int32) dX5_expression_145 (by decide) ?_
                      refine ez_isub hX dX5_expression_147 ?_
                      refine ez_istore hX [(4, .int (r37 - (97 : Int32))), (3, .int r7), (2, .int r1), (0, .ref (ez_B X + 9)), (1, .int within)] dX5_expression_148 (ez_lt hnL rfl) rfl ?_
                      refine ez_aload_n hX 3 dX5_expression_150 rfl ?_
                      refine ez_dup hX dX5_expression_151 rfl ?_
                      refine ez_geti hX kc_9 rfl (Nat.le_of_ble_eq_true rfl) lc_9 (Nat.le_of_ble_eq_true rfl) inX5 rfl wf_X5_32 dX5_expression_152 ?_
                      refine ez_iconst hX (1 : Int32) dX5_expression_155 (by decide) ?_
                      refine ez_iadd hX dX5_expression_156 ?_
                      refine ez_puti hX kc_9 rfl (Nat.le_of_ble_eq_true rfl) lc_9 (Nat.le_of_ble_eq_true rfl) inX5 tyX5 tyX5_ok nmX5 ((M9.1 9 1) + (1 : Int32)) rfl wf_X5_32 rfl rfl rfl dX5_expression_157 ?_
                      refine ez_nmM (fun M40 eM40 => ?_)
                      refine ez_aload_n hX 3 dX5_expression_160 rfl ?_
                      refine ez_aload_n hX 3 dX5_expression_161 rfl ?_
                      refine ez_getr hX kc_9 rfl (Nat.le_of_ble_eq_true rfl) lc_9 (Nat.le_of_ble_eq_true rfl) inX5 1 rfl rc_9_3 wf_X5_15 dX5_expression_162 ?_
                      refine ez_iload_n hX 1 dX5_expression_165 rfl ?_
                      refine ez_iload hX 0 dX5_expression_166 rfl ?_
                      refine ez_callV hX (N0 := 0) (As := [.int r7, .int (r37 - (97 : Int32))]) (st := [.ref (ez_B X + 9)]) kc_1 (Nat.le_of_ble_eq_true rfl) lc_1 rfl (ec_X2_add _ _ _ M40 r7 (r37 - (97 : Int32))) (Or.inl rfl) wm_X5_60 wv_X2_add we_X2_add wy_X2_add rfl wd_X2_add wi_X2 (ez_rok3 hRm (by omega)) (Nat.le_of_ble_eq_true rfl) dX5_expression_168 ?_
                      refine ez_nmIM (fun r41 M42 eM42 => ?_)
                      refine ez_iload_n hX 1 dX5_expression_171 rfl ?_
                      refine ez_callS hX (N0 := 0) (As := [.int r7]) (st := [.int r41, .ref (ez_B X + 9)]) (ec_X5_howMany _ _ _ M42 r7) (Or.inl rfl) wm_X5_70 ws_X5_howMany wy_X5_howMany rfl wd_X5_howMany wi_X5 (ez_rok3 hRm (by omega)) (Nat.le_of_ble_eq_true rfl) dX5_expression_172 ?_
                      refine ez_nmI (fun r44 er44 => ?_)
                      refine ez_iload_n hX 4 dX5_expression_175 rfl ?_
                      refine ez_iconst hX (1 : Int32) dX5_expression_176 (by decide) ?_
                      refine ez_iadd hX dX5_expression_177 ?_
                      refine ez_callV hX (N0 := 0) (As := [.int r41, .int r44, .int (within + (1 : Int32))]) (st := []) kc_9 (Nat.le_of_ble_eq_true rfl) lc_9 rfl (ec_X5_parts _ _ _ M42 r41 r44 (within + (1 : Int32)) E fr lo (hE c6)) (Or.inl rfl) wm_X5_73 wv_X5_parts we_X5_parts wy_X5_parts rfl wd_X5_parts wi_X5 (ez_rok3 hRm (by omega)) (Nat.le_of_ble_eq_true rfl) dX5_expression_178 ?_
                      refine ez_nmIM (fun r45 M46 eM46 => ?_)
                      have ht : t0 = (r45, M46) := hT.symm.trans (by simp only [et_X5_exprB, er1, er2, if_pos c3, er4, if_pos c5, if_neg c6, er7, if_pos c8, eM9, if_neg c10, if_neg c11, if_neg c12, if_neg c24, if_pos c36, er37, er38, if_neg c39, eM40, eM42, er44, eM46])
                      subst ht
                      exact ez_iret hX hQ dX5_expression_181 rfl rfl
                    · -- c39 on
                      refine ez_iconst hX (-1 : Int32) dX5_expression_139 (by decide) ?_
                      have ht : t0 = ((-1 : Int32), M9) := hT.symm.trans (by simp only [et_X5_exprB, er1, er2, if_pos c3, er4, if_pos c5, if_neg c6, er7, if_pos c8, eM9, if_neg c10, if_neg c11, if_neg c12, if_neg c24, if_pos c36, er37, er38, if_pos c39])
                      subst ht
                      exact ez_iret hX hQ dX5_expression_140 rfl rfl
                  · -- c36 on
                    refine ez_iload_n hX 1 dX5_expression_123 rfl ?_
                    refine ez_bipush hX (7 : Int32) dX5_expression_124 (by decide) ?_
                    refine ez_icmp_ne hX 160 dX5_expression_126 (by decide) (fun c48 => ?_) (fun c48 => ?_)
                    · -- c48 jump
                      refine ez_aload_n hX 3 dX5_expression_160 rfl ?_
                      refine ez_aload_n hX 3 dX5_expression_161 rfl ?_
                      refine ez_getr hX kc_9 rfl (Nat.le_of_ble_eq_true rfl) lc_9 (Nat.le_of_ble_eq_true rfl) inX5 1 rfl rc_9_3 wf_X5_15 dX5_expression_162 ?_
                      refine ez_iload_n hX 1 dX5_expression_165 rfl ?_
                      refine ez_iload hX 0 dX5_expression_166 rfl ?_
                      refine ez_callV hX (N0 := 0) (As := [.int r7, .int r1]) (st := [.ref (ez_B X + 9)]) kc_1 (Nat.le_of_ble_eq_true rfl) lc_1 rfl (ec_X2_add _ _ _ M9 r7 r1) (Or.inl rfl) wm_X5_60 wv_X2_add we_X2_add wy_X2_add rfl wd_X2_add wi_X2 (ez_rok3 hRm (by omega)) (Nat.le_of_ble_eq_true rfl) dX5_expression_168 ?_
                      refine ez_nmIM (fun r49 M50 eM50 => ?_)
                      refine ez_iload_n hX 1 dX5_expression_171 rfl ?_
                      refine ez_callS hX (N0 := 0) (As := [.int r7]) (st := [.int r49, .ref (ez_B X + 9)]) (ec_X5_howMany _ _ _ M50 r7) (Or.inl rfl) wm_X5_70 ws_X5_howMany wy_X5_howMany rfl wd_X5_howMany wi_X5 (ez_rok3 hRm (by omega)) (Nat.le_of_ble_eq_true rfl) dX5_expression_172 ?_
                      refine ez_nmI (fun r52 er52 => ?_)
                      refine ez_iload_n hX 4 dX5_expression_175 rfl ?_
                      refine ez_iconst hX (1 : Int32) dX5_expression_176 (by decide) ?_
                      refine ez_iadd hX dX5_expression_177 ?_
                      refine ez_callV hX (N0 := 0) (As := [.int r49, .int r52, .int (within + (1 : Int32))]) (st := []) kc_9 (Nat.le_of_ble_eq_true rfl) lc_9 rfl (ec_X5_parts _ _ _ M50 r49 r52 (within + (1 : Int32)) E fr lo (hE c6)) (Or.inl rfl) wm_X5_73 wv_X5_parts we_X5_parts wy_X5_parts rfl wd_X5_parts wi_X5 (ez_rok3 hRm (by omega)) (Nat.le_of_ble_eq_true rfl) dX5_expression_178 ?_
                      refine ez_nmIM (fun r53 M54 eM54 => ?_)
                      have ht : t0 = (r53, M54) := hT.symm.trans (by simp only [et_X5_exprB, er1, er2, if_pos c3, er4, if_pos c5, if_neg c6, er7, if_pos c8, eM9, if_neg c10, if_neg c11, if_neg c12, if_neg c24, if_neg c36, if_neg c48, eM50, er52, eM54])
                      subst ht
                      exact ez_iret hX hQ dX5_expression_181 rfl rfl
                    · -- c48 on
                      refine ez_aload_n hX 3 dX5_expression_129 rfl ?_
                      refine ez_callV hX (N0 := 0) (As := []) (st := []) kc_9 (Nat.le_of_ble_eq_true rfl) lc_9 rfl (ec_X5_sign _ _ _ M9) (Or.inl rfl) wm_X5_46 wv_X5_sign we_X5_sign wy_X5_sign rfl wd_X5_sign wi_X5 (ez_rok3 hRm (by omega)) (Nat.le_of_ble_eq_true rfl) dX5_expression_130 ?_
                      refine ez_nmI (fun r56 er56 => ?_)
                      refine ez_callS hX (N0 := 0) (As := [.int r56]) (st := []) (ec_X5_isLetter _ _ _ M9 r56) (Or.inl rfl) wm_X5_57 ws_X5_isLetter wy_X5_isLetter rfl wd_X5_isLetter wi_X5 (ez_rok3 hRm (by omega)) (Nat.le_of_ble_eq_true rfl) dX5_expression_133 ?_
                      refine ez_nmI (fun r57 er57 => ?_)
                      refine ez_if_ne hX 141 dX5_expression_136 (by decide) (fun c58 => ?_) (fun c58 => ?_)
                      · -- c58 jump
                        refine ez_aload_n hX 3 dX5_expression_141 rfl ?_
                        refine ez_callV hX (N0 := 0) (As := []) (st := []) kc_9 (Nat.le_of_ble_eq_true rfl) lc_9 rfl (ec_X5_sign _ _ _ M9) (Or.inl rfl) wm_X5_46 wv_X5_sign we_X5_sign wy_X5_sign rfl wd_X5_sign wi_X5 (ez_rok3 hRm (by omega)) (Nat.le_of_ble_eq_true rfl) dX5_expression_142 ?_
                        refine ez_reI er56 ?_
                        refine ez_bipush hX (97 : Int32) dX5_expression_145 (by decide) ?_
                        refine ez_isub hX dX5_expression_147 ?_
                        refine ez_istore hX [(4, .int (r56 - (97 : Int32))), (3, .int r7), (2, .int r1), (0, .ref (ez_B X + 9)), (1, .int within)] dX5_expression_148 (ez_lt hnL rfl) rfl ?_
                        refine ez_aload_n hX 3 dX5_expression_150 rfl ?_
                        refine ez_dup hX dX5_expression_151 rfl ?_
                        refine ez_geti hX kc_9 rfl (Nat.le_of_ble_eq_true rfl) lc_9 (Nat.le_of_ble_eq_true rfl) inX5 rfl wf_X5_32 dX5_expression_152 ?_
                        refine ez_iconst hX (1 : Int32) dX5_expression_155 (by decide) ?_
                        refine ez_iadd hX dX5_expression_156 ?_
                        refine ez_puti hX kc_9 rfl (Nat.le_of_ble_eq_true rfl) lc_9 (Nat.le_of_ble_eq_true rfl) inX5 tyX5 tyX5_ok nmX5 ((M9.1 9 1) + (1 : Int32)) rfl wf_X5_32 rfl rfl rfl dX5_expression_157 ?_
                        refine ez_nmM (fun M59 eM59 => ?_)
                        refine ez_aload_n hX 3 dX5_expression_160 rfl ?_
                        refine ez_aload_n hX 3 dX5_expression_161 rfl ?_
                        refine ez_getr hX kc_9 rfl (Nat.le_of_ble_eq_true rfl) lc_9 (Nat.le_of_ble_eq_true rfl) inX5 1 rfl rc_9_3 wf_X5_15 dX5_expression_162 ?_
                        refine ez_iload_n hX 1 dX5_expression_165 rfl ?_
                        refine ez_iload hX 0 dX5_expression_166 rfl ?_
                        refine ez_callV hX (N0 := 0) (As := [.int r7, .int (r56 - (97 : Int32))]) (st := [.ref (ez_B X + 9)]) kc_1 (Nat.le_of_ble_eq_true rfl) lc_1 rfl (ec_X2_add _ _ _ M59 r7 (r56 - (97 : Int32))) (Or.inl rfl) wm_X5_60 wv_X2_add we_X2_add wy_X2_add rfl wd_X2_add wi_X2 (ez_rok3 hRm (by omega)) (Nat.le_of_ble_eq_true rfl) dX5_expression_168 ?_
                        refine ez_nmIM (fun r60 M61 eM61 => ?_)
                        refine ez_iload_n hX 1 dX5_expression_171 rfl ?_
                        refine ez_callS hX (N0 := 0) (As := [.int r7]) (st := [.int r60, .ref (ez_B X + 9)]) (ec_X5_howMany _ _ _ M61 r7) (Or.inl rfl) wm_X5_70 ws_X5_howMany wy_X5_howMany rfl wd_X5_howMany wi_X5 (ez_rok3 hRm (by omega)) (Nat.le_of_ble_eq_true rfl) dX5_expression_172 ?_
                        refine ez_nmI (fun r63 er63 => ?_)
                        refine ez_iload_n hX 4 dX5_expression_175 rfl ?_
                        refine ez_iconst hX (1 : Int32) dX5_expression_176 (by decide) ?_
                        refine ez_iadd hX dX5_expression_177 ?_
                        refine ez_callV hX (N0 := 0) (As := [.int r60, .int r63, .int (within + (1 : Int32))]) (st := []) kc_9 (Nat.le_of_ble_eq_true rfl) lc_9 rfl (ec_X5_parts _ _ _ M61 r60 r63 (within + (1 : Int32)) E fr lo (hE c6)) (Or.inl rfl) wm_X5_73 wv_X5_parts we_X5_parts wy_X5_parts rfl wd_X5_parts wi_X5 (ez_rok3 hRm (by omega)) (Nat.le_of_ble_eq_true rfl) dX5_expression_178 ?_
                        refine ez_nmIM (fun r64 M65 eM65 => ?_)
                        have ht : t0 = (r64, M65) := hT.symm.trans (by simp only [et_X5_exprB, er1, er2, if_pos c3, er4, if_pos c5, if_neg c6, er7, if_pos c8, eM9, if_neg c10, if_neg c11, if_neg c12, if_neg c24, if_neg c36, if_pos c48, er56, er57, if_neg c58, eM59, eM61, er63, eM65])
                        subst ht
                        exact ez_iret hX hQ dX5_expression_181 rfl rfl
                      · -- c58 on
                        refine ez_iconst hX (-1 : Int32) dX5_expression_139 (by decide) ?_
                        have ht : t0 = ((-1 : Int32), M9) := hT.symm.trans (by simp only [et_X5_exprB, er1, er2, if_pos c3, er4, if_pos c5, if_neg c6, er7, if_pos c8, eM9, if_neg c10, if_neg c11, if_neg c12, if_neg c24, if_neg c36, if_pos c48, er56, er57, if_pos c58])
                        subst ht
                        exact ez_iret hX hQ dX5_expression_140 rfl rfl
            · -- c11 on
              refine ez_iload_n hX 1 dX5_expression_97 rfl ?_
              refine ez_bipush hX (70 : Int32) dX5_expression_98 (by decide) ?_
              refine ez_isub hX dX5_expression_100 ?_
              refine ez_goto hX 105 dX5_expression_101 (by decide) ?_
              refine ez_istore hX [(4, .int (r1 - (70 : Int32))), (3, .int r7), (2, .int r1), (0, .ref (ez_B X + 9)), (1, .int within)] dX5_expression_105 (ez_lt hnL rfl) rfl ?_
              refine ez_iload_n hX 1 dX5_expression_107 rfl ?_
              refine ez_iconst hX (2 : Int32) dX5_expression_108 (by decide) ?_
              refine ez_icmp_eq hX 129 dX5_expression_109 (by decide) (fun c => absurd c (by rw [c11] <;> decide)) (fun _ => ?_)
              refine ez_iload_n hX 1 dX5_expression_112 rfl ?_
              refine ez_bipush hX (13 : Int32) dX5_expression_113 (by decide) ?_
              refine ez_icmp_eq hX 129 dX5_expression_115 (by decide) (fun c => absurd c (by rw [c11] <;> decide)) (fun _ => ?_)
              refine ez_iload_n hX 1 dX5_expression_118 rfl ?_
              refine ez_iconst hX (5 : Int32) dX5_expression_119 (by decide) ?_
              refine ez_icmp_eq hX 129 dX5_expression_120 (by decide) (fun c => absurd c (by rw [c11] <;> decide)) (fun _ => ?_)
              refine ez_iload_n hX 1 dX5_expression_123 rfl ?_
              refine ez_bipush hX (7 : Int32) dX5_expression_124 (by decide) ?_
              refine ez_icmp_ne hX 160 dX5_expression_126 (by decide) (fun _ => ?_) (fun c => absurd c (by rw [c11] <;> decide))
              refine ez_aload_n hX 3 dX5_expression_160 rfl ?_
              refine ez_aload_n hX 3 dX5_expression_161 rfl ?_
              refine ez_getr hX kc_9 rfl (Nat.le_of_ble_eq_true rfl) lc_9 (Nat.le_of_ble_eq_true rfl) inX5 1 rfl rc_9_3 wf_X5_15 dX5_expression_162 ?_
              refine ez_iload_n hX 1 dX5_expression_165 rfl ?_
              refine ez_iload hX 0 dX5_expression_166 rfl ?_
              refine ez_callV hX (N0 := 0) (As := [.int r7, .int (r1 - (70 : Int32))]) (st := [.ref (ez_B X + 9)]) kc_1 (Nat.le_of_ble_eq_true rfl) lc_1 rfl (ec_X2_add _ _ _ M9 r7 (r1 - (70 : Int32))) (Or.inl rfl) wm_X5_60 wv_X2_add we_X2_add wy_X2_add rfl wd_X2_add wi_X2 (ez_rok3 hRm (by omega)) (Nat.le_of_ble_eq_true rfl) dX5_expression_168 ?_
              refine ez_nmIM (fun r67 M68 eM68 => ?_)
              refine ez_iload_n hX 1 dX5_expression_171 rfl ?_
              refine ez_callS hX (N0 := 0) (As := [.int r7]) (st := [.int r67, .ref (ez_B X + 9)]) (ec_X5_howMany _ _ _ M68 r7) (Or.inl rfl) wm_X5_70 ws_X5_howMany wy_X5_howMany rfl wd_X5_howMany wi_X5 (ez_rok3 hRm (by omega)) (Nat.le_of_ble_eq_true rfl) dX5_expression_172 ?_
              refine ez_nmI (fun r70 er70 => ?_)
              refine ez_iload_n hX 4 dX5_expression_175 rfl ?_
              refine ez_iconst hX (1 : Int32) dX5_expression_176 (by decide) ?_
              refine ez_iadd hX dX5_expression_177 ?_
              refine ez_callV hX (N0 := 0) (As := [.int r67, .int r70, .int (within + (1 : Int32))]) (st := []) kc_9 (Nat.le_of_ble_eq_true rfl) lc_9 rfl (ec_X5_parts _ _ _ M68 r67 r70 (within + (1 : Int32)) E fr lo (hE c6)) (Or.inl rfl) wm_X5_73 wv_X5_parts we_X5_parts wy_X5_parts rfl wd_X5_parts wi_X5 (ez_rok3 hRm (by omega)) (Nat.le_of_ble_eq_true rfl) dX5_expression_178 ?_
              refine ez_nmIM (fun r71 M72 eM72 => ?_)
              have ht : t0 = (r71, M72) := hT.symm.trans (by simp only [et_X5_exprB, er1, er2, if_pos c3, er4, if_pos c5, if_neg c6, er7, if_pos c8, eM9, if_neg c10, if_pos c11, eM68, er70, eM72])
              subst ht
              exact ez_iret hX hQ dX5_expression_181 rfl rfl
          · -- c10 on
            refine ez_aload_n hX 2 dX5_expression_84 rfl ?_
            refine ez_iload_n hX 3 dX5_expression_85 rfl ?_
            refine ez_iconst hX (1 : Int32) dX5_expression_86 (by decide) ?_
            refine ez_iadd hX dX5_expression_87 ?_
            refine ez_callV hX (N0 := 0) (As := [.int (within + (1 : Int32))]) (st := []) kc_9 (Nat.le_of_ble_eq_true rfl) lc_9 rfl (ec_X5_list _ _ _ M9 (within + (1 : Int32)) E fr lo (hE c6)) (Or.inl rfl) wm_X5_67 wv_X5_list we_X5_list wy_X5_list rfl wd_X5_list wi_X5 (ez_rok3 hRm (by omega)) (Nat.le_of_ble_eq_true rfl) dX5_expression_88 ?_
            refine ez_nmIM (fun r74 M75 eM75 => ?_)
            have ht : t0 = (r74, M75) := hT.symm.trans (by simp only [et_X5_exprB, er1, er2, if_pos c3, er4, if_pos c5, if_neg c6, er7, if_pos c8, eM9, if_pos c10, eM75])
            subst ht
            exact ez_iret hX hQ dX5_expression_91 rfl rfl
        · -- c8 on
          refine ez_iconst hX (-1 : Int32) dX5_expression_67 (by decide) ?_
          have ht : t0 = ((-1 : Int32), M) := hT.symm.trans (by simp only [et_X5_exprB, er1, er2, if_pos c3, er4, if_pos c5, if_neg c6, er7, if_neg c8])
          subst ht
          exact ez_iret hX hQ dX5_expression_68 rfl rfl
    · -- c5 on
      refine ez_aload_n hX 1 dX5_expression_24 rfl ?_
      refine ez_dup hX dX5_expression_25 rfl ?_
      refine ez_geti hX kc_9 rfl (Nat.le_of_ble_eq_true rfl) lc_9 (Nat.le_of_ble_eq_true rfl) inX5 rfl wf_X5_32 dX5_expression_26 ?_
      refine ez_iconst hX (1 : Int32) dX5_expression_29 (by decide) ?_
      refine ez_iadd hX dX5_expression_30 ?_
      refine ez_puti hX kc_9 rfl (Nat.le_of_ble_eq_true rfl) lc_9 (Nat.le_of_ble_eq_true rfl) inX5 tyX5 tyX5_ok nmX5 ((M.1 9 1) + (1 : Int32)) rfl wf_X5_32 rfl rfl rfl dX5_expression_31 ?_
      refine ez_nmM (fun M77 eM77 => ?_)
      refine ez_aload_n hX 1 dX5_expression_34 rfl ?_
      refine ez_getr hX kc_9 rfl (Nat.le_of_ble_eq_true rfl) lc_9 (Nat.le_of_ble_eq_true rfl) inX5 1 rfl rc_9_3 wf_X5_15 dX5_expression_35 ?_
      refine ez_bipush hX (12 : Int32) dX5_expression_38 (by decide) ?_
      refine ez_iload_n hX 0 dX5_expression_40 rfl ?_
      refine ez_bipush hX (97 : Int32) dX5_expression_41 (by decide) ?_
      refine ez_isub hX dX5_expression_43 ?_
      refine ez_callV hX (N0 := 0) (As := [.int (12 : Int32), .int (r1 - (97 : Int32))]) (st := []) kc_1 (Nat.le_of_ble_eq_true rfl) lc_1 rfl (ec_X2_add _ _ _ M77 (12 : Int32) (r1 - (97 : Int32))) (Or.inl rfl) wm_X5_60 wv_X2_add we_X2_add wy_X2_add rfl wd_X2_add wi_X2 (ez_rok3 hRm (by omega)) (Nat.le_of_ble_eq_true rfl) dX5_expression_44 ?_
      refine ez_nmIM (fun r78 M79 eM79 => ?_)
      have ht : t0 = (r78, M79) := hT.symm.trans (by simp only [et_X5_exprB, er1, er2, if_pos c3, er4, if_neg c5, eM77, eM79])
      subst ht
      exact ez_iret hX hQ dX5_expression_47 rfl rfl
  · -- c3 on
    refine ez_aload_n hX 1 dX5_expression_12 rfl ?_
    refine ez_callV hX (N0 := 0) (As := []) (st := []) kc_9 (Nat.le_of_ble_eq_true rfl) lc_9 rfl (ec_X5_digits _ _ _ M) (Or.inl rfl) wm_X5_54 wv_X5_digits we_X5_digits wy_X5_digits rfl wd_X5_digits wi_X5 (ez_rok3 hRm (by omega)) (Nat.le_of_ble_eq_true rfl) dX5_expression_13 ?_
    refine ez_nmIM (fun r81 M82 eM82 => ?_)
    have ht : t0 = (r81, M82) := hT.symm.trans (by simp only [et_X5_exprB, er1, er2, if_neg c3, eM82])
    subst ht
    exact ez_iret hX hQ dX5_expression_16 rfl rfl

def et_X5_expr : Nat → em_M → Int32 → Int32 × em_M
  | 0 => et_X5_exprB (fun M _ => (0, M))
  | d + 1 => et_X5_exprB (et_X5_expr d)
theorem ec_X5_expr (l : Launch) (D : em_G) (B : Nat) : ∀ (d : Nat) (M : em_M) (within : Int32), 7 ≤ within.toInt + d → em_C l D B yX5_expression cX5_expression 5 (some .int) (8 + 8 * d) (200 + 200 * d) 0 0 false [.ref (B + 9), .int within] 132 em_R M (some (.int (et_X5_expr d M within).1)) 132 em_R (et_X5_expr d M within).2 := by
  have e7 : (7 : Int32).toInt = 7 := by decide
  intro d
  induction d with
  | zero =>
    intro M within h
    exact ec_X5_exprB l D B M within (fun M _ => (0, M)) 0 0 (fun h7 => by rw [Int32.le_iff_toInt_le, e7] at h7; omega)
  | succ d ih =>
    intro M within h
    have := ec_X5_exprB l D B M within (et_X5_expr d) (8 + 8 * d) (200 + 200 * d) (fun h7 M' => by
      have e := ez_inc (Int32.not_le.mp h7)
      exact ih M' (within + 1) (by rw [e]; omega))
    rw [show 8 + 8 * (d + 1) = 8 + 8 * d + 8 by omega, show 200 + 200 * (d + 1) = 200 + 200 * d + 200 by omega]
    exact this
theorem ec_X5_expression (l : Launch) (D : em_G) (B : Nat) (M : em_M) (within : Int32) (h : within = 0) : em_C l D B yX5_expression cX5_expression 5 (some .int) 64 1600 0 0 false [.ref (B + 9), .int within] 132 em_R M (some (.int (et_X5_expr 7 M within).1)) 132 em_R (et_X5_expr 7 M within).2 :=
  ec_X5_expr l D B 7 M within (by rw [h]; decide)

def et_X5_take  (M : em_M) : Int32 × em_M :=
  let M1 := em_pI M 9 1 (0 : Int32)
  let q4 := et_X5_expr 7 M1 (0 : Int32)
  let r2 := q4.1
  let M3 := q4.2
  (if r2 = (M.1 1 1) then (if (M3.1 9 1) = (M3.1 9 0) then let M11 := em_pI M3 9 0 (0 : Int32)
  let q14 := et_X2_end M11 (M.1 1 1)
  let r12 := q14.1
  let M13 := q14.2
  (r12, M13) else let M9 := em_pI M3 9 0 (0 : Int32)
  let M10 := em_pI M9 1 1 (M.1 1 1)
  (((-10 : Int32) - (M10.1 9 1)), M10)) else let M6 := em_pI M3 9 0 (0 : Int32)
  let M7 := em_pI M6 1 1 (M.1 1 1)
  (((-10 : Int32) - (M7.1 9 1)), M7))
set_option maxHeartbeats 4000000 in
set_option maxRecDepth 100000 in
theorem ec_X5_take (l : Launch) (D : em_G) (B : Nat) (M : em_M) : em_C l D B yX5_take cX5_take 3 (some .int) 65 1624 0 0 false [.ref (B + 9)] 132 em_R M (some (.int (et_X5_take M).1)) 132 em_R ((et_X5_take M).2) := by
  refine em_C_of RX5 [(0, .ref (B + 9))] (by decide) rfl rfl (Nat.le_of_ble_eq_true rfl) ?_
  rintro X rfl rfl rfl hRm hnL hnm hsz hX hQ
  obtain ⟨t0, hT⟩ : ∃ tz, et_X5_take M = tz := ⟨_, rfl⟩
  rw [hT] at hQ
  refine ez_aload_n hX 0 dX5_take_0 rfl ?_
  refine ez_getr hX kc_9 rfl (Nat.le_of_ble_eq_true rfl) lc_9 (Nat.le_of_ble_eq_true rfl) inX5 1 rfl rc_9_3 wf_X5_15 dX5_take_1 ?_
  refine ez_geti hX kc_1 rfl (Nat.le_of_ble_eq_true rfl) lc_1 (Nat.le_of_ble_eq_true rfl) inX2 rfl wf_X5_27 dX5_take_4 ?_
  refine ez_istore_n hX [(1, .int (M.1 1 1)), (0, .ref (ez_B X + 9))] dX5_take_7 (ez_lt hnL rfl) rfl ?_
  refine ez_aload_n hX 1 dX5_take_8 rfl ?_
  refine ez_iconst hX (0 : Int32) dX5_take_9 (by decide) ?_
  refine ez_puti hX kc_9 rfl (Nat.le_of_ble_eq_true rfl) lc_9 (Nat.le_of_ble_eq_true rfl) inX5 tyX5 tyX5_ok nmX5 (0 : Int32) rfl wf_X5_32 rfl rfl rfl dX5_take_10 ?_
  refine ez_nmM (fun M1 eM1 => ?_)
  refine ez_aload_n hX 1 dX5_take_13 rfl ?_
  refine ez_iconst hX (0 : Int32) dX5_take_14 (by decide) ?_
  refine ez_callV hX (N0 := 0) (As := [.int (0 : Int32)]) (st := []) kc_9 (Nat.le_of_ble_eq_true rfl) lc_9 rfl (ec_X5_expression _ _ _ M1 (0 : Int32) rfl) (Or.inl rfl) wm_X5_35 wv_X5_expression we_X5_expression wy_X5_expression rfl wd_X5_expression wi_X5 (ez_rok hRm rfl) (Nat.le_of_ble_eq_true rfl) dX5_take_15 ?_
  refine ez_nmIM (fun r2 M3 eM3 => ?_)
  refine ez_iload_n hX 0 dX5_take_18 rfl ?_
  refine ez_icmp_ne hX 37 dX5_take_19 (by decide) (fun c5 => ?_) (fun c5 => ?_)
  · -- c5 jump
    refine ez_iconst hX (0 : Int32) dX5_take_37 (by decide) ?_
    refine ez_istore_n hX [(2, .int (0 : Int32)), (1, .int (M.1 1 1)), (0, .ref (ez_B X + 9))] dX5_take_38 (ez_lt hnL rfl) rfl ?_
    refine ez_aload_n hX 2 dX5_take_39 rfl ?_
    refine ez_iconst hX (0 : Int32) dX5_take_40 (by decide) ?_
    refine ez_puti hX kc_9 rfl (Nat.le_of_ble_eq_true rfl) lc_9 (Nat.le_of_ble_eq_true rfl) inX5 tyX5 tyX5_ok nmX5 (0 : Int32) rfl wf_X5_19 rfl rfl rfl dX5_take_41 ?_
    refine ez_nmM (fun M6 eM6 => ?_)
    refine ez_iload_n hX 0 dX5_take_44 rfl ?_
    refine ez_if_eq hX 57 dX5_take_45 (by decide) (fun _ => ?_) (fun c => absurd c (by decide))
    refine ez_aload_n hX 2 dX5_take_57 rfl ?_
    refine ez_getr hX kc_9 rfl (Nat.le_of_ble_eq_true rfl) lc_9 (Nat.le_of_ble_eq_true rfl) inX5 1 rfl rc_9_3 wf_X5_15 dX5_take_58 ?_
    refine ez_iload_n hX 1 dX5_take_61 rfl ?_
    refine ez_puti hX kc_1 rfl (Nat.le_of_ble_eq_true rfl) lc_1 (Nat.le_of_ble_eq_true rfl) inX2 tyX2 tyX2_ok nmX2 (M.1 1 1) rfl wf_X5_27 rfl rfl rfl dX5_take_62 ?_
    refine ez_nmM (fun M7 eM7 => ?_)
    refine ez_bipush hX (-10 : Int32) dX5_take_65 (by decide) ?_
    refine ez_aload_n hX 2 dX5_take_67 rfl ?_
    refine ez_geti hX kc_9 rfl (Nat.le_of_ble_eq_true rfl) lc_9 (Nat.le_of_ble_eq_true rfl) inX5 rfl wf_X5_32 dX5_take_68 ?_
    refine ez_isub hX dX5_take_71 ?_
    have ht : t0 = (((-10 : Int32) - (M7.1 9 1)), M7) := hT.symm.trans (by simp only [et_X5_take, eM1, eM3, if_neg c5, eM6, eM7])
    subst ht
    exact ez_iret hX hQ dX5_take_72 rfl rfl
  · -- c5 on
    refine ez_aload_n hX 1 dX5_take_22 rfl ?_
    refine ez_geti hX kc_9 rfl (Nat.le_of_ble_eq_true rfl) lc_9 (Nat.le_of_ble_eq_true rfl) inX5 rfl wf_X5_32 dX5_take_23 ?_
    refine ez_aload_n hX 1 dX5_take_26 rfl ?_
    refine ez_geti hX kc_9 rfl (Nat.le_of_ble_eq_true rfl) lc_9 (Nat.le_of_ble_eq_true rfl) inX5 rfl wf_X5_19 dX5_take_27 ?_
    refine ez_icmp_ne hX 37 dX5_take_30 (by decide) (fun c8 => ?_) (fun c8 => ?_)
    · -- c8 jump
      refine ez_iconst hX (0 : Int32) dX5_take_37 (by decide) ?_
      refine ez_istore_n hX [(2, .int (0 : Int32)), (1, .int (M.1 1 1)), (0, .ref (ez_B X + 9))] dX5_take_38 (ez_lt hnL rfl) rfl ?_
      refine ez_aload_n hX 2 dX5_take_39 rfl ?_
      refine ez_iconst hX (0 : Int32) dX5_take_40 (by decide) ?_
      refine ez_puti hX kc_9 rfl (Nat.le_of_ble_eq_true rfl) lc_9 (Nat.le_of_ble_eq_true rfl) inX5 tyX5 tyX5_ok nmX5 (0 : Int32) rfl wf_X5_19 rfl rfl rfl dX5_take_41 ?_
      refine ez_nmM (fun M9 eM9 => ?_)
      refine ez_iload_n hX 0 dX5_take_44 rfl ?_
      refine ez_if_eq hX 57 dX5_take_45 (by decide) (fun _ => ?_) (fun c => absurd c (by decide))
      refine ez_aload_n hX 2 dX5_take_57 rfl ?_
      refine ez_getr hX kc_9 rfl (Nat.le_of_ble_eq_true rfl) lc_9 (Nat.le_of_ble_eq_true rfl) inX5 1 rfl rc_9_3 wf_X5_15 dX5_take_58 ?_
      refine ez_iload_n hX 1 dX5_take_61 rfl ?_
      refine ez_puti hX kc_1 rfl (Nat.le_of_ble_eq_true rfl) lc_1 (Nat.le_of_ble_eq_true rfl) inX2 tyX2 tyX2_ok nmX2 (M.1 1 1) rfl wf_X5_27 rfl rfl rfl dX5_take_62 ?_
      refine ez_nmM (fun M10 eM10 => ?_)
      refine ez_bipush hX (-10 : Int32) dX5_take_65 (by decide) ?_
      refine ez_aload_n hX 2 dX5_take_67 rfl ?_
      refine ez_geti hX kc_9 rfl (Nat.le_of_ble_eq_true rfl) lc_9 (Nat.le_of_ble_eq_true rfl) inX5 rfl wf_X5_32 dX5_take_68 ?_
      refine ez_isub hX dX5_take_71 ?_
      have ht : t0 = (((-10 : Int32) - (M10.1 9 1)), M10) := hT.symm.trans (by simp only [et_X5_take, eM1, eM3, if_pos c5, if_neg c8, eM9, eM10])
      subst ht
      exact ez_iret hX hQ dX5_take_72 rfl rfl
    · -- c8 on
      refine ez_iconst hX (1 : Int32) dX5_take_33 (by decide) ?_
      refine ez_goto hX 38 dX5_take_34 (by decide) ?_
      refine ez_istore_n hX [(2, .int (1 : Int32)), (1, .int (M.1 1 1)), (0, .ref (ez_B X + 9))] dX5_take_38 (ez_lt hnL rfl) rfl ?_
      refine ez_aload_n hX 2 dX5_take_39 rfl ?_
      refine ez_iconst hX (0 : Int32) dX5_take_40 (by decide) ?_
      refine ez_puti hX kc_9 rfl (Nat.le_of_ble_eq_true rfl) lc_9 (Nat.le_of_ble_eq_true rfl) inX5 tyX5 tyX5_ok nmX5 (0 : Int32) rfl wf_X5_19 rfl rfl rfl dX5_take_41 ?_
      refine ez_nmM (fun M11 eM11 => ?_)
      refine ez_iload_n hX 0 dX5_take_44 rfl ?_
      refine ez_if_eq hX 57 dX5_take_45 (by decide) (fun c => absurd c (by decide)) (fun _ => ?_)
      refine ez_aload_n hX 2 dX5_take_48 rfl ?_
      refine ez_getr hX kc_9 rfl (Nat.le_of_ble_eq_true rfl) lc_9 (Nat.le_of_ble_eq_true rfl) inX5 1 rfl rc_9_3 wf_X5_15 dX5_take_49 ?_
      refine ez_iload_n hX 1 dX5_take_52 rfl ?_
      refine ez_callV hX (N0 := 0) (As := [.int (M.1 1 1)]) (st := []) kc_1 (Nat.le_of_ble_eq_true rfl) lc_1 rfl (ec_X2_end _ _ _ M11 (M.1 1 1)) (Or.inl rfl) wm_X5_39 wv_X2_end we_X2_end wy_X2_end rfl wd_X2_end wi_X2 (ez_rok hRm rfl) (Nat.le_of_ble_eq_true rfl) dX5_take_53 ?_
      refine ez_nmIM (fun r12 M13 eM13 => ?_)
      have ht : t0 = (r12, M13) := hT.symm.trans (by simp only [et_X5_take, eM1, eM3, if_pos c5, if_pos c8, eM11, eM13])
      subst ht
      exact ez_iret hX hQ dX5_take_56 rfl rfl

theorem ez_in60 {k : Int32} {f : Nat} (h : ez_cnt k 60 f) (hk : ¬ (60 : Int32) ≤ k) : vp_in k 60 := by
  rw [Int32.le_iff_toInt_le, show (60 : Int32).toInt = 60 by decide] at hk
  rw [vp_in_iff]
  unfold ez_cnt at h
  omega

def et_X8_become_12  (t : Nat)  : Nat → em_M → Int32 → em_M
  | 0, M, _ => M
  | fu + 1, M, k =>
  (if (60 : Int32) ≤ k then M else let M4 := em_pL M (t + 1) (k).toNatClampNeg (0 : Int64)
  et_X8_become_12 t fu M4 (k + (1 : Int32)))
def et_X8_become  (t : Nat) (M : em_M) (newSort : Int32) (n : Int32) : em_M :=
  let M1 := em_pI M t 0 newSort
  let M2 := em_pI M1 t 1 n
  et_X8_become_12 t 61 M2 (0 : Int32)
set_option maxHeartbeats 4000000 in
set_option maxRecDepth 100000 in
theorem el_X8_become_12 (X : em_X) (t : Nat) (ht : et t)   (t0 : em_M) (hRm : ez_rm X = { frames := 0, cells := 0, slots := 0, locals := 0 }) (hnL : ez_nL X = 4) (hX : ez_ok X cX8_become RX8) (hQ : ez_ret X none (none) 132 em_R (t0) 0 0) : ∀ (fu : Nat) (M : em_M) (k : Int32), ez_cnt k (60 : Int32) fu → et_X8_become_12 t fu M k = t0 → ez_Z X 132 em_R M 0 0 12 [(0, .ref (ez_B X + t)), (3, .int k)] [] := by
  intro fu
  induction fu with
  | zero =>
    intro M k hc hT
    exact absurd hc ez_cntz
  | succ fu ih =>
    intro M k hc hT
    refine ez_iload_n hX 1 dX8_become_12 rfl ?_
    refine ez_aload_n hX 0 dX8_become_13 rfl ?_
    refine ez_getr hX (kt_0 ht) rfl (Nat.le_of_ble_eq_true rfl) (kt_lt0 ht) (Nat.le_of_ble_eq_true rfl) inX8 (t + 1) rfl (rt_0_2 ht) wf_X8_15 dX8_become_14 ?_
    refine ez_alenJ hX (kt_1 ht) (kt_lt ht 1 (by decide)) (60 : Int32) (by decide) dX8_become_17 ?_
    refine ez_icmp_ge hX 34 dX8_become_18 (by decide) (fun c3 => ?_) (fun c3 => ?_)
    · -- c3 jump
      have ht : t0 = M := hT.symm.trans (by simp only [et_X8_become_12, if_pos c3])
      subst ht
      exact ez_vret hX hQ dX8_become_34 rfl rfl
    · -- c3 on
      refine ez_aload_n hX 0 dX8_become_21 rfl ?_
      refine ez_getr hX (kt_0 ht) rfl (Nat.le_of_ble_eq_true rfl) (kt_lt0 ht) (Nat.le_of_ble_eq_true rfl) inX8 (t + 1) rfl (rt_0_2 ht) wf_X8_15 dX8_become_22 ?_
      refine ez_iload_n hX 1 dX8_become_25 rfl ?_
      refine ez_lconst hX (0 : Int64) dX8_become_26 (by decide) ?_
      refine ez_last hX (kt_1 ht) (kt_lt ht 1 (by decide)) (ez_in60 hc c3) dX8_become_27 ?_
      refine ez_nmM (fun M4 eM4 => ?_)
      refine ez_iinc hX (k + (1 : Int32)) 1 [(3, .int (k + (1 : Int32))), (0, .ref (ez_B X + t))] dX8_become_28 rfl rfl (ez_lt hnL rfl) rfl ?_
      refine ez_goto hX 12 dX8_become_31 (by decide) ?_
      refine ez_lv [1, 0] rfl ?_
      exact ih M4 (k + (1 : Int32)) (ez_cnts' hc c3) (Eq.trans (by simp only [et_X8_become_12, if_neg c3, eM4]) hT)
set_option maxHeartbeats 4000000 in
set_option maxRecDepth 100000 in
theorem ec_X8_become (l : Launch) (D : em_G) (B : Nat) (t : Nat) (ht : et t) (M : em_M) (newSort : Int32) (n : Int32) : em_C l D B yX8_become cX8_become 4 none 0 0 0 0 false [.ref (B + t), .int newSort, .int n] 132 em_R M (none) 132 em_R ((et_X8_become t M newSort n)) := by
  refine em_C_of RX8 [(0, .ref (B + t)), (1, .int newSort), (2, .int n)] (by decide) rfl rfl (Nat.le_of_ble_eq_true rfl) ?_
  rintro X rfl rfl rfl hRm hnL hnm hsz hX hQ
  obtain ⟨t0, hT⟩ : ∃ tz, et_X8_become t M newSort n = tz := ⟨_, rfl⟩
  rw [hT] at hQ
  refine ez_aload_n hX 0 dX8_become_0 rfl ?_
  refine ez_iload_n hX 1 dX8_become_1 rfl ?_
  refine ez_puti hX (kt_0 ht) rfl (Nat.le_of_ble_eq_true rfl) (kt_lt0 ht) (Nat.le_of_ble_eq_true rfl) inX8 tyX8 tyX8_ok nmX8 newSort rfl wf_X8_11 rfl rfl rfl dX8_become_2 ?_
  refine ez_nmM (fun M1 eM1 => ?_)
  refine ez_aload_n hX 0 dX8_become_5 rfl ?_
  refine ez_iload_n hX 2 dX8_become_6 rfl ?_
  refine ez_puti hX (kt_0 ht) rfl (Nat.le_of_ble_eq_true rfl) (kt_lt0 ht) (Nat.le_of_ble_eq_true rfl) inX8 tyX8 tyX8_ok nmX8 n rfl wf_X8_19 rfl rfl rfl dX8_become_7 ?_
  refine ez_nmM (fun M2 eM2 => ?_)
  refine ez_iconst hX (0 : Int32) dX8_become_10 (by decide) ?_
  refine ez_istore_n hX [(3, .int (0 : Int32)), (0, .ref (ez_B X + t)), (1, .int newSort), (2, .int n)] dX8_become_11 (ez_lt hnL rfl) rfl ?_
  refine ez_lv [1, 0] rfl ?_
  exact el_X8_become_12 X t ht t0 hRm hnL hX hQ 61 M2 (0 : Int32) (ez_cnt0 (60 : Int32)) (Eq.trans (by simp only [et_X8_become, eM1, eM2]) hT)
