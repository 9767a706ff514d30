
/-! THE CLAIM OUT OF ONE WALK OF THE LAW'S BODY. Your part is whole_start (and what it stands on); all else here is the same for every law, but numbers. -/
def R_law : String := "EscapeFramesLaw"
def lw_P (b : Addr) (xs : List Int32) (args : Array Value) (s : State) : Prop := args = #[.ref b] ∧ s.IntsAt b xs ∧ xs.length ≤ 3072 ∧ (Jvm.Cond.and given_1 narrow_1).before args s = true
def lw_Q (_ : Array Value) (s : State) (o : Outcome) (t : State) : Prop := o = .returned (some (.int 1)) ∧ Framed s o t [] 600000 7302250
def lw_Z (below : List Frame) (a : Array Value) (s : State) : State → Prop := fun t => ∃ o, t.status = .running ∧ Ended t below o ∧ lw_Q a s o t
/-- the law's own end, with 1 on the stack, nothing written that was there before, its room as the claim has it -/
theorem lw_ret {p : Program} {l : Launch} {e : Env} {s : State} {m : MethodId} {below : List Frame} {meth : Method} {c : Code} {b : Nat} (hx : p.tables.exec = Jvm.exec) (hb : c.code = code) (hr : meth.sig.returnType = ret) (hlocks : meth.locks = false) {pc : Nat} {H : Heap} {ls : Array Slot} (hdg : decode code pc = .ok (.ireturn, 1)) : W p l e room_1 s m #[Value.ref b] below meth c H [] 600000 7302250 (lw_Z below #[Value.ref b] s) (F0 m pc ls [.int 1]) := by
  intro T hT X
  obtain ⟨fs, hret, hrun, hended, hW, hframe⟩ := X.leave (v := some (.int 1)) (hlocks := hlocks) (fun h => by rw [hr] at h; cases h)
  have hmeth' : T.vm.method? m = some meth := X.method'
  refine ⟨T.setFrames fs, ?_, .returned (some (.int 1)), hrun, hended, rfl, ⟨_, rfl⟩, hW, hframe⟩
  jvm_step X.here [X.here.top, hx, hb, hdg, hmeth', hr, ret, narrow_b1]
  (try refine ⟨rfl, ?_⟩); (try refine ⟨rfl, ?_⟩)
  first | (intro acts; rw [hret _ acts rfl rfl rfl]) | rw [hret _ _ rfl rfl rfl]
  exact Steps.refl _
/-- what holds at the law's entry: the machine, the code, the tables' words (any of lw_tbl by 'hts w (by decide +kernel)'), the script of L ints xs at the cell b, what the Statement gives of the start (any of its parts by flat_of_before) -/
def lw_At (p : Program) (s : State) (m : MethodId) (meth : Method) (c : Code) (b L : Nat) (xs : Nat → Int32) : Prop :=
  p.tables.exec = Jvm.exec ∧ c.code = code ∧ meth.sig.returnType = ret ∧ c.maxLocals = 4 ∧ s.vm.findClass R_law = some m.cls ∧ (∀ w ∈ lw_tbl, w.before #[Value.ref b] s = true) ∧ va_X b L xs s s.heap ∧ b < s.heap.size ∧ meth.locks = false ∧ (Jvm.Cond.and given_1 narrow_1).before #[Value.ref b] s = true
theorem lw_lc {x y : Int64} (h : x = y) : lg_cmp x y = 0 := by subst h; simp [lg_cmp]
theorem ez_sld {X : em_X} {cc : ByteArray} {own : String} {N : Nat} {R : em_Rt} {M : em_M} {mc ms pc : Nat} {lv : List (Nat × Value)} {st : List Value} (hX : ez_ok X cc own) {b L : Nat} {xs : Nat → Int32} (hS : va_X b L xs (ez_s X) (ez_s X).heap) (hbl : b < (ez_s X).heap.size) (hB : ez_B X = (ez_s X).heap.size) {i : Int32} (hi : vp_in i L) (hd : decode cc pc = .ok (.iaload, 1)) (kk : ez_Z X N R M mc ms (pc + 1) lv (.int (xs i.toNatClampNeg) :: st)) : ez_Z X N R M mc ms pc lv (.int i :: .ref b :: st) := by
  obtain ⟨p, l, e, Rm, s, m, args, below, meth, c, nL, D, B, Q⟩ := X
  intro H locs ls h1 h2 h3
  have hB : B = s.heap.size := hB
  exact va_sld hX.1 hX.2.1 hS hbl (A := fun q => B ≤ q) (by have hb2 : b < s.heap.size := hbl; omega) h2 hi hd (kk H locs ls h1 h2 h3)
theorem ez_slen {X : em_X} {cc : ByteArray} {own : String} {N : Nat} {R : em_Rt} {M : em_M} {mc ms pc : Nat} {lv : List (Nat × Value)} {st : List Value} (hX : ez_ok X cc own) {b L : Nat} {xs : Nat → Int32} (hS : va_X b L xs (ez_s X) (ez_s X).heap) (hbl : b < (ez_s X).heap.size) (hB : ez_B X = (ez_s X).heap.size) (hd : decode cc pc = .ok (.arraylength, 1)) (kk : ez_Z X N R M mc ms (pc + 1) lv (.int (Int32.ofNat L) :: st)) : ez_Z X N R M mc ms pc lv (.ref b :: st) := by
  obtain ⟨p, l, e, Rm, s, m, args, below, meth, c, nL, D, B, Q⟩ := X
  intro H locs ls h1 h2 h3
  have hB : B = s.heap.size := hB
  exact va_slen hX.1 hX.2.1 hS hbl (A := fun q => B ≤ q) (by have hb2 : b < s.heap.size := hbl; omega) h2 hd (kk H locs ls h1 h2 h3)
theorem lw_in {k L : Nat} {q : Int32} (h6 : 6 * k + 6 ≤ L) (hL : L ≤ 3072) (hq : 0 ≤ q.toInt ∧ q.toInt < 6) : vp_in (nI (6 * k) + q) L := by
  obtain ⟨j, hj, rfl⟩ : ∃ j : Nat, j < 6 ∧ q = nI j := ⟨q.toInt.toNat, by omega, Int32.toInt_inj.mp (by rw [nI_toInt (by omega)]; omega)⟩
  rw [nI_add]
  exact vp_in_nI (by omega) (by omega)
theorem lw_in0 {k L : Nat} (h6 : 6 * k + 6 ≤ L) (hL : L ≤ 3072) : vp_in (nI (6 * k)) L := vp_in_nI (by omega) (by omega)
theorem lw_ge {k L : Nat} (hL : L ≤ 3072) (hk : 6 * k ≤ 3072) (h : ¬ (Int32.ofNat L - (6 : Int32)) < nI (6 * k)) : 6 * k + 6 ≤ L := by
  rw [Int32.lt_iff_toInt_lt, nI_toInt (by omega), Int32.toInt_sub, show (Int32.ofNat L).toInt = (L : Int) from nI_toInt (by omega), show (6 : Int32).toInt = 6 by decide, Int.bmod_def] at h
  split at h <;> omega
theorem ez_lawret {p : Program} {l : Launch} {e : Env} {s : State} {m : MethodId} {below : List Frame} {meth : Method} {c : Code} {b : Nat} {D : em_G} {N : Nat} {R : em_Rt} {M : em_M} {mc ms pc : Nat} {lv : List (Nat × Value)} (hx : p.tables.exec = Jvm.exec) (hb : c.code = code) (hr : meth.sig.returnType = ret) (hlocks : meth.locks = false) (hd : decode code pc = .ok (.ireturn, 1)) (hm : mc ≤ 600000) (hms : ms ≤ 7302250) : ez_Z (p, l, e, room_1, s, m, #[Value.ref b], below, meth, c, 4, D, s.heap.size, lw_Z below #[Value.ref b] s) N R M mc ms pc lv [.int 1] := by
  intro H locs ls h1 h2 h3
  refine va_forget (fun q hq => h2.2.2 q hq) ?_
  refine W.widen (k := 600000) (n := 7302250) hm hms ?_
  exact lw_ret hx hb hr hlocks hd

set_option maxHeartbeats 16000000 in
set_option maxRecDepth 100000 in
theorem law_loop {X : em_X} {b L : Nat} {xs : Nat → Int32} {mc ms : Nat} (hmc : mc ≤ 500000) (hms : ms ≤ 7000000) (hX : ez_ok X cL_law RL) (hRm : ez_rm X = { frames := 2048, cells := 600000, slots := 7302250, locals := 84000 }) (hnL : ez_nL X = 4) (hS : va_X b L xs (ez_s X) (ez_s X).heap) (hbl : b < (ez_s X).heap.size) (hB : ez_B X = (ez_s X).heap.size) (hL : L ≤ 3072)
    (hend : ∀ (M : em_M) (lv : List (Nat × Value)), ez_Z X 132 em_R M 132 53341 1011 lv [.int 1]) :
    ∀ (n k : Nat) (M : em_M), 6 * k ≤ L → L < 6 * k + 6 * n → ep_Inv M → ez_Z X 132 em_R M 132 53341 18 [(0, .ref b), (1, .ref (ez_B X + 0)), (2, .ref (ez_B X + 118)), (3, .int (nI (6 * k)))] [] := by
  intro n
  induction n with
  | zero => intro k M h1 h2 _; exact absurd h2 (by omega)
  | succ n ih =>
    intro k M hk hn hI
    refine ez_iload_n hX 3 dL_law_18 rfl ?_
    refine ez_aload_n hX 0 dL_law_19 rfl ?_
    refine ez_slen hX hS hbl hB dL_law_20 ?_
    refine ez_bipush hX (6 : Int32) dL_law_21 (by decide) ?_
    refine ez_isub hX dL_law_23 ?_
    refine ez_icmp_gt hX 1010 dL_law_24 (by decide) (fun _ => ?_) (fun c0 => ?_)
    · refine ez_iconst hX (1 : Int32) dL_law_1010 (by decide) ?_
      exact hend _ _
    have h6 : 6 * k + 6 ≤ L := lw_ge hL (by omega) c0
    have fin : ∀ M2 : em_M, ep_Inv M2 → ez_Z X 132 em_R M2 132 53341 1004 [(0, .ref b), (1, .ref (ez_B X + 0)), (2, .ref (ez_B X + 118)), (3, .int (nI (6 * k)))] [] := by
      intro M2 hI2
      refine ez_iinc hX (nI (6 * (k + 1))) 3 [(3, .int (nI (6 * (k + 1)))), (0, .ref b), (1, .ref (ez_B X + 0)), (2, .ref (ez_B X + 118))] dL_law_1004 rfl (nI_add (6 * k) 6) (ez_lt hnL rfl) rfl ?_
      refine ez_goto hX 18 dL_law_1007 (by decide) ?_
      refine ez_lv [1, 2, 3, 0] rfl ?_
      exact ih (k + 1) M2 (by omega) (by omega) hI2
    refine ez_aload_n hX 0 dL_law_27 rfl ?_
    refine ez_iload_n hX 3 dL_law_28 rfl ?_
    refine ez_sld hX hS hbl hB (lw_in0 h6 hL) dL_law_29 ?_
    refine ez_bipush hX (31 : Int32) dL_law_30 (by decide) ?_
    refine ez_iand hX dL_law_32 ?_
    by_cases c0 : ((xs (nI (6 * k)).toNatClampNeg) &&& (31 : Int32)) = (0 : Int32)
    · have cx : (((xs (nI (6 * k)).toNatClampNeg) &&& (31 : Int32))).toInt = 0 := by rw [c0]; rfl
      refine ez_tsIn hX (0) (123) 156 dL_law_33 cx ⟨by decide, by decide, rfl, by decide⟩ ?_
      refine ez_aload_n hX 1 dL_law_156 rfl ?_
      refine ez_aload_n hX 0 dL_law_157 rfl ?_
      refine ez_iload_n hX 3 dL_law_158 rfl ?_
      refine ez_iconst hX (1 : Int32) dL_law_159 (by decide) ?_
      refine ez_iadd hX dL_law_160 ?_
      refine ez_sld hX hS hbl hB (lw_in h6 hL (by decide)) dL_law_161 ?_
      refine ez_callV hX (N0 := 0) (As := [.int (xs (((nI (6 * k)) + (1 : Int32))).toNatClampNeg)]) (st := []) kc_0 (Nat.le_of_ble_eq_true rfl) lc_0 rfl (ec_X11_feed _ _ _ M (xs (((nI (6 * k)) + (1 : Int32))).toNatClampNeg)) (Or.inl rfl) wm_L_13 wv_X11_feed we_X11_feed wy_X11_feed rfl wd_X11_feed wi_X11 (ez_rok hRm rfl) (Nat.le_of_ble_eq_true rfl) dL_law_162 ?_
      refine ez_nmIM (fun r1 M1 e1 => ?_)
      refine ez_aload_n hX 2 dL_law_165 rfl ?_
      refine ez_aload_n hX 0 dL_law_166 rfl ?_
      refine ez_iload_n hX 3 dL_law_167 rfl ?_
      refine ez_iconst hX (1 : Int32) dL_law_168 (by decide) ?_
      refine ez_iadd hX dL_law_169 ?_
      refine ez_sld hX hS hbl hB (lw_in h6 hL (by decide)) dL_law_170 ?_
      have pl := pl_feed hI (xs (((nI (6 * k)) + (1 : Int32))).toNatClampNeg) e1
      refine ez_callV hX (N0 := 0) (As := [.int (xs (((nI (6 * k)) + (1 : Int32))).toNatClampNeg)]) (st := [.int r1]) kc_118 (Nat.le_of_ble_eq_true rfl) lc_118 rfl (ec_X12_feed _ _ _ M1 (xs (((nI (6 * k)) + (1 : Int32))).toNatClampNeg) pl.1) (Or.inl rfl) wm_L_17 wv_X12_feed we_X12_feed wy_X12_feed rfl wd_X12_feed wi_X12 (ez_rok hRm rfl) (Nat.le_of_ble_eq_true rfl) dL_law_171 ?_
      refine ez_nmIM (fun r2 M2 e2 => ?_)
      have p2 := pl.2 _ _ e2
      exact ez_icmp_eq hX 1004 dL_law_174 (by decide) (fun _ => fin _ p2.2) (fun c => absurd p2.1 c)
    by_cases c1 : ((xs (nI (6 * k)).toNatClampNeg) &&& (31 : Int32)) = (1 : Int32)
    · have cx : (((xs (nI (6 * k)).toNatClampNeg) &&& (31 : Int32))).toInt = 1 := by rw [c1]; rfl
      refine ez_tsIn hX (1) (146) 179 dL_law_33 cx ⟨by decide, by decide, rfl, by decide⟩ ?_
      refine ez_aload_n hX 1 dL_law_179 rfl ?_
      refine ez_callV hX (N0 := 0) (As := []) (st := []) kc_0 (Nat.le_of_ble_eq_true rfl) lc_0 rfl (ec_X11_line _ _ _ M) (Or.inl rfl) wm_L_18 wv_X11_line we_X11_line wy_X11_line rfl wd_X11_line wi_X11 (ez_rok hRm rfl) (Nat.le_of_ble_eq_true rfl) dL_law_180 ?_
      refine ez_nmIM (fun r1 M1 e1 => ?_)
      refine ez_aload_n hX 2 dL_law_183 rfl ?_
      have pl := pl_line hI  e1
      refine ez_callV hX (N0 := 0) (As := []) (st := [.int r1]) kc_118 (Nat.le_of_ble_eq_true rfl) lc_118 rfl (ec_X12_line _ _ _ M1 pl.1) (Or.inl rfl) wm_L_22 wv_X12_line we_X12_line wy_X12_line rfl wd_X12_line wi_X12 (ez_rok hRm rfl) (Nat.le_of_ble_eq_true rfl) dL_law_184 ?_
      refine ez_nmIM (fun r2 M2 e2 => ?_)
      have p2 := pl.2 _ _ e2
      exact ez_icmp_eq hX 1004 dL_law_187 (by decide) (fun _ => fin _ p2.2) (fun c => absurd p2.1 c)
    by_cases c2 : ((xs (nI (6 * k)).toNatClampNeg) &&& (31 : Int32)) = (2 : Int32)
    · have cx : (((xs (nI (6 * k)).toNatClampNeg) &&& (31 : Int32))).toInt = 2 := by rw [c2]; rfl
      refine ez_tsIn hX (2) (159) 192 dL_law_33 cx ⟨by decide, by decide, rfl, by decide⟩ ?_
      refine ez_aload_n hX 1 dL_law_192 rfl ?_
      refine ez_aload_n hX 0 dL_law_193 rfl ?_
      refine ez_iload_n hX 3 dL_law_194 rfl ?_
      refine ez_iconst hX (1 : Int32) dL_law_195 (by decide) ?_
      refine ez_iadd hX dL_law_196 ?_
      refine ez_sld hX hS hbl hB (lw_in h6 hL (by decide)) dL_law_197 ?_
      refine ez_aload_n hX 0 dL_law_198 rfl ?_
      refine ez_iload_n hX 3 dL_law_199 rfl ?_
      refine ez_iconst hX (2 : Int32) dL_law_200 (by decide) ?_
      refine ez_iadd hX dL_law_201 ?_
      refine ez_sld hX hS hbl hB (lw_in h6 hL (by decide)) dL_law_202 ?_
      refine ez_callV hX (N0 := 0) (As := [.int (xs (((nI (6 * k)) + (1 : Int32))).toNatClampNeg), .int (xs (((nI (6 * k)) + (2 : Int32))).toNatClampNeg)]) (st := []) kc_0 (Nat.le_of_ble_eq_true rfl) lc_0 rfl (ec_X11_of _ _ _ M (xs (((nI (6 * k)) + (1 : Int32))).toNatClampNeg) (xs (((nI (6 * k)) + (2 : Int32))).toNatClampNeg)) (Or.inl rfl) wm_L_23 wv_X11_of we_X11_of wy_X11_of rfl wd_X11_of wi_X11 (ez_rok hRm rfl) (Nat.le_of_ble_eq_true rfl) dL_law_203 ?_
      refine ez_nmI (fun r1 e1 => ?_)
      refine ez_aload_n hX 2 dL_law_206 rfl ?_
      refine ez_aload_n hX 0 dL_law_207 rfl ?_
      refine ez_iload_n hX 3 dL_law_208 rfl ?_
      refine ez_iconst hX (1 : Int32) dL_law_209 (by decide) ?_
      refine ez_iadd hX dL_law_210 ?_
      refine ez_sld hX hS hbl hB (lw_in h6 hL (by decide)) dL_law_211 ?_
      refine ez_aload_n hX 0 dL_law_212 rfl ?_
      refine ez_iload_n hX 3 dL_law_213 rfl ?_
      refine ez_iconst hX (2 : Int32) dL_law_214 (by decide) ?_
      refine ez_iadd hX dL_law_215 ?_
      refine ez_sld hX hS hbl hB (lw_in h6 hL (by decide)) dL_law_216 ?_
      have pl := pl_of hI (xs (((nI (6 * k)) + (1 : Int32))).toNatClampNeg) (xs (((nI (6 * k)) + (2 : Int32))).toNatClampNeg) e1
      refine ez_callV hX (N0 := 0) (As := [.int (xs (((nI (6 * k)) + (1 : Int32))).toNatClampNeg), .int (xs (((nI (6 * k)) + (2 : Int32))).toNatClampNeg)]) (st := [.int r1]) kc_118 (Nat.le_of_ble_eq_true rfl) lc_118 rfl (ec_X12_of _ _ _ M (xs (((nI (6 * k)) + (1 : Int32))).toNatClampNeg) (xs (((nI (6 * k)) + (2 : Int32))).toNatClampNeg) pl.1) (Or.inl rfl) wm_L_27 wv_X12_of we_X12_of wy_X12_of rfl wd_X12_of wi_X12 (ez_rok hRm rfl) (Nat.le_of_ble_eq_true rfl) dL_law_217 ?_
      refine ez_nmI (fun r2 e2 => ?_)
      have p2 := pl.2 _ e2
      exact ez_icmp_eq hX 1004 dL_law_220 (by decide) (fun _ => fin _ p2.2) (fun c => absurd p2.1 c)
    by_cases c3 : ((xs (nI (6 * k)).toNatClampNeg) &&& (31 : Int32)) = (3 : Int32)
    · have cx : (((xs (nI (6 * k)).toNatClampNeg) &&& (31 : Int32))).toInt = 3 := by rw [c3]; rfl
      refine ez_tsIn hX (3) (192) 225 dL_law_33 cx ⟨by decide, by decide, rfl, by decide⟩ ?_
      refine ez_aload_n hX 1 dL_law_225 rfl ?_
      refine ez_aload_n hX 0 dL_law_226 rfl ?_
      refine ez_iload_n hX 3 dL_law_227 rfl ?_
      refine ez_iconst hX (1 : Int32) dL_law_228 (by decide) ?_
      refine ez_iadd hX dL_law_229 ?_
      refine ez_sld hX hS hbl hB (lw_in h6 hL (by decide)) dL_law_230 ?_
      refine ez_aload_n hX 0 dL_law_231 rfl ?_
      refine ez_iload_n hX 3 dL_law_232 rfl ?_
      refine ez_iconst hX (2 : Int32) dL_law_233 (by decide) ?_
      refine ez_iadd hX dL_law_234 ?_
      refine ez_sld hX hS hbl hB (lw_in h6 hL (by decide)) dL_law_235 ?_
      refine ez_callV hX (N0 := 0) (As := [.int (xs (((nI (6 * k)) + (1 : Int32))).toNatClampNeg), .int (xs (((nI (6 * k)) + (2 : Int32))).toNatClampNeg)]) (st := []) kc_0 (Nat.le_of_ble_eq_true rfl) lc_0 rfl (ec_X11_define _ _ _ M (xs (((nI (6 * k)) + (1 : Int32))).toNatClampNeg) (xs (((nI (6 * k)) + (2 : Int32))).toNatClampNeg)) (Or.inl rfl) wm_L_28 wv_X11_define we_X11_define wy_X11_define rfl wd_X11_define wi_X11 (ez_rok hRm rfl) (Nat.le_of_ble_eq_true rfl) dL_law_236 ?_
      refine ez_nmIM (fun r1 M1 e1 => ?_)
      refine ez_aload_n hX 2 dL_law_239 rfl ?_
      refine ez_aload_n hX 0 dL_law_240 rfl ?_
      refine ez_iload_n hX 3 dL_law_241 rfl ?_
      refine ez_iconst hX (1 : Int32) dL_law_242 (by decide) ?_
      refine ez_iadd hX dL_law_243 ?_
      refine ez_sld hX hS hbl hB (lw_in h6 hL (by decide)) dL_law_244 ?_
      refine ez_aload_n hX 0 dL_law_245 rfl ?_
      refine ez_iload_n hX 3 dL_law_246 rfl ?_
      refine ez_iconst hX (2 : Int32) dL_law_247 (by decide) ?_
      refine ez_iadd hX dL_law_248 ?_
      refine ez_sld hX hS hbl hB (lw_in h6 hL (by decide)) dL_law_249 ?_
      have pl := pl_define hI (xs (((nI (6 * k)) + (1 : Int32))).toNatClampNeg) (xs (((nI (6 * k)) + (2 : Int32))).toNatClampNeg) e1
      refine ez_callV hX (N0 := 0) (As := [.int (xs (((nI (6 * k)) + (1 : Int32))).toNatClampNeg), .int (xs (((nI (6 * k)) + (2 : Int32))).toNatClampNeg)]) (st := [.int r1]) kc_118 (Nat.le_of_ble_eq_true rfl) lc_118 rfl (ec_X12_define _ _ _ M1 (xs (((nI (6 * k)) + (1 : Int32))).toNatClampNeg) (xs (((nI (6 * k)) + (2 : Int32))).toNatClampNeg) pl.1) (Or.inl rfl) wm_L_31 wv_X12_define we_X12_define wy_X12_define rfl wd_X12_define wi_X12 (ez_rok hRm rfl) (Nat.le_of_ble_eq_true rfl) dL_law_250 ?_
      refine ez_nmIM (fun r2 M2 e2 => ?_)
      have p2 := pl.2 _ _ e2
      exact ez_icmp_eq hX 1004 dL_law_253 (by decide) (fun _ => fin _ p2.2) (fun c => absurd p2.1 c)
    by_cases c4 : ((xs (nI (6 * k)).toNatClampNeg) &&& (31 : Int32)) = (4 : Int32)
    · have cx : (((xs (nI (6 * k)).toNatClampNeg) &&& (31 : Int32))).toInt = 4 := by rw [c4]; rfl
      refine ez_tsIn hX (4) (225) 258 dL_law_33 cx ⟨by decide, by decide, rfl, by decide⟩ ?_
      refine ez_aload_n hX 1 dL_law_258 rfl ?_
      refine ez_aload_n hX 0 dL_law_259 rfl ?_
      refine ez_iload_n hX 3 dL_law_260 rfl ?_
      refine ez_iconst hX (1 : Int32) dL_law_261 (by decide) ?_
      refine ez_iadd hX dL_law_262 ?_
      refine ez_sld hX hS hbl hB (lw_in h6 hL (by decide)) dL_law_263 ?_
      refine ez_aload_n hX 0 dL_law_264 rfl ?_
      refine ez_iload_n hX 3 dL_law_265 rfl ?_
      refine ez_iconst hX (2 : Int32) dL_law_266 (by decide) ?_
      refine ez_iadd hX dL_law_267 ?_
      refine ez_sld hX hS hbl hB (lw_in h6 hL (by decide)) dL_law_268 ?_
      refine ez_callV hX (N0 := 0) (As := [.int (xs (((nI (6 * k)) + (1 : Int32))).toNatClampNeg), .int (xs (((nI (6 * k)) + (2 : Int32))).toNatClampNeg)]) (st := []) kc_0 (Nat.le_of_ble_eq_true rfl) lc_0 rfl (ec_X11_value _ _ _ M (xs (((nI (6 * k)) + (1 : Int32))).toNatClampNeg) (xs (((nI (6 * k)) + (2 : Int32))).toNatClampNeg)) (Or.inl rfl) wm_L_32 wv_X11_value we_X11_value wy_X11_value rfl wd_X11_value wi_X11 (ez_rok hRm rfl) (Nat.le_of_ble_eq_true rfl) dL_law_269 ?_
      refine ez_nmLM (fun r1 M1 e1 => ?_)
      refine ez_aload_n hX 2 dL_law_272 rfl ?_
      refine ez_aload_n hX 0 dL_law_273 rfl ?_
      refine ez_iload_n hX 3 dL_law_274 rfl ?_
      refine ez_iconst hX (1 : Int32) dL_law_275 (by decide) ?_
      refine ez_iadd hX dL_law_276 ?_
      refine ez_sld hX hS hbl hB (lw_in h6 hL (by decide)) dL_law_277 ?_
      refine ez_aload_n hX 0 dL_law_278 rfl ?_
      refine ez_iload_n hX 3 dL_law_279 rfl ?_
      refine ez_iconst hX (2 : Int32) dL_law_280 (by decide) ?_
      refine ez_iadd hX dL_law_281 ?_
      refine ez_sld hX hS hbl hB (lw_in h6 hL (by decide)) dL_law_282 ?_
      have pl := pl_value hI (xs (((nI (6 * k)) + (1 : Int32))).toNatClampNeg) (xs (((nI (6 * k)) + (2 : Int32))).toNatClampNeg) e1
      refine ez_callV hX (N0 := 0) (As := [.int (xs (((nI (6 * k)) + (1 : Int32))).toNatClampNeg), .int (xs (((nI (6 * k)) + (2 : Int32))).toNatClampNeg)]) (st := [.long r1]) kc_118 (Nat.le_of_ble_eq_true rfl) lc_118 rfl (ec_X12_value _ _ _ M1 (xs (((nI (6 * k)) + (1 : Int32))).toNatClampNeg) (xs (((nI (6 * k)) + (2 : Int32))).toNatClampNeg) pl.1) (Or.inl rfl) wm_L_36 wv_X12_value we_X12_value wy_X12_value rfl wd_X12_value wi_X12 (ez_rok hRm rfl) (Nat.le_of_ble_eq_true rfl) dL_law_283 ?_
      refine ez_nmLM (fun r2 M2 e2 => ?_)
      have p2 := pl.2 _ _ e2
      refine ez_lcmp hX dL_law_286 ?_
      exact ez_if_eq hX 1004 dL_law_287 (by decide) (fun _ => fin _ p2.2) (fun c => absurd (lw_lc p2.1) c)
    by_cases c5 : ((xs (nI (6 * k)).toNatClampNeg) &&& (31 : Int32)) = (5 : Int32)
    · have cx : (((xs (nI (6 * k)).toNatClampNeg) &&& (31 : Int32))).toInt = 5 := by rw [c5]; rfl
      refine ez_tsIn hX (5) (259) 292 dL_law_33 cx ⟨by decide, by decide, rfl, by decide⟩ ?_
      refine ez_aload_n hX 1 dL_law_292 rfl ?_
      refine ez_aload_n hX 0 dL_law_293 rfl ?_
      refine ez_iload_n hX 3 dL_law_294 rfl ?_
      refine ez_iconst hX (1 : Int32) dL_law_295 (by decide) ?_
      refine ez_iadd hX dL_law_296 ?_
      refine ez_sld hX hS hbl hB (lw_in h6 hL (by decide)) dL_law_297 ?_
      refine ez_callV hX (N0 := 0) (As := [.int (xs (((nI (6 * k)) + (1 : Int32))).toNatClampNeg)]) (st := []) kc_0 (Nat.le_of_ble_eq_true rfl) lc_0 rfl (ec_X11_begin _ _ _ M (xs (((nI (6 * k)) + (1 : Int32))).toNatClampNeg)) (Or.inl rfl) wm_L_37 wv_X11_begin we_X11_begin wy_X11_begin rfl wd_X11_begin wi_X11 (ez_rok hRm rfl) (Nat.le_of_ble_eq_true rfl) dL_law_298 ?_
      refine ez_nmIM (fun r1 M1 e1 => ?_)
      refine ez_aload_n hX 2 dL_law_301 rfl ?_
      refine ez_aload_n hX 0 dL_law_302 rfl ?_
      refine ez_iload_n hX 3 dL_law_303 rfl ?_
      refine ez_iconst hX (1 : Int32) dL_law_304 (by decide) ?_
      refine ez_iadd hX dL_law_305 ?_
      refine ez_sld hX hS hbl hB (lw_in h6 hL (by decide)) dL_law_306 ?_
      have pl := pl_begin hI (xs (((nI (6 * k)) + (1 : Int32))).toNatClampNeg) e1
      refine ez_callV hX (N0 := 0) (As := [.int (xs (((nI (6 * k)) + (1 : Int32))).toNatClampNeg)]) (st := [.int r1]) kc_118 (Nat.le_of_ble_eq_true rfl) lc_118 rfl (ec_X12_begin _ _ _ M1 (xs (((nI (6 * k)) + (1 : Int32))).toNatClampNeg) pl.1) (Or.inl rfl) wm_L_40 wv_X12_begin we_X12_begin wy_X12_begin rfl wd_X12_begin wi_X12 (ez_rok hRm rfl) (Nat.le_of_ble_eq_true rfl) dL_law_307 ?_
      refine ez_nmIM (fun r2 M2 e2 => ?_)
      have p2 := pl.2 _ _ e2
      exact ez_icmp_eq hX 1004 dL_law_310 (by decide) (fun _ => fin _ p2.2) (fun c => absurd p2.1 c)
    by_cases c6 : ((xs (nI (6 * k)).toNatClampNeg) &&& (31 : Int32)) = (6 : Int32)
    · have cx : (((xs (nI (6 * k)).toNatClampNeg) &&& (31 : Int32))).toInt = 6 := by rw [c6]; rfl
      refine ez_tsIn hX (6) (282) 315 dL_law_33 cx ⟨by decide, by decide, rfl, by decide⟩ ?_
      refine ez_aload_n hX 1 dL_law_315 rfl ?_
      refine ez_aload_n hX 0 dL_law_316 rfl ?_
      refine ez_iload_n hX 3 dL_law_317 rfl ?_
      refine ez_iconst hX (1 : Int32) dL_law_318 (by decide) ?_
      refine ez_iadd hX dL_law_319 ?_
      refine ez_sld hX hS hbl hB (lw_in h6 hL (by decide)) dL_law_320 ?_
      refine ez_callV hX (N0 := 0) (As := [.int (xs (((nI (6 * k)) + (1 : Int32))).toNatClampNeg)]) (st := []) kc_0 (Nat.le_of_ble_eq_true rfl) lc_0 rfl (ec_X11_step _ _ _ M (xs (((nI (6 * k)) + (1 : Int32))).toNatClampNeg)) (Or.inl rfl) wm_L_41 wv_X11_step we_X11_step wy_X11_step rfl wd_X11_step wi_X11 (ez_rok hRm rfl) (Nat.le_of_ble_eq_true rfl) dL_law_321 ?_
      refine ez_nmIM (fun r1 M1 e1 => ?_)
      refine ez_aload_n hX 2 dL_law_324 rfl ?_
      refine ez_aload_n hX 0 dL_law_325 rfl ?_
      refine ez_iload_n hX 3 dL_law_326 rfl ?_
      refine ez_iconst hX (1 : Int32) dL_law_327 (by decide) ?_
      refine ez_iadd hX dL_law_328 ?_
      refine ez_sld hX hS hbl hB (lw_in h6 hL (by decide)) dL_law_329 ?_
      have pl := pl_step hI (xs (((nI (6 * k)) + (1 : Int32))).toNatClampNeg) e1
      refine ez_callV hX (N0 := 0) (As := [.int (xs (((nI (6 * k)) + (1 : Int32))).toNatClampNeg)]) (st := [.int r1]) kc_118 (Nat.le_of_ble_eq_true rfl) lc_118 rfl (ec_X12_step _ _ _ M1 (xs (((nI (6 * k)) + (1 : Int32))).toNatClampNeg) pl.1) (Or.inl rfl) wm_L_44 wv_X12_step we_X12_step wy_X12_step rfl wd_X12_step wi_X12 (ez_rok hRm rfl) (Nat.le_of_ble_eq_true rfl) dL_law_330 ?_
      refine ez_nmIM (fun r2 M2 e2 => ?_)
      have p2 := pl.2 _ _ e2
      exact ez_icmp_eq hX 1004 dL_law_333 (by decide) (fun _ => fin _ p2.2) (fun c => absurd p2.1 c)
    by_cases c7 : ((xs (nI (6 * k)).toNatClampNeg) &&& (31 : Int32)) = (7 : Int32)
    · have cx : (((xs (nI (6 * k)).toNatClampNeg) &&& (31 : Int32))).toInt = 7 := by rw [c7]; rfl
      refine ez_tsIn hX (7) (305) 338 dL_law_33 cx ⟨by decide, by decide, rfl, by decide⟩ ?_
      refine ez_aload_n hX 1 dL_law_338 rfl ?_
      refine ez_aload_n hX 0 dL_law_339 rfl ?_
      refine ez_iload_n hX 3 dL_law_340 rfl ?_
      refine ez_iconst hX (1 : Int32) dL_law_341 (by decide) ?_
      refine ez_iadd hX dL_law_342 ?_
      refine ez_sld hX hS hbl hB (lw_in h6 hL (by decide)) dL_law_343 ?_
      refine ez_callV hX (N0 := 0) (As := [.int (xs (((nI (6 * k)) + (1 : Int32))).toNatClampNeg)]) (st := []) kc_0 (Nat.le_of_ble_eq_true rfl) lc_0 rfl (ec_X11_run _ _ _ M (xs (((nI (6 * k)) + (1 : Int32))).toNatClampNeg)) (Or.inl rfl) wm_L_45 wv_X11_run we_X11_run wy_X11_run rfl wd_X11_run wi_X11 (ez_rok hRm rfl) (Nat.le_of_ble_eq_true rfl) dL_law_344 ?_
      refine ez_nmIM (fun r1 M1 e1 => ?_)
      refine ez_aload_n hX 2 dL_law_347 rfl ?_
      refine ez_aload_n hX 0 dL_law_348 rfl ?_
      refine ez_iload_n hX 3 dL_law_349 rfl ?_
      refine ez_iconst hX (1 : Int32) dL_law_350 (by decide) ?_
      refine ez_iadd hX dL_law_351 ?_
      refine ez_sld hX hS hbl hB (lw_in h6 hL (by decide)) dL_law_352 ?_
      have pl := pl_run hI (xs (((nI (6 * k)) + (1 : Int32))).toNatClampNeg) e1
      refine ez_callV hX (N0 := 0) (As := [.int (xs (((nI (6 * k)) + (1 : Int32))).toNatClampNeg)]) (st := [.int r1]) kc_118 (Nat.le_of_ble_eq_true rfl) lc_118 rfl (ec_X12_run _ _ _ M1 (xs (((nI (6 * k)) + (1 : Int32))).toNatClampNeg) pl.1) (Or.inl rfl) wm_L_48 wv_X12_run we_X12_run wy_X12_run rfl wd_X12_run wi_X12 (ez_rok hRm rfl) (Nat.le_of_ble_eq_true rfl) dL_law_353 ?_
      refine ez_nmIM (fun r2 M2 e2 => ?_)
      have p2 := pl.2 _ _ e2
      exact ez_icmp_eq hX 1004 dL_law_356 (by decide) (fun _ => fin _ p2.2) (fun c => absurd p2.1 c)
    by_cases c8 : ((xs (nI (6 * k)).toNatClampNeg) &&& (31 : Int32)) = (8 : Int32)
    · have cx : (((xs (nI (6 * k)).toNatClampNeg) &&& (31 : Int32))).toInt = 8 := by rw [c8]; rfl
      refine ez_tsIn hX (8) (328) 361 dL_law_33 cx ⟨by decide, by decide, rfl, by decide⟩ ?_
      refine ez_aload_n hX 1 dL_law_361 rfl ?_
      refine ez_aload_n hX 0 dL_law_362 rfl ?_
      refine ez_iload_n hX 3 dL_law_363 rfl ?_
      refine ez_iconst hX (1 : Int32) dL_law_364 (by decide) ?_
      refine ez_iadd hX dL_law_365 ?_
      refine ez_sld hX hS hbl hB (lw_in h6 hL (by decide)) dL_law_366 ?_
      refine ez_callV hX (N0 := 0) (As := [.int (xs (((nI (6 * k)) + (1 : Int32))).toNatClampNeg)]) (st := []) kc_0 (Nat.le_of_ble_eq_true rfl) lc_0 rfl (ec_X11_told _ _ _ M (xs (((nI (6 * k)) + (1 : Int32))).toNatClampNeg)) (Or.inl rfl) wm_L_49 wv_X11_told we_X11_told wy_X11_told rfl wd_X11_told wi_X11 (ez_rok hRm rfl) (Nat.le_of_ble_eq_true rfl) dL_law_367 ?_
      refine ez_nmL (fun r1 e1 => ?_)
      refine ez_aload_n hX 2 dL_law_370 rfl ?_
      refine ez_aload_n hX 0 dL_law_371 rfl ?_
      refine ez_iload_n hX 3 dL_law_372 rfl ?_
      refine ez_iconst hX (1 : Int32) dL_law_373 (by decide) ?_
      refine ez_iadd hX dL_law_374 ?_
      refine ez_sld hX hS hbl hB (lw_in h6 hL (by decide)) dL_law_375 ?_
      have pl := pl_told hI (xs (((nI (6 * k)) + (1 : Int32))).toNatClampNeg) e1
      refine ez_callV hX (N0 := 0) (As := [.int (xs (((nI (6 * k)) + (1 : Int32))).toNatClampNeg)]) (st := [.long r1]) kc_118 (Nat.le_of_ble_eq_true rfl) lc_118 rfl (ec_X12_told _ _ _ M (xs (((nI (6 * k)) + (1 : Int32))).toNatClampNeg) pl.1) (Or.inl rfl) wm_L_53 wv_X12_told we_X12_told wy_X12_told rfl wd_X12_told wi_X12 (ez_rok hRm rfl) (Nat.le_of_ble_eq_true rfl) dL_law_376 ?_
      refine ez_nmL (fun r2 e2 => ?_)
      have p2 := pl.2 _ e2
      refine ez_lcmp hX dL_law_379 ?_
      exact ez_if_eq hX 1004 dL_law_380 (by decide) (fun _ => fin _ p2.2) (fun c => absurd (lw_lc p2.1) c)
    by_cases c9 : ((xs (nI (6 * k)).toNatClampNeg) &&& (31 : Int32)) = (9 : Int32)
    · have cx : (((xs (nI (6 * k)).toNatClampNeg) &&& (31 : Int32))).toInt = 9 := by rw [c9]; rfl
      refine ez_tsIn hX (9) (352) 385 dL_law_33 cx ⟨by decide, by decide, rfl, by decide⟩ ?_
      refine ez_aload_n hX 1 dL_law_385 rfl ?_
      refine ez_aload_n hX 0 dL_law_386 rfl ?_
      refine ez_iload_n hX 3 dL_law_387 rfl ?_
      refine ez_iconst hX (1 : Int32) dL_law_388 (by decide) ?_
      refine ez_iadd hX dL_law_389 ?_
      refine ez_sld hX hS hbl hB (lw_in h6 hL (by decide)) dL_law_390 ?_
      refine ez_aload_n hX 0 dL_law_391 rfl ?_
      refine ez_iload_n hX 3 dL_law_392 rfl ?_
      refine ez_iconst hX (2 : Int32) dL_law_393 (by decide) ?_
      refine ez_iadd hX dL_law_394 ?_
      refine ez_sld hX hS hbl hB (lw_in h6 hL (by decide)) dL_law_395 ?_
      refine ez_callV hX (N0 := 0) (As := [.int (xs (((nI (6 * k)) + (1 : Int32))).toNatClampNeg), .int (xs (((nI (6 * k)) + (2 : Int32))).toNatClampNeg)]) (st := []) kc_0 (Nat.le_of_ble_eq_true rfl) lc_0 rfl (ec_X11_on _ _ _ M (xs (((nI (6 * k)) + (1 : Int32))).toNatClampNeg) (xs (((nI (6 * k)) + (2 : Int32))).toNatClampNeg)) (Or.inl rfl) wm_L_54 wv_X11_on we_X11_on wy_X11_on rfl wd_X11_on wi_X11 (ez_rok hRm rfl) (Nat.le_of_ble_eq_true rfl) dL_law_396 ?_
      refine ez_nmLM (fun r1 M1 e1 => ?_)
      refine ez_aload_n hX 2 dL_law_399 rfl ?_
      refine ez_aload_n hX 0 dL_law_400 rfl ?_
      refine ez_iload_n hX 3 dL_law_401 rfl ?_
      refine ez_iconst hX (1 : Int32) dL_law_402 (by decide) ?_
      refine ez_iadd hX dL_law_403 ?_
      refine ez_sld hX hS hbl hB (lw_in h6 hL (by decide)) dL_law_404 ?_
      refine ez_aload_n hX 0 dL_law_405 rfl ?_
      refine ez_iload_n hX 3 dL_law_406 rfl ?_
      refine ez_iconst hX (2 : Int32) dL_law_407 (by decide) ?_
      refine ez_iadd hX dL_law_408 ?_
      refine ez_sld hX hS hbl hB (lw_in h6 hL (by decide)) dL_law_409 ?_
      have pl := pl_on hI (xs (((nI (6 * k)) + (1 : Int32))).toNatClampNeg) (xs (((nI (6 * k)) + (2 : Int32))).toNatClampNeg) e1
      refine ez_callV hX (N0 := 0) (As := [.int (xs (((nI (6 * k)) + (1 : Int32))).toNatClampNeg), .int (xs (((nI (6 * k)) + (2 : Int32))).toNatClampNeg)]) (st := [.long r1]) kc_118 (Nat.le_of_ble_eq_true rfl) lc_118 rfl (ec_X12_on _ _ _ M1 (xs (((nI (6 * k)) + (1 : Int32))).toNatClampNeg) (xs (((nI (6 * k)) + (2 : Int32))).toNatClampNeg) pl.1) (Or.inl rfl) wm_L_57 wv_X12_on we_X12_on wy_X12_on rfl wd_X12_on wi_X12 (ez_rok hRm rfl) (Nat.le_of_ble_eq_true rfl) dL_law_410 ?_
      refine ez_nmLM (fun r2 M2 e2 => ?_)
      have p2 := pl.2 _ _ e2
      refine ez_lcmp hX dL_law_413 ?_
      exact ez_if_eq hX 1004 dL_law_414 (by decide) (fun _ => fin _ p2.2) (fun c => absurd (lw_lc p2.1) c)
    by_cases c10 : ((xs (nI (6 * k)).toNatClampNeg) &&& (31 : Int32)) = (10 : Int32)
    · have cx : (((xs (nI (6 * k)).toNatClampNeg) &&& (31 : Int32))).toInt = 10 := by rw [c10]; rfl
      refine ez_tsIn hX (10) (386) 419 dL_law_33 cx ⟨by decide, by decide, rfl, by decide⟩ ?_
      refine ez_aload_n hX 1 dL_law_419 rfl ?_
      refine ez_aload_n hX 0 dL_law_420 rfl ?_
      refine ez_iload_n hX 3 dL_law_421 rfl ?_
      refine ez_iconst hX (1 : Int32) dL_law_422 (by decide) ?_
      refine ez_iadd hX dL_law_423 ?_
      refine ez_sld hX hS hbl hB (lw_in h6 hL (by decide)) dL_law_424 ?_
      refine ez_aload_n hX 0 dL_law_425 rfl ?_
      refine ez_iload_n hX 3 dL_law_426 rfl ?_
      refine ez_iconst hX (2 : Int32) dL_law_427 (by decide) ?_
      refine ez_iadd hX dL_law_428 ?_
      refine ez_sld hX hS hbl hB (lw_in h6 hL (by decide)) dL_law_429 ?_
      refine ez_callV hX (N0 := 0) (As := [.int (xs (((nI (6 * k)) + (1 : Int32))).toNatClampNeg), .int (xs (((nI (6 * k)) + (2 : Int32))).toNatClampNeg)]) (st := []) kc_0 (Nat.le_of_ble_eq_true rfl) lc_0 rfl (ec_X11_see _ _ _ M (xs (((nI (6 * k)) + (1 : Int32))).toNatClampNeg) (xs (((nI (6 * k)) + (2 : Int32))).toNatClampNeg)) (Or.inl rfl) wm_L_58 wv_X11_see we_X11_see wy_X11_see rfl wd_X11_see wi_X11 (ez_rok hRm rfl) (Nat.le_of_ble_eq_true rfl) dL_law_430 ?_
      refine ez_nmIM (fun r1 M1 e1 => ?_)
      refine ez_aload_n hX 2 dL_law_433 rfl ?_
      refine ez_aload_n hX 0 dL_law_434 rfl ?_
      refine ez_iload_n hX 3 dL_law_435 rfl ?_
      refine ez_iconst hX (1 : Int32) dL_law_436 (by decide) ?_
      refine ez_iadd hX dL_law_437 ?_
      refine ez_sld hX hS hbl hB (lw_in h6 hL (by decide)) dL_law_438 ?_
      refine ez_aload_n hX 0 dL_law_439 rfl ?_
      refine ez_iload_n hX 3 dL_law_440 rfl ?_
      refine ez_iconst hX (2 : Int32) dL_law_441 (by decide) ?_
      refine ez_iadd hX dL_law_442 ?_
      refine ez_sld hX hS hbl hB (lw_in h6 hL (by decide)) dL_law_443 ?_
      have pl := pl_see hI (xs (((nI (6 * k)) + (1 : Int32))).toNatClampNeg) (xs (((nI (6 * k)) + (2 : Int32))).toNatClampNeg) e1
      refine ez_callV hX (N0 := 0) (As := [.int (xs (((nI (6 * k)) + (1 : Int32))).toNatClampNeg), .int (xs (((nI (6 * k)) + (2 : Int32))).toNatClampNeg)]) (st := [.int r1]) kc_118 (Nat.le_of_ble_eq_true rfl) lc_118 rfl (ec_X12_see _ _ _ M1 (xs (((nI (6 * k)) + (1 : Int32))).toNatClampNeg) (xs (((nI (6 * k)) + (2 : Int32))).toNatClampNeg) pl.1) (Or.inl rfl) wm_L_61 wv_X12_see we_X12_see wy_X12_see rfl wd_X12_see wi_X12 (ez_rok hRm rfl) (Nat.le_of_ble_eq_true rfl) dL_law_444 ?_
      refine ez_nmIM (fun r2 M2 e2 => ?_)
      have p2 := pl.2 _ _ e2
      exact ez_icmp_eq hX 1004 dL_law_447 (by decide) (fun _ => fin _ p2.2) (fun c => absurd p2.1 c)
    by_cases c11 : ((xs (nI (6 * k)).toNatClampNeg) &&& (31 : Int32)) = (11 : Int32)
    · have cx : (((xs (nI (6 * k)).toNatClampNeg) &&& (31 : Int32))).toInt = 11 := by rw [c11]; rfl
      refine ez_tsIn hX (11) (419) 452 dL_law_33 cx ⟨by decide, by decide, rfl, by decide⟩ ?_
      refine ez_aload_n hX 1 dL_law_452 rfl ?_
      refine ez_aload_n hX 0 dL_law_453 rfl ?_
      refine ez_iload_n hX 3 dL_law_454 rfl ?_
      refine ez_iconst hX (1 : Int32) dL_law_455 (by decide) ?_
      refine ez_iadd hX dL_law_456 ?_
      refine ez_sld hX hS hbl hB (lw_in h6 hL (by decide)) dL_law_457 ?_
      refine ez_aload_n hX 0 dL_law_458 rfl ?_
      refine ez_iload_n hX 3 dL_law_459 rfl ?_
      refine ez_iconst hX (2 : Int32) dL_law_460 (by decide) ?_
      refine ez_iadd hX dL_law_461 ?_
      refine ez_sld hX hS hbl hB (lw_in h6 hL (by decide)) dL_law_462 ?_
      refine ez_aload_n hX 0 dL_law_463 rfl ?_
      refine ez_iload_n hX 3 dL_law_464 rfl ?_
      refine ez_iconst hX (3 : Int32) dL_law_465 (by decide) ?_
      refine ez_iadd hX dL_law_466 ?_
      refine ez_sld hX hS hbl hB (lw_in h6 hL (by decide)) dL_law_467 ?_
      refine ez_callV hX (N0 := 0) (As := [.int (xs (((nI (6 * k)) + (1 : Int32))).toNatClampNeg), .int (xs (((nI (6 * k)) + (2 : Int32))).toNatClampNeg), .int (xs (((nI (6 * k)) + (3 : Int32))).toNatClampNeg)]) (st := []) kc_0 (Nat.le_of_ble_eq_true rfl) lc_0 rfl (ec_X11_fits _ _ _ M (xs (((nI (6 * k)) + (1 : Int32))).toNatClampNeg) (xs (((nI (6 * k)) + (2 : Int32))).toNatClampNeg) (xs (((nI (6 * k)) + (3 : Int32))).toNatClampNeg)) (Or.inl rfl) wm_L_62 wv_X11_fits we_X11_fits wy_X11_fits rfl wd_X11_fits wi_X11 (ez_rok hRm rfl) (Nat.le_of_ble_eq_true rfl) dL_law_468 ?_
      refine ez_nmIM (fun r1 M1 e1 => ?_)
      refine ez_aload_n hX 2 dL_law_471 rfl ?_
      refine ez_aload_n hX 0 dL_law_472 rfl ?_
      refine ez_iload_n hX 3 dL_law_473 rfl ?_
      refine ez_iconst hX (1 : Int32) dL_law_474 (by decide) ?_
      refine ez_iadd hX dL_law_475 ?_
      refine ez_sld hX hS hbl hB (lw_in h6 hL (by decide)) dL_law_476 ?_
      refine ez_aload_n hX 0 dL_law_477 rfl ?_
      refine ez_iload_n hX 3 dL_law_478 rfl ?_
      refine ez_iconst hX (2 : Int32) dL_law_479 (by decide) ?_
      refine ez_iadd hX dL_law_480 ?_
      refine ez_sld hX hS hbl hB (lw_in h6 hL (by decide)) dL_law_481 ?_
      refine ez_aload_n hX 0 dL_law_482 rfl ?_
      refine ez_iload_n hX 3 dL_law_483 rfl ?_
      refine ez_iconst hX (3 : Int32) dL_law_484 (by decide) ?_
      refine ez_iadd hX dL_law_485 ?_
      refine ez_sld hX hS hbl hB (lw_in h6 hL (by decide)) dL_law_486 ?_
      have pl := pl_fits hI (xs (((nI (6 * k)) + (1 : Int32))).toNatClampNeg) (xs (((nI (6 * k)) + (2 : Int32))).toNatClampNeg) (xs (((nI (6 * k)) + (3 : Int32))).toNatClampNeg) e1
      refine ez_callV hX (N0 := 0) (As := [.int (xs (((nI (6 * k)) + (1 : Int32))).toNatClampNeg), .int (xs (((nI (6 * k)) + (2 : Int32))).toNatClampNeg), .int (xs (((nI (6 * k)) + (3 : Int32))).toNatClampNeg)]) (st := [.int r1]) kc_118 (Nat.le_of_ble_eq_true rfl) lc_118 rfl (ec_X12_fits _ _ _ M1 (xs (((nI (6 * k)) + (1 : Int32))).toNatClampNeg) (xs (((nI (6 * k)) + (2 : Int32))).toNatClampNeg) (xs (((nI (6 * k)) + (3 : Int32))).toNatClampNeg) pl.1) (Or.inl rfl) wm_L_66 wv_X12_fits we_X12_fits wy_X12_fits rfl wd_X12_fits wi_X12 (ez_rok hRm rfl) (Nat.le_of_ble_eq_true rfl) dL_law_487 ?_
      refine ez_nmIM (fun r2 M2 e2 => ?_)
      have p2 := pl.2 _ _ e2
      exact ez_icmp_eq hX 1004 dL_law_490 (by decide) (fun _ => fin _ p2.2) (fun c => absurd p2.1 c)
    by_cases c12 : ((xs (nI (6 * k)).toNatClampNeg) &&& (31 : Int32)) = (12 : Int32)
    · have cx : (((xs (nI (6 * k)).toNatClampNeg) &&& (31 : Int32))).toInt = 12 := by rw [c12]; rfl
      refine ez_tsIn hX (12) (462) 495 dL_law_33 cx ⟨by decide, by decide, rfl, by decide⟩ ?_
      refine ez_aload_n hX 1 dL_law_495 rfl ?_
      refine ez_aload_n hX 0 dL_law_496 rfl ?_
      refine ez_iload_n hX 3 dL_law_497 rfl ?_
      refine ez_iconst hX (1 : Int32) dL_law_498 (by decide) ?_
      refine ez_iadd hX dL_law_499 ?_
      refine ez_sld hX hS hbl hB (lw_in h6 hL (by decide)) dL_law_500 ?_
      refine ez_aload_n hX 0 dL_law_501 rfl ?_
      refine ez_iload_n hX 3 dL_law_502 rfl ?_
      refine ez_iconst hX (2 : Int32) dL_law_503 (by decide) ?_
      refine ez_iadd hX dL_law_504 ?_
      refine ez_sld hX hS hbl hB (lw_in h6 hL (by decide)) dL_law_505 ?_
      refine ez_callV hX (N0 := 0) (As := [.int (xs (((nI (6 * k)) + (1 : Int32))).toNatClampNeg), .int (xs (((nI (6 * k)) + (2 : Int32))).toNatClampNeg)]) (st := []) kc_0 (Nat.le_of_ble_eq_true rfl) lc_0 rfl (ec_X11_alike _ _ _ M (xs (((nI (6 * k)) + (1 : Int32))).toNatClampNeg) (xs (((nI (6 * k)) + (2 : Int32))).toNatClampNeg)) (Or.inl rfl) wm_L_67 wv_X11_alike we_X11_alike wy_X11_alike rfl wd_X11_alike wi_X11 (ez_rok hRm rfl) (Nat.le_of_ble_eq_true rfl) dL_law_506 ?_
      refine ez_nmIM (fun r1 M1 e1 => ?_)
      refine ez_aload_n hX 2 dL_law_509 rfl ?_
      refine ez_aload_n hX 0 dL_law_510 rfl ?_
      refine ez_iload_n hX 3 dL_law_511 rfl ?_
      refine ez_iconst hX (1 : Int32) dL_law_512 (by decide) ?_
      refine ez_iadd hX dL_law_513 ?_
      refine ez_sld hX hS hbl hB (lw_in h6 hL (by decide)) dL_law_514 ?_
      refine ez_aload_n hX 0 dL_law_515 rfl ?_
      refine ez_iload_n hX 3 dL_law_516 rfl ?_
      refine ez_iconst hX (2 : Int32) dL_law_517 (by decide) ?_
      refine ez_iadd hX dL_law_518 ?_
      refine ez_sld hX hS hbl hB (lw_in h6 hL (by decide)) dL_law_519 ?_
      have pl := pl_alike hI (xs (((nI (6 * k)) + (1 : Int32))).toNatClampNeg) (xs (((nI (6 * k)) + (2 : Int32))).toNatClampNeg) e1
      refine ez_callV hX (N0 := 0) (As := [.int (xs (((nI (6 * k)) + (1 : Int32))).toNatClampNeg), .int (xs (((nI (6 * k)) + (2 : Int32))).toNatClampNeg)]) (st := [.int r1]) kc_118 (Nat.le_of_ble_eq_true rfl) lc_118 rfl (ec_X12_alike _ _ _ M1 (xs (((nI (6 * k)) + (1 : Int32))).toNatClampNeg) (xs (((nI (6 * k)) + (2 : Int32))).toNatClampNeg) pl.1) (Or.inl rfl) wm_L_70 wv_X12_alike we_X12_alike wy_X12_alike rfl wd_X12_alike wi_X12 (ez_rok hRm rfl) (Nat.le_of_ble_eq_true rfl) dL_law_520 ?_
      refine ez_nmIM (fun r2 M2 e2 => ?_)
      have p2 := pl.2 _ _ e2
      exact ez_icmp_eq hX 1004 dL_law_523 (by decide) (fun _ => fin _ p2.2) (fun c => absurd p2.1 c)
    by_cases c13 : ((xs (nI (6 * k)).toNatClampNeg) &&& (31 : Int32)) = (13 : Int32)
    · have cx : (((xs (nI (6 * k)).toNatClampNeg) &&& (31 : Int32))).toInt = 13 := by rw [c13]; rfl
      refine ez_tsIn hX (13) (495) 528 dL_law_33 cx ⟨by decide, by decide, rfl, by decide⟩ ?_
      refine ez_aload_n hX 1 dL_law_528 rfl ?_
      refine ez_aload_n hX 0 dL_law_529 rfl ?_
      refine ez_iload_n hX 3 dL_law_530 rfl ?_
      refine ez_iconst hX (1 : Int32) dL_law_531 (by decide) ?_
      refine ez_iadd hX dL_law_532 ?_
      refine ez_sld hX hS hbl hB (lw_in h6 hL (by decide)) dL_law_533 ?_
      refine ez_aload_n hX 0 dL_law_534 rfl ?_
      refine ez_iload_n hX 3 dL_law_535 rfl ?_
      refine ez_iconst hX (2 : Int32) dL_law_536 (by decide) ?_
      refine ez_iadd hX dL_law_537 ?_
      refine ez_sld hX hS hbl hB (lw_in h6 hL (by decide)) dL_law_538 ?_
      refine ez_aload_n hX 0 dL_law_539 rfl ?_
      refine ez_iload_n hX 3 dL_law_540 rfl ?_
      refine ez_iconst hX (3 : Int32) dL_law_541 (by decide) ?_
      refine ez_iadd hX dL_law_542 ?_
      refine ez_sld hX hS hbl hB (lw_in h6 hL (by decide)) dL_law_543 ?_
      refine ez_callV hX (N0 := 0) (As := [.int (xs (((nI (6 * k)) + (1 : Int32))).toNatClampNeg), .int (xs (((nI (6 * k)) + (2 : Int32))).toNatClampNeg), .int (xs (((nI (6 * k)) + (3 : Int32))).toNatClampNeg)]) (st := []) kc_0 (Nat.le_of_ble_eq_true rfl) lc_0 rfl (ec_X11_odds _ _ _ M (xs (((nI (6 * k)) + (1 : Int32))).toNatClampNeg) (xs (((nI (6 * k)) + (2 : Int32))).toNatClampNeg) (xs (((nI (6 * k)) + (3 : Int32))).toNatClampNeg)) (Or.inl rfl) wm_L_71 wv_X11_odds we_X11_odds wy_X11_odds rfl wd_X11_odds wi_X11 (ez_rok hRm rfl) (Nat.le_of_ble_eq_true rfl) dL_law_544 ?_
      refine ez_nmLM (fun r1 M1 e1 => ?_)
      refine ez_aload_n hX 2 dL_law_547 rfl ?_
      refine ez_aload_n hX 0 dL_law_548 rfl ?_
      refine ez_iload_n hX 3 dL_law_549 rfl ?_
      refine ez_iconst hX (1 : Int32) dL_law_550 (by decide) ?_
      refine ez_iadd hX dL_law_551 ?_
      refine ez_sld hX hS hbl hB (lw_in h6 hL (by decide)) dL_law_552 ?_
      refine ez_aload_n hX 0 dL_law_553 rfl ?_
      refine ez_iload_n hX 3 dL_law_554 rfl ?_
      refine ez_iconst hX (2 : Int32) dL_law_555 (by decide) ?_
      refine ez_iadd hX dL_law_556 ?_
      refine ez_sld hX hS hbl hB (lw_in h6 hL (by decide)) dL_law_557 ?_
      refine ez_aload_n hX 0 dL_law_558 rfl ?_
      refine ez_iload_n hX 3 dL_law_559 rfl ?_
      refine ez_iconst hX (3 : Int32) dL_law_560 (by decide) ?_
      refine ez_iadd hX dL_law_561 ?_
      refine ez_sld hX hS hbl hB (lw_in h6 hL (by decide)) dL_law_562 ?_
      have pl := pl_odds hI (xs (((nI (6 * k)) + (1 : Int32))).toNatClampNeg) (xs (((nI (6 * k)) + (2 : Int32))).toNatClampNeg) (xs (((nI (6 * k)) + (3 : Int32))).toNatClampNeg) e1
      refine ez_callV hX (N0 := 0) (As := [.int (xs (((nI (6 * k)) + (1 : Int32))).toNatClampNeg), .int (xs (((nI (6 * k)) + (2 : Int32))).toNatClampNeg), .int (xs (((nI (6 * k)) + (3 : Int32))).toNatClampNeg)]) (st := [.long r1]) kc_118 (Nat.le_of_ble_eq_true rfl) lc_118 rfl (ec_X12_odds _ _ _ M1 (xs (((nI (6 * k)) + (1 : Int32))).toNatClampNeg) (xs (((nI (6 * k)) + (2 : Int32))).toNatClampNeg) (xs (((nI (6 * k)) + (3 : Int32))).toNatClampNeg) pl.1) (Or.inl rfl) wm_L_75 wv_X12_odds we_X12_odds wy_X12_odds rfl wd_X12_odds wi_X12 (ez_rok hRm rfl) (Nat.le_of_ble_eq_true rfl) dL_law_563 ?_
      refine ez_nmLM (fun r2 M2 e2 => ?_)
      have p2 := pl.2 _ _ e2
      refine ez_lcmp hX dL_law_566 ?_
      exact ez_if_eq hX 1004 dL_law_567 (by decide) (fun _ => fin _ p2.2) (fun c => absurd (lw_lc p2.1) c)
    by_cases c14 : ((xs (nI (6 * k)).toNatClampNeg) &&& (31 : Int32)) = (14 : Int32)
    · have cx : (((xs (nI (6 * k)).toNatClampNeg) &&& (31 : Int32))).toInt = 14 := by rw [c14]; rfl
      refine ez_tsIn hX (14) (539) 572 dL_law_33 cx ⟨by decide, by decide, rfl, by decide⟩ ?_
      refine ez_aload_n hX 1 dL_law_572 rfl ?_
      refine ez_aload_n hX 0 dL_law_573 rfl ?_
      refine ez_iload_n hX 3 dL_law_574 rfl ?_
      refine ez_iconst hX (1 : Int32) dL_law_575 (by decide) ?_
      refine ez_iadd hX dL_law_576 ?_
      refine ez_sld hX hS hbl hB (lw_in h6 hL (by decide)) dL_law_577 ?_
      refine ez_aload_n hX 0 dL_law_578 rfl ?_
      refine ez_iload_n hX 3 dL_law_579 rfl ?_
      refine ez_iconst hX (2 : Int32) dL_law_580 (by decide) ?_
      refine ez_iadd hX dL_law_581 ?_
      refine ez_sld hX hS hbl hB (lw_in h6 hL (by decide)) dL_law_582 ?_
      refine ez_callV hX (N0 := 0) (As := [.int (xs (((nI (6 * k)) + (1 : Int32))).toNatClampNeg), .int (xs (((nI (6 * k)) + (2 : Int32))).toNatClampNeg)]) (st := []) kc_0 (Nat.le_of_ble_eq_true rfl) lc_0 rfl (ec_X11_meanH _ _ _ M (xs (((nI (6 * k)) + (1 : Int32))).toNatClampNeg) (xs (((nI (6 * k)) + (2 : Int32))).toNatClampNeg) (ep_meanH hI (xs (((nI (6 * k)) + (1 : Int32))).toNatClampNeg))) (Or.inl rfl) wm_L_76 wv_X11_mean we_X11_mean wy_X11_mean rfl wd_X11_mean wi_X11 (ez_rok hRm rfl) (Nat.le_of_ble_eq_true rfl) dL_law_583 ?_
      refine ez_nmLM (fun r1 M1 e1 => ?_)
      refine ez_aload_n hX 2 dL_law_586 rfl ?_
      refine ez_aload_n hX 0 dL_law_587 rfl ?_
      refine ez_iload_n hX 3 dL_law_588 rfl ?_
      refine ez_iconst hX (1 : Int32) dL_law_589 (by decide) ?_
      refine ez_iadd hX dL_law_590 ?_
      refine ez_sld hX hS hbl hB (lw_in h6 hL (by decide)) dL_law_591 ?_
      refine ez_aload_n hX 0 dL_law_592 rfl ?_
      refine ez_iload_n hX 3 dL_law_593 rfl ?_
      refine ez_iconst hX (2 : Int32) dL_law_594 (by decide) ?_
      refine ez_iadd hX dL_law_595 ?_
      refine ez_sld hX hS hbl hB (lw_in h6 hL (by decide)) dL_law_596 ?_
      have pl := pl_mean hI (xs (((nI (6 * k)) + (1 : Int32))).toNatClampNeg) (xs (((nI (6 * k)) + (2 : Int32))).toNatClampNeg) e1
      refine ez_callV hX (N0 := 0) (As := [.int (xs (((nI (6 * k)) + (1 : Int32))).toNatClampNeg), .int (xs (((nI (6 * k)) + (2 : Int32))).toNatClampNeg)]) (st := [.long r1]) kc_118 (Nat.le_of_ble_eq_true rfl) lc_118 rfl (ec_X12_mean _ _ _ M1 (xs (((nI (6 * k)) + (1 : Int32))).toNatClampNeg) (xs (((nI (6 * k)) + (2 : Int32))).toNatClampNeg) pl.1) (Or.inl rfl) wm_L_79 wv_X12_mean we_X12_mean wy_X12_mean rfl wd_X12_mean wi_X12 (ez_rok hRm rfl) (Nat.le_of_ble_eq_true rfl) dL_law_597 ?_
      refine ez_nmLM (fun r2 M2 e2 => ?_)
      have p2 := pl.2 _ _ e2
      refine ez_lcmp hX dL_law_600 ?_
      exact ez_if_eq hX 1004 dL_law_601 (by decide) (fun _ => fin _ p2.2) (fun c => absurd (lw_lc p2.1) c)
    by_cases c15 : ((xs (nI (6 * k)).toNatClampNeg) &&& (31 : Int32)) = (15 : Int32)
    · have cx : (((xs (nI (6 * k)).toNatClampNeg) &&& (31 : Int32))).toInt = 15 := by rw [c15]; rfl
      refine ez_tsIn hX (15) (573) 606 dL_law_33 cx ⟨by decide, by decide, rfl, by decide⟩ ?_
      refine ez_aload_n hX 1 dL_law_606 rfl ?_
      refine ez_aload_n hX 0 dL_law_607 rfl ?_
      refine ez_iload_n hX 3 dL_law_608 rfl ?_
      refine ez_iconst hX (1 : Int32) dL_law_609 (by decide) ?_
      refine ez_iadd hX dL_law_610 ?_
      refine ez_sld hX hS hbl hB (lw_in h6 hL (by decide)) dL_law_611 ?_
      refine ez_aload_n hX 0 dL_law_612 rfl ?_
      refine ez_iload_n hX 3 dL_law_613 rfl ?_
      refine ez_iconst hX (2 : Int32) dL_law_614 (by decide) ?_
      refine ez_iadd hX dL_law_615 ?_
      refine ez_sld hX hS hbl hB (lw_in h6 hL (by decide)) dL_law_616 ?_
      refine ez_callV hX (N0 := 0) (As := [.int (xs (((nI (6 * k)) + (1 : Int32))).toNatClampNeg), .int (xs (((nI (6 * k)) + (2 : Int32))).toNatClampNeg)]) (st := []) kc_0 (Nat.le_of_ble_eq_true rfl) lc_0 rfl (ec_X11_plan _ _ _ M (xs (((nI (6 * k)) + (1 : Int32))).toNatClampNeg) (xs (((nI (6 * k)) + (2 : Int32))).toNatClampNeg)) (Or.inl rfl) wm_L_80 wv_X11_plan we_X11_plan wy_X11_plan rfl wd_X11_plan wi_X11 (ez_rok hRm rfl) (Nat.le_of_ble_eq_true rfl) dL_law_617 ?_
      refine ez_nmIM (fun r1 M1 e1 => ?_)
      refine ez_aload_n hX 2 dL_law_620 rfl ?_
      refine ez_aload_n hX 0 dL_law_621 rfl ?_
      refine ez_iload_n hX 3 dL_law_622 rfl ?_
      refine ez_iconst hX (1 : Int32) dL_law_623 (by decide) ?_
      refine ez_iadd hX dL_law_624 ?_
      refine ez_sld hX hS hbl hB (lw_in h6 hL (by decide)) dL_law_625 ?_
      refine ez_aload_n hX 0 dL_law_626 rfl ?_
      refine ez_iload_n hX 3 dL_law_627 rfl ?_
      refine ez_iconst hX (2 : Int32) dL_law_628 (by decide) ?_
      refine ez_iadd hX dL_law_629 ?_
      refine ez_sld hX hS hbl hB (lw_in h6 hL (by decide)) dL_law_630 ?_
      have pl := pl_plan hI (xs (((nI (6 * k)) + (1 : Int32))).toNatClampNeg) (xs (((nI (6 * k)) + (2 : Int32))).toNatClampNeg) e1
      refine ez_callV hX (N0 := 0) (As := [.int (xs (((nI (6 * k)) + (1 : Int32))).toNatClampNeg), .int (xs (((nI (6 * k)) + (2 : Int32))).toNatClampNeg)]) (st := [.int r1]) kc_118 (Nat.le_of_ble_eq_true rfl) lc_118 rfl (ec_X12_plan _ _ _ M1 (xs (((nI (6 * k)) + (1 : Int32))).toNatClampNeg) (xs (((nI (6 * k)) + (2 : Int32))).toNatClampNeg) pl.1) (Or.inl rfl) wm_L_83 wv_X12_plan we_X12_plan wy_X12_plan rfl wd_X12_plan wi_X12 (ez_rok hRm rfl) (Nat.le_of_ble_eq_true rfl) dL_law_631 ?_
      refine ez_nmIM (fun r2 M2 e2 => ?_)
      have p2 := pl.2 _ _ e2
      exact ez_icmp_eq hX 1004 dL_law_634 (by decide) (fun _ => fin _ p2.2) (fun c => absurd p2.1 c)
    by_cases c16 : ((xs (nI (6 * k)).toNatClampNeg) &&& (31 : Int32)) = (16 : Int32)
    · have cx : (((xs (nI (6 * k)).toNatClampNeg) &&& (31 : Int32))).toInt = 16 := by rw [c16]; rfl
      refine ez_tsIn hX (16) (606) 639 dL_law_33 cx ⟨by decide, by decide, rfl, by decide⟩ ?_
      refine ez_aload_n hX 1 dL_law_639 rfl ?_
      refine ez_aload_n hX 0 dL_law_640 rfl ?_
      refine ez_iload_n hX 3 dL_law_641 rfl ?_
      refine ez_iconst hX (1 : Int32) dL_law_642 (by decide) ?_
      refine ez_iadd hX dL_law_643 ?_
      refine ez_sld hX hS hbl hB (lw_in h6 hL (by decide)) dL_law_644 ?_
      refine ez_callV hX (N0 := 0) (As := [.int (xs (((nI (6 * k)) + (1 : Int32))).toNatClampNeg)]) (st := []) kc_0 (Nat.le_of_ble_eq_true rfl) lc_0 rfl (ec_X11_ends _ _ _ M (xs (((nI (6 * k)) + (1 : Int32))).toNatClampNeg)) (Or.inl rfl) wm_L_84 wv_X11_ends we_X11_ends wy_X11_ends rfl wd_X11_ends wi_X11 (ez_rok hRm rfl) (Nat.le_of_ble_eq_true rfl) dL_law_645 ?_
      refine ez_nmLM (fun r1 M1 e1 => ?_)
      refine ez_aload_n hX 2 dL_law_648 rfl ?_
      refine ez_aload_n hX 0 dL_law_649 rfl ?_
      refine ez_iload_n hX 3 dL_law_650 rfl ?_
      refine ez_iconst hX (1 : Int32) dL_law_651 (by decide) ?_
      refine ez_iadd hX dL_law_652 ?_
      refine ez_sld hX hS hbl hB (lw_in h6 hL (by decide)) dL_law_653 ?_
      have pl := pl_ends hI (xs (((nI (6 * k)) + (1 : Int32))).toNatClampNeg) e1
      refine ez_callV hX (N0 := 0) (As := [.int (xs (((nI (6 * k)) + (1 : Int32))).toNatClampNeg)]) (st := [.long r1]) kc_118 (Nat.le_of_ble_eq_true rfl) lc_118 rfl (ec_X12_ends _ _ _ M1 (xs (((nI (6 * k)) + (1 : Int32))).toNatClampNeg) pl.1) (Or.inl rfl) wm_L_87 wv_X12_ends we_X12_ends wy_X12_ends rfl wd_X12_ends wi_X12 (ez_rok hRm rfl) (Nat.le_of_ble_eq_true rfl) dL_law_654 ?_
      refine ez_nmLM (fun r2 M2 e2 => ?_)
      have p2 := pl.2 _ _ e2
      refine ez_lcmp hX dL_law_657 ?_
      exact ez_if_eq hX 1004 dL_law_658 (by decide) (fun _ => fin _ p2.2) (fun c => absurd (lw_lc p2.1) c)
    by_cases c17 : ((xs (nI (6 * k)).toNatClampNeg) &&& (31 : Int32)) = (17 : Int32)
    · have cx : (((xs (nI (6 * k)).toNatClampNeg) &&& (31 : Int32))).toInt = 17 := by rw [c17]; rfl
      refine ez_tsIn hX (17) (630) 663 dL_law_33 cx ⟨by decide, by decide, rfl, by decide⟩ ?_
      refine ez_aload_n hX 1 dL_law_663 rfl ?_
      refine ez_aload_n hX 0 dL_law_664 rfl ?_
      refine ez_iload_n hX 3 dL_law_665 rfl ?_
      refine ez_iconst hX (1 : Int32) dL_law_666 (by decide) ?_
      refine ez_iadd hX dL_law_667 ?_
      refine ez_sld hX hS hbl hB (lw_in h6 hL (by decide)) dL_law_668 ?_
      refine ez_aload_n hX 0 dL_law_669 rfl ?_
      refine ez_iload_n hX 3 dL_law_670 rfl ?_
      refine ez_iconst hX (2 : Int32) dL_law_671 (by decide) ?_
      refine ez_iadd hX dL_law_672 ?_
      refine ez_sld hX hS hbl hB (lw_in h6 hL (by decide)) dL_law_673 ?_
      refine ez_callV hX (N0 := 0) (As := [.int (xs (((nI (6 * k)) + (1 : Int32))).toNatClampNeg), .int (xs (((nI (6 * k)) + (2 : Int32))).toNatClampNeg)]) (st := []) kc_0 (Nat.le_of_ble_eq_true rfl) lc_0 rfl (ec_X11_book _ _ _ M (xs (((nI (6 * k)) + (1 : Int32))).toNatClampNeg) (xs (((nI (6 * k)) + (2 : Int32))).toNatClampNeg)) (Or.inl rfl) wm_L_88 wv_X11_book we_X11_book wy_X11_book rfl wd_X11_book wi_X11 (ez_rok hRm rfl) (Nat.le_of_ble_eq_true rfl) dL_law_674 ?_
      refine ez_nmIM (fun r1 M1 e1 => ?_)
      refine ez_aload_n hX 2 dL_law_677 rfl ?_
      refine ez_aload_n hX 0 dL_law_678 rfl ?_
      refine ez_iload_n hX 3 dL_law_679 rfl ?_
      refine ez_iconst hX (1 : Int32) dL_law_680 (by decide) ?_
      refine ez_iadd hX dL_law_681 ?_
      refine ez_sld hX hS hbl hB (lw_in h6 hL (by decide)) dL_law_682 ?_
      refine ez_aload_n hX 0 dL_law_683 rfl ?_
      refine ez_iload_n hX 3 dL_law_684 rfl ?_
      refine ez_iconst hX (2 : Int32) dL_law_685 (by decide) ?_
      refine ez_iadd hX dL_law_686 ?_
      refine ez_sld hX hS hbl hB (lw_in h6 hL (by decide)) dL_law_687 ?_
      have pl := pl_book hI (xs (((nI (6 * k)) + (1 : Int32))).toNatClampNeg) (xs (((nI (6 * k)) + (2 : Int32))).toNatClampNeg) e1
      refine ez_callV hX (N0 := 0) (As := [.int (xs (((nI (6 * k)) + (1 : Int32))).toNatClampNeg), .int (xs (((nI (6 * k)) + (2 : Int32))).toNatClampNeg)]) (st := [.int r1]) kc_118 (Nat.le_of_ble_eq_true rfl) lc_118 rfl (ec_X12_book _ _ _ M1 (xs (((nI (6 * k)) + (1 : Int32))).toNatClampNeg) (xs (((nI (6 * k)) + (2 : Int32))).toNatClampNeg) pl.1) (Or.inl rfl) wm_L_91 wv_X12_book we_X12_book wy_X12_book rfl wd_X12_book wi_X12 (ez_rok hRm rfl) (Nat.le_of_ble_eq_true rfl) dL_law_688 ?_
      refine ez_nmIM (fun r2 M2 e2 => ?_)
      have p2 := pl.2 _ _ e2
      exact ez_icmp_eq hX 1004 dL_law_691 (by decide) (fun _ => fin _ p2.2) (fun c => absurd p2.1 c)
    by_cases c18 : ((xs (nI (6 * k)).toNatClampNeg) &&& (31 : Int32)) = (18 : Int32)
    · have cx : (((xs (nI (6 * k)).toNatClampNeg) &&& (31 : Int32))).toInt = 18 := by rw [c18]; rfl
      refine ez_tsIn hX (18) (663) 696 dL_law_33 cx ⟨by decide, by decide, rfl, by decide⟩ ?_
      refine ez_aload_n hX 1 dL_law_696 rfl ?_
      refine ez_callV hX (N0 := 0) (As := []) (st := []) kc_0 (Nat.le_of_ble_eq_true rfl) lc_0 rfl (ec_X11_looked _ _ _ M) (Or.inl rfl) wm_L_92 wv_X11_looked we_X11_looked wy_X11_looked rfl wd_X11_looked wi_X11 (ez_rok hRm rfl) (Nat.le_of_ble_eq_true rfl) dL_law_697 ?_
      refine ez_nmI (fun r1 e1 => ?_)
      refine ez_aload_n hX 2 dL_law_700 rfl ?_
      have pl := pl_looked hI  e1
      refine ez_callV hX (N0 := 0) (As := []) (st := [.int r1]) kc_118 (Nat.le_of_ble_eq_true rfl) lc_118 rfl (ec_X12_looked _ _ _ M pl.1) (Or.inl rfl) wm_L_95 wv_X12_looked we_X12_looked wy_X12_looked rfl wd_X12_looked wi_X12 (ez_rok hRm rfl) (Nat.le_of_ble_eq_true rfl) dL_law_701 ?_
      refine ez_nmI (fun r2 e2 => ?_)
      have p2 := pl.2 _ e2
      exact ez_icmp_eq hX 1004 dL_law_704 (by decide) (fun _ => fin _ p2.2) (fun c => absurd p2.1 c)
    by_cases c19 : ((xs (nI (6 * k)).toNatClampNeg) &&& (31 : Int32)) = (19 : Int32)
    · have cx : (((xs (nI (6 * k)).toNatClampNeg) &&& (31 : Int32))).toInt = 19 := by rw [c19]; rfl
      refine ez_tsIn hX (19) (676) 709 dL_law_33 cx ⟨by decide, by decide, rfl, by decide⟩ ?_
      refine ez_aload_n hX 1 dL_law_709 rfl ?_
      refine ez_aload_n hX 0 dL_law_710 rfl ?_
      refine ez_iload_n hX 3 dL_law_711 rfl ?_
      refine ez_iconst hX (1 : Int32) dL_law_712 (by decide) ?_
      refine ez_iadd hX dL_law_713 ?_
      refine ez_sld hX hS hbl hB (lw_in h6 hL (by decide)) dL_law_714 ?_
      refine ez_aload_n hX 0 dL_law_715 rfl ?_
      refine ez_iload_n hX 3 dL_law_716 rfl ?_
      refine ez_iconst hX (2 : Int32) dL_law_717 (by decide) ?_
      refine ez_iadd hX dL_law_718 ?_
      refine ez_sld hX hS hbl hB (lw_in h6 hL (by decide)) dL_law_719 ?_
      refine ez_callV hX (N0 := 0) (As := [.int (xs (((nI (6 * k)) + (1 : Int32))).toNatClampNeg), .int (xs (((nI (6 * k)) + (2 : Int32))).toNatClampNeg)]) (st := []) kc_0 (Nat.le_of_ble_eq_true rfl) lc_0 rfl (ec_X11_judge _ _ _ M (xs (((nI (6 * k)) + (1 : Int32))).toNatClampNeg) (xs (((nI (6 * k)) + (2 : Int32))).toNatClampNeg)) (Or.inl rfl) wm_L_96 wv_X11_judge we_X11_judge wy_X11_judge rfl wd_X11_judge wi_X11 (ez_rok hRm rfl) (Nat.le_of_ble_eq_true rfl) dL_law_720 ?_
      refine ez_nmI (fun r1 e1 => ?_)
      refine ez_aload_n hX 2 dL_law_723 rfl ?_
      refine ez_aload_n hX 0 dL_law_724 rfl ?_
      refine ez_iload_n hX 3 dL_law_725 rfl ?_
      refine ez_iconst hX (1 : Int32) dL_law_726 (by decide) ?_
      refine ez_iadd hX dL_law_727 ?_
      refine ez_sld hX hS hbl hB (lw_in h6 hL (by decide)) dL_law_728 ?_
      refine ez_aload_n hX 0 dL_law_729 rfl ?_
      refine ez_iload_n hX 3 dL_law_730 rfl ?_
      refine ez_iconst hX (2 : Int32) dL_law_731 (by decide) ?_
      refine ez_iadd hX dL_law_732 ?_
      refine ez_sld hX hS hbl hB (lw_in h6 hL (by decide)) dL_law_733 ?_
      have pl := pl_judge hI (xs (((nI (6 * k)) + (1 : Int32))).toNatClampNeg) (xs (((nI (6 * k)) + (2 : Int32))).toNatClampNeg) e1
      refine ez_callV hX (N0 := 0) (As := [.int (xs (((nI (6 * k)) + (1 : Int32))).toNatClampNeg), .int (xs (((nI (6 * k)) + (2 : Int32))).toNatClampNeg)]) (st := [.int r1]) kc_118 (Nat.le_of_ble_eq_true rfl) lc_118 rfl (ec_X12_judge _ _ _ M (xs (((nI (6 * k)) + (1 : Int32))).toNatClampNeg) (xs (((nI (6 * k)) + (2 : Int32))).toNatClampNeg) pl.1) (Or.inl rfl) wm_L_99 wv_X12_judge we_X12_judge wy_X12_judge rfl wd_X12_judge wi_X12 (ez_rok hRm rfl) (Nat.le_of_ble_eq_true rfl) dL_law_734 ?_
      refine ez_nmI (fun r2 e2 => ?_)
      have p2 := pl.2 _ e2
      exact ez_icmp_eq hX 1004 dL_law_737 (by decide) (fun _ => fin _ p2.2) (fun c => absurd p2.1 c)
    by_cases c20 : ((xs (nI (6 * k)).toNatClampNeg) &&& (31 : Int32)) = (20 : Int32)
    · have cx : (((xs (nI (6 * k)).toNatClampNeg) &&& (31 : Int32))).toInt = 20 := by rw [c20]; rfl
      refine ez_tsIn hX (20) (709) 742 dL_law_33 cx ⟨by decide, by decide, rfl, by decide⟩ ?_
      refine ez_aload_n hX 1 dL_law_742 rfl ?_
      refine ez_callV hX (N0 := 0) (As := []) (st := []) kc_0 (Nat.le_of_ble_eq_true rfl) lc_0 rfl (ec_X11_image _ _ _ M (ep_imgA hI)) (Or.inl rfl) wm_L_100 wv_X11_image we_X11_image wy_X11_image rfl wd_X11_image wi_X11 (ez_rok hRm rfl) (Nat.le_of_ble_eq_true rfl) dL_law_743 ?_
      refine ez_nmIM (fun r1 M1 e1 => ?_)
      refine ez_aload_n hX 2 dL_law_746 rfl ?_
      have pl := pl_image hI  e1
      refine ez_callV hX (N0 := 0) (As := []) (st := [.int r1]) kc_118 (Nat.le_of_ble_eq_true rfl) lc_118 rfl (ec_X12_image _ _ _ M1 pl.1) (Or.inl rfl) wm_L_103 wv_X12_image we_X12_image wy_X12_image rfl wd_X12_image wi_X12 (ez_rok hRm rfl) (Nat.le_of_ble_eq_true rfl) dL_law_747 ?_
      refine ez_nmIM (fun r2 M2 e2 => ?_)
      have p2 := pl.2 _ _ e2
      exact ez_icmp_eq hX 1004 dL_law_750 (by decide) (fun _ => fin _ p2.2) (fun c => absurd p2.1 c)
    by_cases c21 : ((xs (nI (6 * k)).toNatClampNeg) &&& (31 : Int32)) = (21 : Int32)
    · have cx : (((xs (nI (6 * k)).toNatClampNeg) &&& (31 : Int32))).toInt = 21 := by rw [c21]; rfl
      refine ez_tsIn hX (21) (722) 755 dL_law_33 cx ⟨by decide, by decide, rfl, by decide⟩ ?_
      refine ez_aload_n hX 1 dL_law_755 rfl ?_
      refine ez_callV hX (N0 := 0) (As := []) (st := []) kc_0 (Nat.le_of_ble_eq_true rfl) lc_0 rfl (ec_X11_undo _ _ _ M (ep_undoA hI)) (Or.inl rfl) wm_L_104 wv_X11_undo we_X11_undo wy_X11_undo rfl wd_X11_undo wi_X11 (ez_rok hRm rfl) (Nat.le_of_ble_eq_true rfl) dL_law_756 ?_
      refine ez_nmIM (fun r1 M1 e1 => ?_)
      refine ez_aload_n hX 2 dL_law_759 rfl ?_
      have pl := pl_undo hI  e1
      refine ez_callV hX (N0 := 0) (As := []) (st := [.int r1]) kc_118 (Nat.le_of_ble_eq_true rfl) lc_118 rfl (ec_X12_undo _ _ _ M1 pl.1) (Or.inl rfl) wm_L_107 wv_X12_undo we_X12_undo wy_X12_undo rfl wd_X12_undo wi_X12 (ez_rok hRm rfl) (Nat.le_of_ble_eq_true rfl) dL_law_760 ?_
      refine ez_nmIM (fun r2 M2 e2 => ?_)
      have p2 := pl.2 _ _ e2
      exact ez_icmp_eq hX 1004 dL_law_763 (by decide) (fun _ => fin _ p2.2) (fun c => absurd p2.1 c)
    by_cases c22 : ((xs (nI (6 * k)).toNatClampNeg) &&& (31 : Int32)) = (22 : Int32)
    · have cx : (((xs (nI (6 * k)).toNatClampNeg) &&& (31 : Int32))).toInt = 22 := by rw [c22]; rfl
      refine ez_tsIn hX (22) (735) 768 dL_law_33 cx ⟨by decide, by decide, rfl, by decide⟩ ?_
      refine ez_aload_n hX 1 dL_law_768 rfl ?_
      refine ez_aload_n hX 0 dL_law_769 rfl ?_
      refine ez_iload_n hX 3 dL_law_770 rfl ?_
      refine ez_iconst hX (1 : Int32) dL_law_771 (by decide) ?_
      refine ez_iadd hX dL_law_772 ?_
      refine ez_sld hX hS hbl hB (lw_in h6 hL (by decide)) dL_law_773 ?_
      refine ez_callV hX (N0 := 0) (As := [.int (xs (((nI (6 * k)) + (1 : Int32))).toNatClampNeg)]) (st := []) kc_0 (Nat.le_of_ble_eq_true rfl) lc_0 rfl (ec_X11_count _ _ _ M (xs (((nI (6 * k)) + (1 : Int32))).toNatClampNeg)) (Or.inl rfl) wm_L_108 wv_X11_count we_X11_count wy_X11_count rfl wd_X11_count wi_X11 (ez_rok hRm rfl) (Nat.le_of_ble_eq_true rfl) dL_law_774 ?_
      refine ez_nmI (fun r1 e1 => ?_)
      refine ez_aload_n hX 2 dL_law_777 rfl ?_
      refine ez_aload_n hX 0 dL_law_778 rfl ?_
      refine ez_iload_n hX 3 dL_law_779 rfl ?_
      refine ez_iconst hX (1 : Int32) dL_law_780 (by decide) ?_
      refine ez_iadd hX dL_law_781 ?_
      refine ez_sld hX hS hbl hB (lw_in h6 hL (by decide)) dL_law_782 ?_
      have pl := pl_count hI (xs (((nI (6 * k)) + (1 : Int32))).toNatClampNeg) e1
      refine ez_callV hX (N0 := 0) (As := [.int (xs (((nI (6 * k)) + (1 : Int32))).toNatClampNeg)]) (st := [.int r1]) kc_118 (Nat.le_of_ble_eq_true rfl) lc_118 rfl (ec_X12_count _ _ _ M (xs (((nI (6 * k)) + (1 : Int32))).toNatClampNeg)) (Or.inl rfl) wm_L_111 wv_X12_count we_X12_count wy_X12_count rfl wd_X12_count wi_X12 (ez_rok hRm rfl) (Nat.le_of_ble_eq_true rfl) dL_law_783 ?_
      refine ez_nmI (fun r2 e2 => ?_)
      have p2 := pl _ e2
      exact ez_icmp_eq hX 1004 dL_law_786 (by decide) (fun _ => fin _ p2.2) (fun c => absurd p2.1 c)
    by_cases c23 : ((xs (nI (6 * k)).toNatClampNeg) &&& (31 : Int32)) = (23 : Int32)
    · have cx : (((xs (nI (6 * k)).toNatClampNeg) &&& (31 : Int32))).toInt = 23 := by rw [c23]; rfl
      refine ez_tsIn hX (23) (758) 791 dL_law_33 cx ⟨by decide, by decide, rfl, by decide⟩ ?_
      refine ez_aload_n hX 1 dL_law_791 rfl ?_
      refine ez_aload_n hX 0 dL_law_792 rfl ?_
      refine ez_iload_n hX 3 dL_law_793 rfl ?_
      refine ez_iconst hX (1 : Int32) dL_law_794 (by decide) ?_
      refine ez_iadd hX dL_law_795 ?_
      refine ez_sld hX hS hbl hB (lw_in h6 hL (by decide)) dL_law_796 ?_
      refine ez_aload_n hX 0 dL_law_797 rfl ?_
      refine ez_iload_n hX 3 dL_law_798 rfl ?_
      refine ez_iconst hX (2 : Int32) dL_law_799 (by decide) ?_
      refine ez_iadd hX dL_law_800 ?_
      refine ez_sld hX hS hbl hB (lw_in h6 hL (by decide)) dL_law_801 ?_
      refine ez_aload_n hX 0 dL_law_802 rfl ?_
      refine ez_iload_n hX 3 dL_law_803 rfl ?_
      refine ez_iconst hX (3 : Int32) dL_law_804 (by decide) ?_
      refine ez_iadd hX dL_law_805 ?_
      refine ez_sld hX hS hbl hB (lw_in h6 hL (by decide)) dL_law_806 ?_
      refine ez_callV hX (N0 := 0) (As := [.int (xs (((nI (6 * k)) + (1 : Int32))).toNatClampNeg), .int (xs (((nI (6 * k)) + (2 : Int32))).toNatClampNeg), .int (xs (((nI (6 * k)) + (3 : Int32))).toNatClampNeg)]) (st := []) kc_0 (Nat.le_of_ble_eq_true rfl) lc_0 rfl (ec_X11_tape _ _ _ M (xs (((nI (6 * k)) + (1 : Int32))).toNatClampNeg) (xs (((nI (6 * k)) + (2 : Int32))).toNatClampNeg) (xs (((nI (6 * k)) + (3 : Int32))).toNatClampNeg)) (Or.inl rfl) wm_L_112 wv_X11_tape we_X11_tape wy_X11_tape rfl wd_X11_tape wi_X11 (ez_rok hRm rfl) (Nat.le_of_ble_eq_true rfl) dL_law_807 ?_
      refine ez_nmIM (fun r1 M1 e1 => ?_)
      refine ez_aload_n hX 2 dL_law_810 rfl ?_
      refine ez_aload_n hX 0 dL_law_811 rfl ?_
      refine ez_iload_n hX 3 dL_law_812 rfl ?_
      refine ez_iconst hX (1 : Int32) dL_law_813 (by decide) ?_
      refine ez_iadd hX dL_law_814 ?_
      refine ez_sld hX hS hbl hB (lw_in h6 hL (by decide)) dL_law_815 ?_
      refine ez_aload_n hX 0 dL_law_816 rfl ?_
      refine ez_iload_n hX 3 dL_law_817 rfl ?_
      refine ez_iconst hX (2 : Int32) dL_law_818 (by decide) ?_
      refine ez_iadd hX dL_law_819 ?_
      refine ez_sld hX hS hbl hB (lw_in h6 hL (by decide)) dL_law_820 ?_
      refine ez_aload_n hX 0 dL_law_821 rfl ?_
      refine ez_iload_n hX 3 dL_law_822 rfl ?_
      refine ez_iconst hX (3 : Int32) dL_law_823 (by decide) ?_
      refine ez_iadd hX dL_law_824 ?_
      refine ez_sld hX hS hbl hB (lw_in h6 hL (by decide)) dL_law_825 ?_
      have pl := pl_tape hI (xs (((nI (6 * k)) + (1 : Int32))).toNatClampNeg) (xs (((nI (6 * k)) + (2 : Int32))).toNatClampNeg) (xs (((nI (6 * k)) + (3 : Int32))).toNatClampNeg) e1
      refine ez_callV hX (N0 := 0) (As := [.int (xs (((nI (6 * k)) + (1 : Int32))).toNatClampNeg), .int (xs (((nI (6 * k)) + (2 : Int32))).toNatClampNeg), .int (xs (((nI (6 * k)) + (3 : Int32))).toNatClampNeg)]) (st := [.int r1]) kc_118 (Nat.le_of_ble_eq_true rfl) lc_118 rfl (ec_X12_tape _ _ _ M1 (xs (((nI (6 * k)) + (1 : Int32))).toNatClampNeg) (xs (((nI (6 * k)) + (2 : Int32))).toNatClampNeg) (xs (((nI (6 * k)) + (3 : Int32))).toNatClampNeg) pl.1) (Or.inl rfl) wm_L_115 wv_X12_tape we_X12_tape wy_X12_tape rfl wd_X12_tape wi_X12 (ez_rok hRm rfl) (Nat.le_of_ble_eq_true rfl) dL_law_826 ?_
      refine ez_nmIM (fun r2 M2 e2 => ?_)
      have p2 := pl.2 _ _ e2
      exact ez_icmp_eq hX 1004 dL_law_829 (by decide) (fun _ => fin _ p2.2) (fun c => absurd p2.1 c)
    by_cases c24 : ((xs (nI (6 * k)).toNatClampNeg) &&& (31 : Int32)) = (24 : Int32)
    · have cx : (((xs (nI (6 * k)).toNatClampNeg) &&& (31 : Int32))).toInt = 24 := by rw [c24]; rfl
      refine ez_tsIn hX (24) (801) 834 dL_law_33 cx ⟨by decide, by decide, rfl, by decide⟩ ?_
      refine ez_aload_n hX 1 dL_law_834 rfl ?_
      refine ez_aload_n hX 0 dL_law_835 rfl ?_
      refine ez_iload_n hX 3 dL_law_836 rfl ?_
      refine ez_iconst hX (1 : Int32) dL_law_837 (by decide) ?_
      refine ez_iadd hX dL_law_838 ?_
      refine ez_sld hX hS hbl hB (lw_in h6 hL (by decide)) dL_law_839 ?_
      refine ez_aload_n hX 0 dL_law_840 rfl ?_
      refine ez_iload_n hX 3 dL_law_841 rfl ?_
      refine ez_iconst hX (2 : Int32) dL_law_842 (by decide) ?_
      refine ez_iadd hX dL_law_843 ?_
      refine ez_sld hX hS hbl hB (lw_in h6 hL (by decide)) dL_law_844 ?_
      refine ez_aload_n hX 0 dL_law_845 rfl ?_
      refine ez_iload_n hX 3 dL_law_846 rfl ?_
      refine ez_iconst hX (3 : Int32) dL_law_847 (by decide) ?_
      refine ez_iadd hX dL_law_848 ?_
      refine ez_sld hX hS hbl hB (lw_in h6 hL (by decide)) dL_law_849 ?_
      refine ez_i2l hX dL_law_850 ?_
      refine ez_bipush hX (32 : Int32) dL_law_851 (by decide) ?_
      refine ez_lshl hX dL_law_853 ?_
      refine ez_aload_n hX 0 dL_law_854 rfl ?_
      refine ez_iload_n hX 3 dL_law_855 rfl ?_
      refine ez_iconst hX (4 : Int32) dL_law_856 (by decide) ?_
      refine ez_iadd hX dL_law_857 ?_
      refine ez_sld hX hS hbl hB (lw_in h6 hL (by decide)) dL_law_858 ?_
      refine ez_i2l hX dL_law_859 ?_
      refine ez_ldc2 hX wl_L_116 dL_law_860 ?_
      refine ez_land hX dL_law_863 ?_
      refine ez_lor hX dL_law_864 ?_
      refine ez_callV hX (N0 := 0) (As := [.int (xs (((nI (6 * k)) + (1 : Int32))).toNatClampNeg), .int (xs (((nI (6 * k)) + (2 : Int32))).toNatClampNeg), .long ((((xs (((nI (6 * k)) + (3 : Int32))).toNatClampNeg)).toInt64 <<< (((32 : Int32)).toInt64 &&& 63)) ||| (((xs (((nI (6 * k)) + (4 : Int32))).toNatClampNeg)).toInt64 &&& (4294967295 : Int64)))]) (st := []) kc_0 (Nat.le_of_ble_eq_true rfl) lc_0 rfl (ec_X11_item _ _ _ M (xs (((nI (6 * k)) + (1 : Int32))).toNatClampNeg) (xs (((nI (6 * k)) + (2 : Int32))).toNatClampNeg) ((((xs (((nI (6 * k)) + (3 : Int32))).toNatClampNeg)).toInt64 <<< (((32 : Int32)).toInt64 &&& 63)) ||| (((xs (((nI (6 * k)) + (4 : Int32))).toNatClampNeg)).toInt64 &&& (4294967295 : Int64)))) (Or.inl rfl) wm_L_118 wv_X11_item we_X11_item wy_X11_item rfl wd_X11_item wi_X11 (ez_rok hRm rfl) (Nat.le_of_ble_eq_true rfl) dL_law_865 ?_
      refine ez_nmIM (fun r1 M1 e1 => ?_)
      refine ez_aload_n hX 2 dL_law_868 rfl ?_
      refine ez_aload_n hX 0 dL_law_869 rfl ?_
      refine ez_iload_n hX 3 dL_law_870 rfl ?_
      refine ez_iconst hX (1 : Int32) dL_law_871 (by decide) ?_
      refine ez_iadd hX dL_law_872 ?_
      refine ez_sld hX hS hbl hB (lw_in h6 hL (by decide)) dL_law_873 ?_
      refine ez_aload_n hX 0 dL_law_874 rfl ?_
      refine ez_iload_n hX 3 dL_law_875 rfl ?_
      refine ez_iconst hX (2 : Int32) dL_law_876 (by decide) ?_
      refine ez_iadd hX dL_law_877 ?_
      refine ez_sld hX hS hbl hB (lw_in h6 hL (by decide)) dL_law_878 ?_
      refine ez_aload_n hX 0 dL_law_879 rfl ?_
      refine ez_iload_n hX 3 dL_law_880 rfl ?_
      refine ez_iconst hX (3 : Int32) dL_law_881 (by decide) ?_
      refine ez_iadd hX dL_law_882 ?_
      refine ez_sld hX hS hbl hB (lw_in h6 hL (by decide)) dL_law_883 ?_
      refine ez_i2l hX dL_law_884 ?_
      refine ez_bipush hX (32 : Int32) dL_law_885 (by decide) ?_
      refine ez_lshl hX dL_law_887 ?_
      refine ez_aload_n hX 0 dL_law_888 rfl ?_
      refine ez_iload_n hX 3 dL_law_889 rfl ?_
      refine ez_iconst hX (4 : Int32) dL_law_890 (by decide) ?_
      refine ez_iadd hX dL_law_891 ?_
      refine ez_sld hX hS hbl hB (lw_in h6 hL (by decide)) dL_law_892 ?_
      refine ez_i2l hX dL_law_893 ?_
      refine ez_ldc2 hX wl_L_116 dL_law_894 ?_
      refine ez_land hX dL_law_897 ?_
      refine ez_lor hX dL_law_898 ?_
      have pl := pl_item hI (xs (((nI (6 * k)) + (1 : Int32))).toNatClampNeg) (xs (((nI (6 * k)) + (2 : Int32))).toNatClampNeg) ((((xs (((nI (6 * k)) + (3 : Int32))).toNatClampNeg)).toInt64 <<< (((32 : Int32)).toInt64 &&& 63)) ||| (((xs (((nI (6 * k)) + (4 : Int32))).toNatClampNeg)).toInt64 &&& (4294967295 : Int64))) e1
      refine ez_callV hX (N0 := 0) (As := [.int (xs (((nI (6 * k)) + (1 : Int32))).toNatClampNeg), .int (xs (((nI (6 * k)) + (2 : Int32))).toNatClampNeg), .long ((((xs (((nI (6 * k)) + (3 : Int32))).toNatClampNeg)).toInt64 <<< (((32 : Int32)).toInt64 &&& 63)) ||| (((xs (((nI (6 * k)) + (4 : Int32))).toNatClampNeg)).toInt64 &&& (4294967295 : Int64)))]) (st := [.int r1]) kc_118 (Nat.le_of_ble_eq_true rfl) lc_118 rfl (ec_X12_item _ _ _ M1 (xs (((nI (6 * k)) + (1 : Int32))).toNatClampNeg) (xs (((nI (6 * k)) + (2 : Int32))).toNatClampNeg) ((((xs (((nI (6 * k)) + (3 : Int32))).toNatClampNeg)).toInt64 <<< (((32 : Int32)).toInt64 &&& 63)) ||| (((xs (((nI (6 * k)) + (4 : Int32))).toNatClampNeg)).toInt64 &&& (4294967295 : Int64))) pl.1) (Or.inl rfl) wm_L_122 wv_X12_item we_X12_item wy_X12_item rfl wd_X12_item wi_X12 (ez_rok hRm rfl) (Nat.le_of_ble_eq_true rfl) dL_law_899 ?_
      refine ez_nmIM (fun r2 M2 e2 => ?_)
      have p2 := pl.2 _ _ e2
      exact ez_icmp_eq hX 1004 dL_law_902 (by decide) (fun _ => fin _ p2.2) (fun c => absurd p2.1 c)
    by_cases c25 : ((xs (nI (6 * k)).toNatClampNeg) &&& (31 : Int32)) = (25 : Int32)
    · have cx : (((xs (nI (6 * k)).toNatClampNeg) &&& (31 : Int32))).toInt = 25 := by rw [c25]; rfl
      refine ez_tsIn hX (25) (874) 907 dL_law_33 cx ⟨by decide, by decide, rfl, by decide⟩ ?_
      refine ez_aload_n hX 1 dL_law_907 rfl ?_
      refine ez_aload_n hX 0 dL_law_908 rfl ?_
      refine ez_iload_n hX 3 dL_law_909 rfl ?_
      refine ez_iconst hX (1 : Int32) dL_law_910 (by decide) ?_
      refine ez_iadd hX dL_law_911 ?_
      refine ez_sld hX hS hbl hB (lw_in h6 hL (by decide)) dL_law_912 ?_
      refine ez_aload_n hX 0 dL_law_913 rfl ?_
      refine ez_iload_n hX 3 dL_law_914 rfl ?_
      refine ez_iconst hX (2 : Int32) dL_law_915 (by decide) ?_
      refine ez_iadd hX dL_law_916 ?_
      refine ez_sld hX hS hbl hB (lw_in h6 hL (by decide)) dL_law_917 ?_
      refine ez_callV hX (N0 := 0) (As := [.int (xs (((nI (6 * k)) + (1 : Int32))).toNatClampNeg), .int (xs (((nI (6 * k)) + (2 : Int32))).toNatClampNeg)]) (st := []) kc_0 (Nat.le_of_ble_eq_true rfl) lc_0 rfl (ec_X11_read _ _ _ M (xs (((nI (6 * k)) + (1 : Int32))).toNatClampNeg) (xs (((nI (6 * k)) + (2 : Int32))).toNatClampNeg)) (Or.inl rfl) wm_L_123 wv_X11_read we_X11_read wy_X11_read rfl wd_X11_read wi_X11 (ez_rok hRm rfl) (Nat.le_of_ble_eq_true rfl) dL_law_918 ?_
      refine ez_nmL (fun r1 e1 => ?_)
      refine ez_aload_n hX 2 dL_law_921 rfl ?_
      refine ez_aload_n hX 0 dL_law_922 rfl ?_
      refine ez_iload_n hX 3 dL_law_923 rfl ?_
      refine ez_iconst hX (1 : Int32) dL_law_924 (by decide) ?_
      refine ez_iadd hX dL_law_925 ?_
      refine ez_sld hX hS hbl hB (lw_in h6 hL (by decide)) dL_law_926 ?_
      refine ez_aload_n hX 0 dL_law_927 rfl ?_
      refine ez_iload_n hX 3 dL_law_928 rfl ?_
      refine ez_iconst hX (2 : Int32) dL_law_929 (by decide) ?_
      refine ez_iadd hX dL_law_930 ?_
      refine ez_sld hX hS hbl hB (lw_in h6 hL (by decide)) dL_law_931 ?_
      have pl := pl_read hI (xs (((nI (6 * k)) + (1 : Int32))).toNatClampNeg) (xs (((nI (6 * k)) + (2 : Int32))).toNatClampNeg) e1
      refine ez_callV hX (N0 := 0) (As := [.int (xs (((nI (6 * k)) + (1 : Int32))).toNatClampNeg), .int (xs (((nI (6 * k)) + (2 : Int32))).toNatClampNeg)]) (st := [.long r1]) kc_118 (Nat.le_of_ble_eq_true rfl) lc_118 rfl (ec_X12_read _ _ _ M (xs (((nI (6 * k)) + (1 : Int32))).toNatClampNeg) (xs (((nI (6 * k)) + (2 : Int32))).toNatClampNeg) pl.1) (Or.inl rfl) wm_L_126 wv_X12_read we_X12_read wy_X12_read rfl wd_X12_read wi_X12 (ez_rok hRm rfl) (Nat.le_of_ble_eq_true rfl) dL_law_932 ?_
      refine ez_nmL (fun r2 e2 => ?_)
      have p2 := pl.2 _ e2
      refine ez_lcmp hX dL_law_935 ?_
      exact ez_if_eq hX 1004 dL_law_936 (by decide) (fun _ => fin _ p2.2) (fun c => absurd (lw_lc p2.1) c)
    by_cases c26 : ((xs (nI (6 * k)).toNatClampNeg) &&& (31 : Int32)) = (26 : Int32)
    · have cx : (((xs (nI (6 * k)).toNatClampNeg) &&& (31 : Int32))).toInt = 26 := by rw [c26]; rfl
      refine ez_tsIn hX (26) (908) 941 dL_law_33 cx ⟨by decide, by decide, rfl, by decide⟩ ?_
      refine ez_aload_n hX 1 dL_law_941 rfl ?_
      refine ez_aload_n hX 0 dL_law_942 rfl ?_
      refine ez_iload_n hX 3 dL_law_943 rfl ?_
      refine ez_iconst hX (1 : Int32) dL_law_944 (by decide) ?_
      refine ez_iadd hX dL_law_945 ?_
      refine ez_sld hX hS hbl hB (lw_in h6 hL (by decide)) dL_law_946 ?_
      refine ez_aload_n hX 0 dL_law_947 rfl ?_
      refine ez_iload_n hX 3 dL_law_948 rfl ?_
      refine ez_iconst hX (2 : Int32) dL_law_949 (by decide) ?_
      refine ez_iadd hX dL_law_950 ?_
      refine ez_sld hX hS hbl hB (lw_in h6 hL (by decide)) dL_law_951 ?_
      refine ez_aload_n hX 0 dL_law_952 rfl ?_
      refine ez_iload_n hX 3 dL_law_953 rfl ?_
      refine ez_iconst hX (3 : Int32) dL_law_954 (by decide) ?_
      refine ez_iadd hX dL_law_955 ?_
      refine ez_sld hX hS hbl hB (lw_in h6 hL (by decide)) dL_law_956 ?_
      refine ez_aload_n hX 0 dL_law_957 rfl ?_
      refine ez_iload_n hX 3 dL_law_958 rfl ?_
      refine ez_iconst hX (4 : Int32) dL_law_959 (by decide) ?_
      refine ez_iadd hX dL_law_960 ?_
      refine ez_sld hX hS hbl hB (lw_in h6 hL (by decide)) dL_law_961 ?_
      refine ez_aload_n hX 0 dL_law_962 rfl ?_
      refine ez_iload_n hX 3 dL_law_963 rfl ?_
      refine ez_iconst hX (5 : Int32) dL_law_964 (by decide) ?_
      refine ez_iadd hX dL_law_965 ?_
      refine ez_sld hX hS hbl hB (lw_in h6 hL (by decide)) dL_law_966 ?_
      refine ez_callV hX (N0 := 0) (As := [.int (xs (((nI (6 * k)) + (1 : Int32))).toNatClampNeg), .int (xs (((nI (6 * k)) + (2 : Int32))).toNatClampNeg), .int (xs (((nI (6 * k)) + (3 : Int32))).toNatClampNeg), .int (xs (((nI (6 * k)) + (4 : Int32))).toNatClampNeg), .int (xs (((nI (6 * k)) + (5 : Int32))).toNatClampNeg)]) (st := []) kc_0 (Nat.le_of_ble_eq_true rfl) lc_0 rfl (ec_X11_shift _ _ _ M (xs (((nI (6 * k)) + (1 : Int32))).toNatClampNeg) (xs (((nI (6 * k)) + (2 : Int32))).toNatClampNeg) (xs (((nI (6 * k)) + (3 : Int32))).toNatClampNeg) (xs (((nI (6 * k)) + (4 : Int32))).toNatClampNeg) (xs (((nI (6 * k)) + (5 : Int32))).toNatClampNeg) (ep_htz hI)) (Or.inl rfl) wm_L_127 wv_X11_shift we_X11_shift wy_X11_shift rfl wd_X11_shift wi_X11 (ez_rok hRm rfl) (Nat.le_of_ble_eq_true rfl) dL_law_967 ?_
      refine ez_nmIM (fun r1 M1 e1 => ?_)
      refine ez_aload_n hX 2 dL_law_970 rfl ?_
      refine ez_aload_n hX 0 dL_law_971 rfl ?_
      refine ez_iload_n hX 3 dL_law_972 rfl ?_
      refine ez_iconst hX (1 : Int32) dL_law_973 (by decide) ?_
      refine ez_iadd hX dL_law_974 ?_
      refine ez_sld hX hS hbl hB (lw_in h6 hL (by decide)) dL_law_975 ?_
      refine ez_aload_n hX 0 dL_law_976 rfl ?_
      refine ez_iload_n hX 3 dL_law_977 rfl ?_
      refine ez_iconst hX (2 : Int32) dL_law_978 (by decide) ?_
      refine ez_iadd hX dL_law_979 ?_
      refine ez_sld hX hS hbl hB (lw_in h6 hL (by decide)) dL_law_980 ?_
      refine ez_aload_n hX 0 dL_law_981 rfl ?_
      refine ez_iload_n hX 3 dL_law_982 rfl ?_
      refine ez_iconst hX (3 : Int32) dL_law_983 (by decide) ?_
      refine ez_iadd hX dL_law_984 ?_
      refine ez_sld hX hS hbl hB (lw_in h6 hL (by decide)) dL_law_985 ?_
      refine ez_aload_n hX 0 dL_law_986 rfl ?_
      refine ez_iload_n hX 3 dL_law_987 rfl ?_
      refine ez_iconst hX (4 : Int32) dL_law_988 (by decide) ?_
      refine ez_iadd hX dL_law_989 ?_
      refine ez_sld hX hS hbl hB (lw_in h6 hL (by decide)) dL_law_990 ?_
      refine ez_aload_n hX 0 dL_law_991 rfl ?_
      refine ez_iload_n hX 3 dL_law_992 rfl ?_
      refine ez_iconst hX (5 : Int32) dL_law_993 (by decide) ?_
      refine ez_iadd hX dL_law_994 ?_
      refine ez_sld hX hS hbl hB (lw_in h6 hL (by decide)) dL_law_995 ?_
      have pl := pl_shift hI (xs (((nI (6 * k)) + (1 : Int32))).toNatClampNeg) (xs (((nI (6 * k)) + (2 : Int32))).toNatClampNeg) (xs (((nI (6 * k)) + (3 : Int32))).toNatClampNeg) (xs (((nI (6 * k)) + (4 : Int32))).toNatClampNeg) (xs (((nI (6 * k)) + (5 : Int32))).toNatClampNeg) e1
      refine ez_callV hX (N0 := 0) (As := [.int (xs (((nI (6 * k)) + (1 : Int32))).toNatClampNeg), .int (xs (((nI (6 * k)) + (2 : Int32))).toNatClampNeg), .int (xs (((nI (6 * k)) + (3 : Int32))).toNatClampNeg), .int (xs (((nI (6 * k)) + (4 : Int32))).toNatClampNeg), .int (xs (((nI (6 * k)) + (5 : Int32))).toNatClampNeg)]) (st := [.int r1]) kc_118 (Nat.le_of_ble_eq_true rfl) lc_118 rfl (ec_X12_shift _ _ _ M1 (xs (((nI (6 * k)) + (1 : Int32))).toNatClampNeg) (xs (((nI (6 * k)) + (2 : Int32))).toNatClampNeg) (xs (((nI (6 * k)) + (3 : Int32))).toNatClampNeg) (xs (((nI (6 * k)) + (4 : Int32))).toNatClampNeg) (xs (((nI (6 * k)) + (5 : Int32))).toNatClampNeg) pl.1) (Or.inl rfl) wm_L_131 wv_X12_shift we_X12_shift wy_X12_shift rfl wd_X12_shift wi_X12 (ez_rok hRm rfl) (Nat.le_of_ble_eq_true rfl) dL_law_996 ?_
      refine ez_nmIM (fun r2 M2 e2 => ?_)
      have p2 := pl.2 _ _ e2
      exact ez_icmp_eq hX 1004 dL_law_999 (by decide) (fun _ => fin _ p2.2) (fun c => absurd p2.1 c)
    refine ez_tsD hX [0, 1, 2, 3, 4, 5, 6, 7, 8, 9, 10, 11, 12, 13, 14, 15, 16, 17, 18, 19, 20, 21, 22, 23, 24, 25, 26] 1004 dL_law_33 (List.forall_mem_cons.mpr ⟨lv_neT c0 rfl, (List.forall_mem_cons.mpr ⟨lv_neT c1 rfl, (List.forall_mem_cons.mpr ⟨lv_neT c2 rfl, (List.forall_mem_cons.mpr ⟨lv_neT c3 rfl, (List.forall_mem_cons.mpr ⟨lv_neT c4 rfl, (List.forall_mem_cons.mpr ⟨lv_neT c5 rfl, (List.forall_mem_cons.mpr ⟨lv_neT c6 rfl, (List.forall_mem_cons.mpr ⟨lv_neT c7 rfl, (List.forall_mem_cons.mpr ⟨lv_neT c8 rfl, (List.forall_mem_cons.mpr ⟨lv_neT c9 rfl, (List.forall_mem_cons.mpr ⟨lv_neT c10 rfl, (List.forall_mem_cons.mpr ⟨lv_neT c11 rfl, (List.forall_mem_cons.mpr ⟨lv_neT c12 rfl, (List.forall_mem_cons.mpr ⟨lv_neT c13 rfl, (List.forall_mem_cons.mpr ⟨lv_neT c14 rfl, (List.forall_mem_cons.mpr ⟨lv_neT c15 rfl, (List.forall_mem_cons.mpr ⟨lv_neT c16 rfl, (List.forall_mem_cons.mpr ⟨lv_neT c17 rfl, (List.forall_mem_cons.mpr ⟨lv_neT c18 rfl, (List.forall_mem_cons.mpr ⟨lv_neT c19 rfl, (List.forall_mem_cons.mpr ⟨lv_neT c20 rfl, (List.forall_mem_cons.mpr ⟨lv_neT c21 rfl, (List.forall_mem_cons.mpr ⟨lv_neT c22 rfl, (List.forall_mem_cons.mpr ⟨lv_neT c23 rfl, (List.forall_mem_cons.mpr ⟨lv_neT c24 rfl, (List.forall_mem_cons.mpr ⟨lv_neT c25 rfl, (List.forall_mem_cons.mpr ⟨lv_neT c26 rfl, (fun _ h => absurd h List.not_mem_nil)⟩)⟩)⟩)⟩)⟩)⟩)⟩)⟩)⟩)⟩)⟩)⟩)⟩)⟩)⟩)⟩)⟩)⟩)⟩)⟩)⟩)⟩)⟩)⟩)⟩)⟩)⟩) (by decide +kernel) (by decide) ?_
    exact fin _ hI

theorem lw_ao : Cond.arrayOver (.object "EscapeFrames$Tape") ∈ lw_tbl := em_jn2 71 rfl
theorem ez_fin {X : em_X} {M : em_M} {mc ms pc : Nat} {lv : List (Nat × Value)} {st : List Value} (k : ez_Z X 132 em_R M mc ms pc lv st) : ez_Z X 132 em_r137 M mc ms pc lv st := by
  obtain ⟨p, l, e, Rm, s, m, args, below, meth, c, nL, D, B, Q⟩ := X
  intro H locs ls h1 h2 h3
  rw [em_wsfin] at h1
  exact k H locs ls h1 h2 h3
theorem em_tb_sub : ∀ w ∈ em_tb, w ∈ lw_tbl := fun w h => (List.mem_filter.mp h).1
set_option maxHeartbeats 4000000 in
set_option maxRecDepth 100000 in
theorem whole_start {p : Program} {e : Env} {s : State} {m : MethodId} {below : List Frame} {meth : Method} {c : Code} (l : Launch) (hflags : l.flags = flags0) {b L : Nat} {xs : Nat → Int32} (hL : L ≤ 3072) (C0 : lw_At p s m meth c b L xs) : W p l e room_1 s m #[Value.ref b] below meth c s.heap [] 0 0 (lw_Z below #[Value.ref b] s) (entryFrame m ([Value.ref b] : List Value).toArray 4) := by
  obtain ⟨hx, hb, hr, hml, hown, hts, hX, hbl, hlocks, hgv⟩ := C0
  have htb : ∀ w ∈ em_tb, w.before #[Value.ref b] s = true := fun w h => hts w (em_tb_sub w h)
  obtain ⟨c0, iS0, hKn0⟩ := u_known (C := RX0) (T := TX0) (N := 9) (n := 9) htb inX0 (htb _ wn_X0)
  obtain ⟨c1, iS1, hKn1⟩ := u_known (C := RX1) (T := TX1) (N := 5) (n := 5) htb inX1 (htb _ wn_X1)
  obtain ⟨c2, iS2, hKn2⟩ := u_known (C := RX2) (T := TX2) (N := 9) (n := 9) htb inX2 (htb _ wn_X2)
  obtain ⟨c3, iS3, hKn3⟩ := u_known (C := RX3) (T := TX3) (N := 15) (n := 15) htb inX3 (htb _ wn_X3)
  obtain ⟨c4, iS4, hKn4⟩ := u_known (C := RX4) (T := TX4) (N := 6) (n := 6) htb inX4 (htb _ wn_X4)
  obtain ⟨c5, iS5, hKn5⟩ := u_known (C := RX5) (T := TX5) (N := 4) (n := 4) htb inX5 (htb _ wn_X5)
  obtain ⟨c6, iS6, hKn6⟩ := u_known (C := RX6) (T := TX6) (N := 4) (n := 4) htb inX6 (htb _ wn_X6)
  obtain ⟨c7, iS7, hKn7⟩ := u_known (C := RX7) (T := TX7) (N := 2) (n := 2) htb inX7 (htb _ wn_X7)
  obtain ⟨c8, iS8, hKn8⟩ := u_known (C := RX8) (T := TX8) (N := 3) (n := 3) htb inX8 (htb _ wn_X8)
  obtain ⟨c9, iS9, hKn9⟩ := u_known (C := RX9) (T := TX9) (N := 5) (n := 5) htb inX9 (htb _ wn_X9)
  obtain ⟨c10, iS10, hKn10⟩ := u_known (C := RX10) (T := TX10) (N := 2) (n := 2) htb inX10 (htb _ wn_X10)
  obtain ⟨c11, iS11, hKn11⟩ := u_known (C := RX11) (T := TX11) (N := 9) (n := 9) htb inX11 (htb _ wn_X11)
  obtain ⟨c12, iS12, hKn12⟩ := u_known (C := RX12) (T := TX12) (N := 19) (n := 19) htb inX12 (htb _ wn_X12)
  obtain ⟨dC, dI, hKc⟩ : ∃ (dC : Nat → ClassId) (dI : Nat → Nat → Nat), ∀ (k : Nat) (q : vw_C), vwCl[k]? = some q → u_Kn s q.1 q.2.1 q.2.2 (dC k) (dI k) := by
    refine ⟨fun k => if k = 0 then c0 else if k = 1 then c1 else if k = 2 then c2 else if k = 3 then c3 else if k = 4 then c4 else if k = 5 then c5 else if k = 6 then c6 else if k = 7 then c7 else if k = 8 then c8 else if k = 9 then c9 else if k = 10 then c10 else if k = 11 then c11 else c12, fun k => if k = 0 then iS0 else if k = 1 then iS1 else if k = 2 then iS2 else if k = 3 then iS3 else if k = 4 then iS4 else if k = 5 then iS5 else if k = 6 then iS6 else if k = 7 then iS7 else if k = 8 then iS8 else if k = 9 then iS9 else if k = 10 then iS10 else if k = 11 then iS11 else iS12, ?_⟩
    intro k q hq
    match k, hq with
    | 0, hq => cases hq; exact hKn0
    | 1, hq => cases hq; exact hKn1
    | 2, hq => cases hq; exact hKn2
    | 3, hq => cases hq; exact hKn3
    | 4, hq => cases hq; exact hKn4
    | 5, hq => cases hq; exact hKn5
    | 6, hq => cases hq; exact hKn6
    | 7, hq => cases hq; exact hKn7
    | 8, hq => cases hq; exact hKn8
    | 9, hq => cases hq; exact hKn9
    | 10, hq => cases hq; exact hKn10
    | 11, hq => cases hq; exact hKn11
    | 12, hq => cases hq; exact hKn12
    | k + 13, hq => simp [vwCl] at hq
  obtain ⟨cI, kI, compI, f1, f2, f3⟩ := Cond.arrayClass_spec (htb _ wa_int)
  obtain ⟨cJ, kJ, compJ, g1, g2, g3⟩ := Cond.arrayClass_spec (htb _ wa_long)
  have hAO : va_AO "EscapeFrames$Tape" s := va_AO.of (hts _ lw_ao)
  obtain ⟨compT, cT, kT, j1, j2, j3, j4, j5⟩ := Cond.arrayOver_spec (va_AO.use (A := #[Value.ref b]) hAO)
  have hK : em_K (dC, dI, cI, cJ, cT) s := by
    refine ⟨⟨hKc, fun k q hq => ?_⟩, hAO, fun q hq => va_Nw.of rfl (hts _ (em_nests_in q hq))⟩
    match k, hq with
    | 0, hq => cases hq; exact ⟨fun n z => ⟨fun k h => (by cases h), kI, f2, compI, f3⟩, f1⟩
    | 1, hq => cases hq; exact ⟨fun n z => ⟨fun k h => (by cases h), kJ, g2, compJ, g3⟩, g1⟩
    | 2, hq => cases hq; exact ⟨fun n z => ⟨fun k h => (by cases h), kT, j3, compT, j4⟩, kT, compT, j3, j4, j1, j5⟩
    | k + 3, hq => simp [em_tys] at hq
  have hl := lv_entry ([.ref b]) (n := 4) (Nat.le_of_ble_eq_true rfl)
  rw [lg_entry_eq]
  generalize (lg_sl ([.ref b]) ++ List.replicate (4 - (lg_sl ([.ref b])).length) Slot.unset).toArray = ls at hl ⊢
  have main : ez_Z (p, l, e, room_1, s, m, #[Value.ref b], below, meth, c, 4, (dC, dI, cI, cJ, cT), s.heap.size, lw_Z below #[Value.ref b] s) 0 em_r0 em_m0 0 0 0 [(0, .ref b)] [] := by
    have hend : ∀ (M : em_M) (lv : List (Nat × Value)), ez_Z (p, l, e, room_1, s, m, #[Value.ref b], below, meth, c, 4, (dC, dI, cI, cJ, cT), s.heap.size, lw_Z below #[Value.ref b] s) 132 em_R M 132 53341 1011 lv [.int 1] := fun M lv => ez_lawret hx hb hr hlocks dL_law_1011 (by decide) (by decide)
    have hok : ez_ok (p, l, e, room_1, s, m, #[Value.ref b], below, meth, c, 4, (dC, dI, cI, cJ, cT), s.heap.size, lw_Z below #[Value.ref b] s) cL_law RL := ⟨hx, hb, hml, hown, htb, hK, Nat.le_refl _, hlocks⟩
    generalize hXe : (p, l, e, room_1, s, m, #[Value.ref b], below, meth, c, 4, (dC, dI, cI, cJ, cT), s.heap.size, lw_Z below #[Value.ref b] s) = X at hend hok ⊢
    have hRm : ez_rm X = { frames := 2048, cells := 600000, slots := 7302250, locals := 84000 } := by rw [← hXe]; rfl
    have hnL : ez_nL X = 4 := by rw [← hXe]; rfl
    have hs : ez_s X = s := by rw [← hXe]; rfl
    have hB : ez_B X = s.heap.size := by rw [← hXe]; rfl
    have hsz : (ez_s X).heap.size = ez_B X + 0 := by rw [hs, hB]; rfl
    have hX := hok
    refine ez_new hX (N0 := 0) hsz rfl kc_0 (Nat.le_of_ble_eq_true rfl) rfl inX11 tyX11 tyX11_ok (ez_df11 (rz_0 0 (by decide)) (mz_0 0 (by decide))) wc_L_7 wn_X11 wi_X11 (ez_rn hRm rfl) dL_law_0 ?_
    refine ez_dup hX dL_law_3 rfl ?_
    refine ez_callI hX (N0 := 0) (As := []) (st := [.ref (ez_B X + 0)]) (ecn_1 _ _ _) (Or.inr ⟨hsz, rfl⟩) wm_L_9 wv_X11_init rfl wy_X11_init rfl wd_X11_init wi_X11 (ez_rok hRm rfl) (Nat.le_of_ble_eq_true rfl) dL_law_4 ?_
    refine ez_astore_n hX [(1, .ref (ez_B X + 0)), (0, .ref b)] dL_law_7 (ez_lt hnL rfl) rfl ?_
    refine ez_new hX (N0 := 0) hsz rfl kc_118 (Nat.le_of_ble_eq_true rfl) rfl inX12 tyX12 tyX12_ok (ez_df12 (rz_124 118 (by decide)) (mz_25 118 (by decide))) wc_L_10 wn_X12 wi_X12 (ez_rn hRm rfl) dL_law_8 ?_
    refine ez_dup hX dL_law_11 rfl ?_
    refine ez_callI hX (N0 := 0) (As := []) (st := [.ref (ez_B X + 118)]) (ecn_37 _ _ _) (Or.inr ⟨hsz, rfl⟩) wm_L_12 wv_X12_init rfl wy_X12_init rfl wd_X12_init wi_X12 (ez_rok hRm rfl) (Nat.le_of_ble_eq_true rfl) dL_law_12 ?_
    refine ez_astore_n hX [(2, .ref (ez_B X + 118)), (1, .ref (ez_B X + 0)), (0, .ref b)] dL_law_15 (ez_lt hnL rfl) rfl ?_
    refine ez_iconst hX (0 : Int32) dL_law_16 (by decide) ?_
    refine ez_istore_n hX [(3, .int 0), (2, .ref (ez_B X + 118)), (1, .ref (ez_B X + 0)), (0, .ref b)] dL_law_17 (ez_lt hnL rfl) rfl ?_
    refine ez_lv [3, 2, 1, 0] rfl ?_
    refine ez_fin ?_
    exact law_loop (mc := 0) (ms := 0) (by decide) (by decide) hX hRm hnL (by rw [hs]; assumption) (by rw [hs]; exact hbl) (by rw [hs]; exact hB) hL hend (L + 1) 0 _ (Nat.zero_le L) (by omega) ep_Inv0
  exact main s.heap [] ls (fun k q h => by simp [em_ws] at h) va_S.rf hl

set_option maxHeartbeats 4000000 in
theorem lw_walk (l : Launch) (hflags : l.flags = flags0) (b : Addr) (xs : List Int32) : MetFree l x (headSpec (Jvm.Cond.code x code maxLocals ret :: tables_1) room_1) (lw_P b xs) (fun _ _ _ _ _ => True) lw_Q := by
  refine MetFree.of_bodyS (code := code) (maxLocals := maxLocals) (ret := ret) (by decide) ?_ ?_
  · intro args s m h hn
    obtain ⟨meth, c, h1, h2, h3, h4, h5, h6, -, -⟩ := Cond.code_spec hn (atoms_spec (ws := Jvm.Cond.code x code maxLocals ret :: tables_1) h _ List.mem_cons_self)
    exact ⟨meth, c, h1, h2, h3, h4, h5, h6⟩
  · intro p e s m args below meth c s₁ B hml0 hP _
    obtain ⟨rfl, hx, hbd, hgv⟩ := hP
    obtain ⟨scr, harrAt, hlist, hof, hsmall⟩ := hx
    obtain ⟨hcb, hkn, -, -⟩ := State.arrayAt?_spec harrAt
    have hown : s.vm.findClass R_law = some m.cls := findClass_of_methodNamed B.named
    have hts0 : ∀ c ∈ (Jvm.Cond.code x code maxLocals ret :: tables_1), c.before #[Value.ref b] s = true := atoms_spec (ws := Jvm.Cond.code x code maxLocals ret :: tables_1) B.pre
    have hts : ∀ w ∈ lw_tbl, w.before #[Value.ref b] s = true := k2_hts_sels lw_privs (fun w hw => hts0 w (List.mem_cons_of_mem _ hw)) lw_privs_ok
    have hml : c.maxLocals = 4 := B.maxLocals_eq (hts0 _ List.mem_cons_self)
    have X₀ : Stand p l e room_1 s m #[Value.ref b] below meth c s₁ [] 0 0 := Stand.of_body B
    have hh0 : s₁.heap = s.heap := by rw [B.state]; rfl
    have hsz : scr.slots.size = xs.length := by rw [← Array.length_toList, hlist, List.length_map]
    have hval : ∀ j : Nat, j < xs.length → scr.slots[j]? = some (.int (xs.getD j 0)) := fun j hj => by
      rw [← Array.getElem?_toList, hlist]
      simp [hj]
    have hbl : b < s.heap.size := (Array.getElem?_eq_some_iff.mp hcb).1
    have hX : va_X b xs.length (fun j => xs.getD j 0) s s.heap := ⟨scr, hcb, hof, hkn, hsz, hval⟩
    have K : W p l e room_1 s m #[Value.ref b] below meth c s₁.heap [] 0 0 (lw_Z below #[Value.ref b] s) (entryFrame m ([Value.ref b] : List Value).toArray 4) := by
      rw [hh0]
      exact whole_start l hflags hbd ⟨B.exec, B.bytes, B.returns, hml, hown, hts, hX, hbl, B.notSynchronized, hgv⟩
    obtain ⟨t, a1, o, b1, b2, b3⟩ := K s₁ rfl X₀
    exact ⟨t, o, a1, b1, b2, b3⟩
theorem lw_pre_spec {args : Array Value} {s : State} (h : (Jvm.Cond.and given_1 narrow_1).before args s = true) (hr : rest_1_c.before args s = true) : ∃ (b : Addr) (xs : List Int32), lw_P b xs args s := by
  have hs := flat_of_before _ h
  have hq := flat_of_before _ hr
  have hc : (Cond.count 1).before args s = true := hs _ (by decide +kernel)
  have harr : (Cond.arrayOf (.arg 0) .int).before args s = true := hs _ (by decide +kernel)
  have hle : (Cond.le (.length (.arg 0)) (.int 3072)).before args s = true := hs _ (by decide +kernel)
  have hlen : (Cond.isInt (.length (.arg 0))).before args s = true := hq _ (by decide +kernel)
  have hall : (Cond.all (.arg 0) (.isInt (.elem (.arg 0) (.index 0)))).before args s = true := hq _ (by decide +kernel)
  obtain ⟨b, xs, hb, hx⟩ := State.ints_of_pre rfl harr hlen hall
  have hsm : xs.length < 2 ^ 31 := hx.choose_spec.2.2.2
  have hev : (Term.length (.arg 0)).eval args s none [] s = some (.int xs.length.toInt32) := hx.length_eval hb
  have hv := Cond.le_ints hev (show (Term.int 3072).eval args s none [] s = some (.int 3072) from rfl)
  have hd : xs.length.toInt32 ≤ 3072 := by
    simpa [Cond.before, Cond.holds, hv] using hle
  have hN : xs.length ≤ 3072 := (Int32.ofNat_le_ofNat hsm (by decide)).mp (show Int32.ofNat xs.length ≤ Int32.ofNat 3072 from hd)
  exact ⟨b, xs, Cond.one_arg hc (show args[0]? = some (.ref b) from hb), hx, hN, h⟩
theorem lw_comes (l : Launch) (hflags : l.flags = flags0) : Comes l x (Jvm.Cond.code x code maxLocals ret :: tables_1) room_1 (fun tb e args s => Calls_1 tb e args s ∧ rest_1 tb e args s ∧ Pre_1 tb e args s)
    (fun _ _ args s o t => lw_Q args s o t) := by
  intro p e ha hc hk s m args below hf hfit hheap happ hpre
  obtain ⟨b, xs, hP⟩ := lw_pre_spec hpre.2.2 hpre.2.1
  obtain ⟨k, o, h1, h2, h3, hQ⟩ := lw_walk l hflags b xs p e ha hc hk s m args below hf ((Spec.applies_iff_loose hf).mp happ).1 hP trivial
  exact ⟨k, o, h1, h2, h3, hQ⟩
theorem lw_frame {s t : State} {o : Outcome} {args : Array Value} (h : Framed s o t [] 600000 7302250) :
    Framed s o t (fieldLocs frame_1_writes args s ++ arrayLocs frame_1_arrays args s ++ staticLocs frame_1_statics s) 600000 7302250 := h
theorem lw_limb (L : Cond) (hL : ∀ (args : Array Value) (s t : State), L.after args s (.returned (some (.int 1))) t = true) :
    ArmFor flags0 classFile x code maxLocals ret World_1 tables_1 room_1 Calls_1 rest_1 Pre_1
      (fun tb e a s o t => postC L tb e a s o t ∧ Framed s o t (fieldLocs frame_1_writes a s ++ arrayLocs frame_1_arrays a s ++ staticLocs frame_1_statics s) 600000 7302250) := by
  intro l hflags _ _ p e ha hc hk s m args below hf hfit hheap happ hpre
  obtain ⟨k, o, h1, h2, h3, rfl, hF⟩ := lw_comes l hflags p e ha hc hk s m args below hf hfit hheap happ hpre
  exact ⟨k, _, h1, h2, h3, hL args s _, lw_frame hF⟩
theorem i_vc : Claimed_1_1 ∧ Claimed_1_2 := ⟨lw_limb limb_1_1 (fun args s t => by simp [limb_1_1, Cond.after, Cond.holds, Cond.value]), lw_limb limb_1_2 (fun args s t => Cond.after_iff.mpr (by
  first | (rw [show limb_1_2 = Cond.eq .result (.int 1) from rfl, Cond.eq_ints (x := 1) (y := 1) rfl rfl]; simp; done) | (simp [limb_1_2, Cond.value, Term.eval]; done)))⟩
