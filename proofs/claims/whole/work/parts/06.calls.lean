theorem em_pc_blind {D : em_G} {B : Nat} {f : Bool} {av : List Value} {N : Nat} {R : em_Rt} {M : em_M} : FrameBlind (em_pc D B f av N R M) := fun _ _ _ _ ⟨h1, h2, h3, h4, h5⟩ => ⟨h1, h2, h3, h4, em_K.same h5 rfl⟩
set_option maxHeartbeats 1000000 in
/-- a contract out of a walk -/
theorem em_C_of {l : Launch} {D : em_G} {B : Nat} {y : MethodName} {cc : ByteArray} {mL : Nat} {ret : Option FieldType} {fr lo mc ms : Nat} {f : Bool} {av : List Value} {N : Nat} {R : em_Rt} {M : em_M} {rv : Option Value} {N' : Nat} {R' : em_Rt} {M' : em_M} (own : String) (lv0 : List (Nat × Value)) (hy : plainName y.cls = true) (ho : y.cls = own) (hlv : lv_args 0 av = lv0) (hn : (lg_sl av).length ≤ mL)
    (body : ∀ X : em_X, ez_l X = l → ez_D X = D → ez_B X = B → ez_rm X = { frames := fr, cells := mc, slots := ms, locals := lo } → ez_nL X = mL → ez_name X = y.name → (f = true → (ez_s X).heap.size = ez_B X + N) → ez_ok X cc own → ez_ret X ret rv N' R' M' mc ms → ez_Z X N R M 0 0 0 lv0 []) :
    em_C l D B y cc mL ret fr lo mc ms f av N R M rv N' R' M' := by
  refine Met.ofW (cc := cc) (maxL := mL) (ret := ret) hy rfl ?_
  intro p e s m args below meth c s₁ Bd hml hv
  obtain ⟨rfl, hB, hsz, hP, hK⟩ := hv
  have hts := atoms_spec (ws := Cond.code y cc mL ret :: em_tb) Bd.pre
  have hown : s.vm.findClass y.cls = some m.cls := findClass_of_methodNamed Bd.named
  rw [ho] at hown
  have hl := lv_entry av (n := mL) hn
  rw [hlv] at hl
  rw [lg_entry_eq]
  have hb := body (p, l, e, { frames := fr, cells := mc, slots := ms, locals := lo }, s, m, av.toArray, below, meth, c, mL, D, B, MQ below (em_qc D B rv N' R' M') av.toArray s mc ms (fun q => B ≤ q)) rfl rfl rfl rfl rfl (name_of_methodNamed Bd.named Bd.method).1 hsz ⟨Bd.exec, Bd.bytes, hml, hown, fun w hw => hts w (List.mem_cons_of_mem _ hw), hK, hB, Bd.notSynchronized⟩ ⟨Bd.returns, rfl⟩
  exact hb s.heap [] _ hP va_S.rf hl

theorem ez_iret {X : em_X} {cc : ByteArray} {own : String} {N : Nat} {R : em_Rt} {M M' : em_M} {mc ms pc : Nat} {lv : List (Nat × Value)} (hX : ez_ok X cc own) {v : Int32} {rv : Option Value} (hQ : ez_ret X (some .int) rv N R M' mc ms) (hd : decode cc pc = .ok (.ireturn, 1)) (hv : some (.int v) = rv) (hM : M = M') : ez_Z X N R M mc ms pc lv [.int v] := by
  obtain ⟨p, l, e, Rm, s, m, args, below, meth, c, nL, D, B, Q⟩ := X
  subst hv
  subst hM
  obtain ⟨hr, hQ⟩ := hQ
  subst hQ
  have hlocks := hX.2.2.2.2.2.2.2
  intro H locs ls h1 h2 h3
  exact W.iret hX.1 hX.2.1 hr (fun t ht hW => ⟨rfl, by rw [ht]; exact h1, h2.F ht⟩) h2.2.2 hd hlocks

theorem ez_zret {X : em_X} {cc : ByteArray} {own : String} {N : Nat} {R : em_Rt} {M M' : em_M} {mc ms pc : Nat} {lv : List (Nat × Value)} (hX : ez_ok X cc own) {v : Int32} {rv : Option Value} (hQ : ez_ret X (some .boolean) rv N R M' mc ms) (hd : decode cc pc = .ok (.ireturn, 1)) (hn : narrow .boolean (.int v) = .int v) (hv : some (.int v) = rv) (hM : M = M') : ez_Z X N R M mc ms pc lv [.int v] := by
  obtain ⟨p, l, e, Rm, s, m, args, below, meth, c, nL, D, B, Q⟩ := X
  subst hv
  subst hM
  obtain ⟨hr, hQ⟩ := hQ
  subst hQ
  have hlocks := hX.2.2.2.2.2.2.2
  intro H locs ls h1 h2 h3
  exact W.zret hX.1 hX.2.1 hr hn (fun t ht hW => ⟨rfl, by rw [ht]; exact h1, h2.F ht⟩) h2.2.2 hd hlocks

theorem ez_lret {X : em_X} {cc : ByteArray} {own : String} {N : Nat} {R : em_Rt} {M M' : em_M} {mc ms pc : Nat} {lv : List (Nat × Value)} (hX : ez_ok X cc own) {v : Int64} {rv : Option Value} (hQ : ez_ret X (some .long) rv N R M' mc ms) (hd : decode cc pc = .ok (.lreturn, 1)) (hv : some (.long v) = rv) (hM : M = M') : ez_Z X N R M mc ms pc lv [.long v] := by
  obtain ⟨p, l, e, Rm, s, m, args, below, meth, c, nL, D, B, Q⟩ := X
  subst hv
  subst hM
  obtain ⟨hr, hQ⟩ := hQ
  subst hQ
  have hlocks := hX.2.2.2.2.2.2.2
  intro H locs ls h1 h2 h3
  exact W.lret hX.1 hX.2.1 hr (fun t ht hW => ⟨rfl, by rw [ht]; exact h1, h2.F ht⟩) h2.2.2 hd hlocks

theorem ez_vret {X : em_X} {cc : ByteArray} {own : String} {N : Nat} {R : em_Rt} {M M' : em_M} {mc ms pc : Nat} {lv : List (Nat × Value)} (hX : ez_ok X cc own)  {rv : Option Value} (hQ : ez_ret X none rv N R M' mc ms) (hd : decode cc pc = .ok (.return_, 1)) (hv : none = rv) (hM : M = M') : ez_Z X N R M mc ms pc lv [] := by
  obtain ⟨p, l, e, Rm, s, m, args, below, meth, c, nL, D, B, Q⟩ := X
  subst hv
  subst hM
  obtain ⟨hr, hQ⟩ := hQ
  subst hQ
  have hlocks := hX.2.2.2.2.2.2.2
  intro H locs ls h1 h2 h3
  exact W.vret hX.1 hX.2.1 hr (fun t ht hW => ⟨rfl, by rw [ht]; exact h1, h2.F ht⟩) h2.2.2 hd hlocks

theorem ez_aret {X : em_X} {cc : ByteArray} {own : String} {N : Nat} {R : em_Rt} {M M' : em_M} {mc ms pc : Nat} {lv : List (Nat × Value)} (hX : ez_ok X cc own) {ty : FieldType} {v : Value} {rv : Option Value} (hQ : ez_ret X (some ty) rv N R M' mc ms) (hd : decode cc pc = .ok (.areturn, 1)) (hvr : (∃ n, ty = FieldType.object n) ∨ ∃ t, ty = FieldType.array t) (hn : v = .null ∨ ∃ a, v = .ref a) (hv : some (v) = rv) (hM : M = M') : ez_Z X N R M mc ms pc lv [v] := by
  obtain ⟨p, l, e, Rm, s, m, args, below, meth, c, nL, D, B, Q⟩ := X
  subst hv
  subst hM
  obtain ⟨hr, hQ⟩ := hQ
  subst hQ
  have hlocks := hX.2.2.2.2.2.2.2
  intro H locs ls h1 h2 h3
  exact W.aret hX.1 hX.2.1 hr hvr hn (fun t ht hW => ⟨rfl, by rw [ht]; exact h1, h2.F ht⟩) h2.2.2 hd hlocks

theorem ez_after {X : em_X} {N N' : Nat} {R R' : em_Rt} {M M' : em_M} {mc ms mc' ms' pc : Nat} {lv : List (Nat × Value)} {st st0 : List Value} {rv : Option Value} (hB : ez_B X ≤ (ez_s X).heap.size) (kk : ez_Z X N' R' M' (mc + mc') (ms + ms') (pc + 3) lv (rv.toList ++ st)) (hr : match X with
    | (p, l, e, Rm, s, m, args, below, meth, c, nL, D, B, _) => ∀ (H : Heap) (locs : List Loc) (ls : Array Slot), va_P (D.1, D.2.1) vwCl (em_ws D B N R M) H → va_S (fun q => B ≤ q) s.heap H locs → lv_has ls nL lv → H.size ≤ s.heap.size + mc → ∃ a, va_Run p l e Rm s m args below meth c H locs mc ms mc' ms' (F0 m pc ls st0) st (em_qc D B rv N' R' M' a) (fun q => B ≤ q)) : ez_Z X N R M mc ms pc lv st0 := by
  obtain ⟨p, l, e, Rm, s, m, args, below, meth, c, nL, D, B, Q⟩ := X
  intro H locs ls h1 h2 h3
  refine ez_sized (fun h4 => ?_)
  obtain ⟨a, hr⟩ := hr H locs ls h1 h2 h3 h4
  intro T hT XX
  obtain ⟨v, st₀, t, T', L, h0, X', hL, e1, e2, ⟨hv, hP, hF⟩, stp⟩ := hr T hT XX
  cases hv
  obtain ⟨hz, hk⟩ := hF
  rw [h0] at hz hk
  rw [← e1] at hP hz hk
  obtain ⟨t2, a1, b1⟩ := kk T'.heap (locs ++ L) ls hP ⟨Nat.le_trans h2.1 hz, fun q g1 g2 => (hk q (Nat.lt_of_lt_of_le g1 h2.1) g2).trans (h2.2.1 q g1 g2), fun q hq => by
      rcases List.mem_append.mp hq with h | h
      · exact h2.2.2 q h
      · exact hL q h⟩ h3 T' rfl X'
  exact ⟨t2, stp t2 a1, b1⟩

set_option maxHeartbeats 1000000 in
theorem ez_callV {X : em_X} {cc : ByteArray} {own : String} {N : Nat} {R : em_Rt} {M : em_M} {mc ms pc : Nat} {lv : List (Nat × Value)} {st : List Value} (hX : ez_ok X cc own) {y : MethodName} {bytes : ByteArray} {maxL : Nat} {ret : Option FieldType} {fr lo mc' ms' N' : Nat} {f : Bool} {R' : em_Rt} {M' : em_M} {rv : Option Value} {As : List Value} {idx n' : Nat} {o ci n : Nat} {T : u_T} (hkd : em_kd o = (ci, n)) (hc20 : ci < 20) (ho : o < N) (hci : vwCl[ci]? = some (y.cls, T, n)) (hC : em_C (ez_l X) (ez_D X) (ez_B X) y bytes maxL ret fr lo mc' ms' f (.ref (ez_B X + o) :: As) N R M rv N' R' M') {N0 : Nat} (hf : f = false ∨ ((ez_s X).heap.size = ez_B X + N0 ∧ N0 + mc = N)) (hl : Cond.methodLink own idx y ∈ em_tb) (hi : Cond.instanceMethod y ∈ em_tb) (hs : Cond.selects y.cls y y ∈ em_tb) (hyd : y.cls ≠ "java/lang/invoke/MethodHandle" ∧ y.cls ≠ "java/lang/invoke/VarHandle" ∧ (parseMethodDescriptor y.desc).map (fun d => d.parameters.length) = some n') (hn : As.length = n') (hcode : Cond.code y bytes maxL ret ∈ em_tb) (hini : Cond.initialized y.cls ∈ em_tb) (hR : fr + 1 ≤ (ez_rm X).frames ∧ 8 + (maxL + 11) + lo ≤ (ez_rm X).locals ∧ mc + mc' ≤ (ez_rm X).cells ∧ ms + ms' ≤ (ez_rm X).slots) (hst : (st.map fun v => v.category).sum ≤ 8) (hd : decode cc pc = .ok (.invokevirtual idx, 3)) (kk : ez_Z X N' R' M' (mc + mc') (ms + ms') (pc + 3) lv (rv.toList ++ st)) : ez_Z X N R M mc ms pc lv (As.reverse ++ .ref (ez_B X + o) :: st) := by
  obtain ⟨p, l, e, Rm, s, m, args, below, meth, c, nL, D, B, Q⟩ := X
  refine ez_after hX.2.2.2.2.2.2.1 kk ?_
  intro H locs ls h1 h2 h3 h4
  refine ⟨(Value.ref (B + o) :: As).toArray, ?_⟩
  exact va_runV (As := As) (rest := st) ⟨hX.1, hX.2.1, hX.2.2.1, hX.2.2.2.1, hX.2.2.2.2.1⟩ hC ⟨callB_of n' hX.2.2.2.2.1 (fun w hw => (List.mem_cons.mp hw).elim (fun q => q ▸ em_good _ hcode) (fun q => em_good w q)) rfl rfl rfl (hX.2.2.2.2.1 _ hini) (hX.2.2.2.2.1 _ hl) hyd ⟨hR.1, hR.2.1⟩, hX.2.2.2.2.1 _ hi, hX.2.2.2.2.1 _ hs⟩ ⟨em_pc_blind, va_recv hX.2.2.2.2.2.1.1 h1 (ci := ci) (q0 := o) hci ((em_ws_get ho).trans (congrArg (fun e => some (B + o, e)) (em_ce_obj hkd hc20))), fun U hU hW => ⟨rfl, by rw [hU]; exact Nat.le_trans hX.2.2.2.2.2.2.1 h2.1, fun hff => by
      rcases hf with hf | hf
      · rw [hf] at hff; cases hff
      · rw [hU]; exact ez_size (X := (p, l, e, Rm, s, m, args, below, meth, c, nL, D, B, Q)) hf.1 hf.2 h1 h2 h4, by rw [hU]; exact h1, hX.2.2.2.2.2.1.warm hW⟩⟩ rfl hn h3.1 rfl (lv_room hst) hd ⟨hR.2.2.1, hR.2.2.2⟩

set_option maxHeartbeats 1000000 in
theorem ez_callVN {X : em_X} {cc : ByteArray} {own : String} {N : Nat} {R : em_Rt} {M : em_M} {mc ms pc : Nat} {lv : List (Nat × Value)} {st : List Value} (hX : ez_ok X cc own) {y : MethodName} {bytes : ByteArray} {maxL : Nat} {ret : Option FieldType} {fr lo mc' ms' N' : Nat} {f : Bool} {R' : em_Rt} {M' : em_M} {rv : Option Value} {As : List Value} {idx n' : Nat} {o ci n : Nat} {T : u_T} (hkd : em_kd o = (ci, n)) (hc20 : ci < 20) (ho : o < N) (hci : vwCl[ci]? = some (y.cls, T, n)) (hC : em_C (ez_l X) (ez_D X) (ez_B X) y bytes maxL ret fr lo mc' ms' f (.ref (ez_B X + o) :: As) N R M rv N' R' M') {N0 : Nat} (hf : f = false ∨ ((ez_s X).heap.size = ez_B X + N0 ∧ N0 + mc = N)) {host : String} (hl : (own, idx, y, host) ∈ em_nests) (hi : Cond.instanceMethod y ∈ em_tb) (hs : Cond.selects y.cls y y ∈ em_tb) (hyd : y.cls ≠ "java/lang/invoke/MethodHandle" ∧ y.cls ≠ "java/lang/invoke/VarHandle" ∧ (parseMethodDescriptor y.desc).map (fun d => d.parameters.length) = some n') (hn : As.length = n') (hcode : Cond.code y bytes maxL ret ∈ em_tb) (hini : Cond.initialized y.cls ∈ em_tb) (hR : fr + 1 ≤ (ez_rm X).frames ∧ 8 + (maxL + 11) + lo ≤ (ez_rm X).locals ∧ mc + mc' ≤ (ez_rm X).cells ∧ ms + ms' ≤ (ez_rm X).slots) (hst : (st.map fun v => v.category).sum ≤ 8) (hd : decode cc pc = .ok (.invokevirtual idx, 3)) (kk : ez_Z X N' R' M' (mc + mc') (ms + ms') (pc + 3) lv (rv.toList ++ st)) : ez_Z X N R M mc ms pc lv (As.reverse ++ .ref (ez_B X + o) :: st) := by
  obtain ⟨p, l, e, Rm, s, m, args, below, meth, c, nL, D, B, Q⟩ := X
  refine ez_after hX.2.2.2.2.2.2.1 kk ?_
  intro H locs ls h1 h2 h3 h4
  refine ⟨(Value.ref (B + o) :: As).toArray, ?_⟩
  exact va_runVN (As := As) (rest := st) ⟨hX.1, hX.2.1, hX.2.2.1, hX.2.2.2.1, hX.2.2.2.2.1⟩ hC ⟨va_cnB (host := host) n' hX.2.2.2.2.1 (fun w hw => (List.mem_cons.mp hw).elim (fun q => q ▸ em_good _ hcode) (fun q => em_good w q)) rfl rfl rfl (hX.2.2.2.2.2.1.2.2 _ hl) (hX.2.2.2.2.1 _ hini) hyd ⟨hR.1, hR.2.1⟩, hX.2.2.2.2.1 _ hi, hX.2.2.2.2.1 _ hs⟩ ⟨em_pc_blind, va_recv hX.2.2.2.2.2.1.1 h1 (ci := ci) (q0 := o) hci ((em_ws_get ho).trans (congrArg (fun e => some (B + o, e)) (em_ce_obj hkd hc20))), fun U hU hW => ⟨rfl, by rw [hU]; exact Nat.le_trans hX.2.2.2.2.2.2.1 h2.1, fun hff => by
      rcases hf with hf | hf
      · rw [hf] at hff; cases hff
      · rw [hU]; exact ez_size (X := (p, l, e, Rm, s, m, args, below, meth, c, nL, D, B, Q)) hf.1 hf.2 h1 h2 h4, by rw [hU]; exact h1, hX.2.2.2.2.2.1.warm hW⟩⟩ rfl hn h3.1 rfl (lv_room hst) hd ⟨hR.2.2.1, hR.2.2.2⟩

set_option maxHeartbeats 1000000 in
theorem ez_callS {X : em_X} {cc : ByteArray} {own : String} {N : Nat} {R : em_Rt} {M : em_M} {mc ms pc : Nat} {lv : List (Nat × Value)} {st : List Value} (hX : ez_ok X cc own) {y : MethodName} {bytes : ByteArray} {maxL : Nat} {ret : Option FieldType} {fr lo mc' ms' N' : Nat} {f : Bool} {R' : em_Rt} {M' : em_M} {rv : Option Value} {As : List Value} {idx n' : Nat}  (hC : em_C (ez_l X) (ez_D X) (ez_B X) y bytes maxL ret fr lo mc' ms' f As N R M rv N' R' M') {N0 : Nat} (hf : f = false ∨ ((ez_s X).heap.size = ez_B X + N0 ∧ N0 + mc = N)) (hl : Cond.methodLink own idx y ∈ em_tb) (hi : Cond.static y ∈ em_tb) (hyd : y.cls ≠ "java/lang/invoke/MethodHandle" ∧ y.cls ≠ "java/lang/invoke/VarHandle" ∧ (parseMethodDescriptor y.desc).map (fun d => d.parameters.length) = some n') (hn : As.length = n') (hcode : Cond.code y bytes maxL ret ∈ em_tb) (hini : Cond.initialized y.cls ∈ em_tb) (hR : fr + 1 ≤ (ez_rm X).frames ∧ 8 + (maxL + 11) + lo ≤ (ez_rm X).locals ∧ mc + mc' ≤ (ez_rm X).cells ∧ ms + ms' ≤ (ez_rm X).slots) (hst : (st.map fun v => v.category).sum ≤ 8) (hd : decode cc pc = .ok (.invokestatic idx, 3)) (kk : ez_Z X N' R' M' (mc + mc') (ms + ms') (pc + 3) lv (rv.toList ++ st)) : ez_Z X N R M mc ms pc lv (As.reverse ++ st) := by
  obtain ⟨p, l, e, Rm, s, m, args, below, meth, c, nL, D, B, Q⟩ := X
  refine ez_after hX.2.2.2.2.2.2.1 kk ?_
  intro H locs ls h1 h2 h3 h4
  refine ⟨As.toArray, ?_⟩
  exact va_runS (As := As) (rest := st) ⟨hX.1, hX.2.1, hX.2.2.1, hX.2.2.2.1, hX.2.2.2.2.1⟩ hC ⟨callB_of n' hX.2.2.2.2.1 (fun w hw => (List.mem_cons.mp hw).elim (fun q => q ▸ em_good _ hcode) (fun q => em_good w q)) rfl rfl rfl (hX.2.2.2.2.1 _ hini) (hX.2.2.2.2.1 _ hl) hyd ⟨hR.1, hR.2.1⟩, hX.2.2.2.2.1 _ hi⟩ ⟨em_pc_blind, fun U hU hW => ⟨rfl, by rw [hU]; exact Nat.le_trans hX.2.2.2.2.2.2.1 h2.1, fun hff => by
      rcases hf with hf | hf
      · rw [hf] at hff; cases hff
      · rw [hU]; exact ez_size (X := (p, l, e, Rm, s, m, args, below, meth, c, nL, D, B, Q)) hf.1 hf.2 h1 h2 h4, by rw [hU]; exact h1, hX.2.2.2.2.2.1.warm hW⟩⟩ rfl hn h3.1 rfl (lv_room hst) hd ⟨hR.2.2.1, hR.2.2.2⟩

set_option maxHeartbeats 1000000 in
theorem ez_callSN {X : em_X} {cc : ByteArray} {own : String} {N : Nat} {R : em_Rt} {M : em_M} {mc ms pc : Nat} {lv : List (Nat × Value)} {st : List Value} (hX : ez_ok X cc own) {y : MethodName} {bytes : ByteArray} {maxL : Nat} {ret : Option FieldType} {fr lo mc' ms' N' : Nat} {f : Bool} {R' : em_Rt} {M' : em_M} {rv : Option Value} {As : List Value} {idx n' : Nat}  (hC : em_C (ez_l X) (ez_D X) (ez_B X) y bytes maxL ret fr lo mc' ms' f As N R M rv N' R' M') {N0 : Nat} (hf : f = false ∨ ((ez_s X).heap.size = ez_B X + N0 ∧ N0 + mc = N)) {host : String} (hl : (own, idx, y, host) ∈ em_nests) (hi : Cond.static y ∈ em_tb) (hyd : y.cls ≠ "java/lang/invoke/MethodHandle" ∧ y.cls ≠ "java/lang/invoke/VarHandle" ∧ (parseMethodDescriptor y.desc).map (fun d => d.parameters.length) = some n') (hn : As.length = n') (hcode : Cond.code y bytes maxL ret ∈ em_tb) (hini : Cond.initialized y.cls ∈ em_tb) (hR : fr + 1 ≤ (ez_rm X).frames ∧ 8 + (maxL + 11) + lo ≤ (ez_rm X).locals ∧ mc + mc' ≤ (ez_rm X).cells ∧ ms + ms' ≤ (ez_rm X).slots) (hst : (st.map fun v => v.category).sum ≤ 8) (hd : decode cc pc = .ok (.invokestatic idx, 3)) (kk : ez_Z X N' R' M' (mc + mc') (ms + ms') (pc + 3) lv (rv.toList ++ st)) : ez_Z X N R M mc ms pc lv (As.reverse ++ st) := by
  obtain ⟨p, l, e, Rm, s, m, args, below, meth, c, nL, D, B, Q⟩ := X
  refine ez_after hX.2.2.2.2.2.2.1 kk ?_
  intro H locs ls h1 h2 h3 h4
  refine ⟨As.toArray, ?_⟩
  exact va_runSN (As := As) (rest := st) ⟨hX.1, hX.2.1, hX.2.2.1, hX.2.2.2.1, hX.2.2.2.2.1⟩ hC ⟨va_cnB (host := host) n' hX.2.2.2.2.1 (fun w hw => (List.mem_cons.mp hw).elim (fun q => q ▸ em_good _ hcode) (fun q => em_good w q)) rfl rfl rfl (hX.2.2.2.2.2.1.2.2 _ hl) (hX.2.2.2.2.1 _ hini) hyd ⟨hR.1, hR.2.1⟩, hX.2.2.2.2.1 _ hi, trivial⟩ ⟨em_pc_blind, fun U hU hW => ⟨rfl, by rw [hU]; exact Nat.le_trans hX.2.2.2.2.2.2.1 h2.1, fun hff => by
      rcases hf with hf | hf
      · rw [hf] at hff; cases hff
      · rw [hU]; exact ez_size (X := (p, l, e, Rm, s, m, args, below, meth, c, nL, D, B, Q)) hf.1 hf.2 h1 h2 h4, by rw [hU]; exact h1, hX.2.2.2.2.2.1.warm hW⟩⟩ rfl hn h3.1 rfl (lv_room hst) hd ⟨hR.2.2.1, hR.2.2.2⟩

set_option maxHeartbeats 1000000 in
theorem ez_callI {X : em_X} {cc : ByteArray} {own : String} {N : Nat} {R : em_Rt} {M : em_M} {mc ms pc : Nat} {lv : List (Nat × Value)} {st : List Value} (hX : ez_ok X cc own) {y : MethodName} {bytes : ByteArray} {maxL : Nat} {fr lo mc' ms' N' : Nat} {f : Bool} {R' : em_Rt} {M' : em_M} {rv : Option Value} {As : List Value} {idx n' : Nat} {o : Nat} (hC : em_C (ez_l X) (ez_D X) (ez_B X) y bytes maxL none fr lo mc' ms' f (.ref (ez_B X + o) :: As) N R M rv N' R' M') {N0 : Nat} (hf : f = false ∨ ((ez_s X).heap.size = ez_B X + N0 ∧ N0 + mc = N)) (hl : Cond.methodLink own idx y ∈ em_tb) (hi : Cond.instanceMethod y ∈ em_tb) (hname : y.name = "<init>") (hyd : y.cls ≠ "java/lang/invoke/MethodHandle" ∧ y.cls ≠ "java/lang/invoke/VarHandle" ∧ (parseMethodDescriptor y.desc).map (fun d => d.parameters.length) = some n') (hn : As.length = n') (hcode : Cond.code y bytes maxL none ∈ em_tb) (hini : Cond.initialized y.cls ∈ em_tb) (hR : fr + 1 ≤ (ez_rm X).frames ∧ 8 + (maxL + 11) + lo ≤ (ez_rm X).locals ∧ mc + mc' ≤ (ez_rm X).cells ∧ ms + ms' ≤ (ez_rm X).slots) (hst : (st.map fun v => v.category).sum ≤ 8) (hd : decode cc pc = .ok (.invokespecial idx, 3)) (kk : ez_Z X N' R' M' (mc + mc') (ms + ms') (pc + 3) lv (rv.toList ++ st)) : ez_Z X N R M mc ms pc lv (As.reverse ++ .ref (ez_B X + o) :: st) := by
  obtain ⟨p, l, e, Rm, s, m, args, below, meth, c, nL, D, B, Q⟩ := X
  refine ez_after hX.2.2.2.2.2.2.1 kk ?_
  intro H locs ls h1 h2 h3 h4
  refine ⟨(Value.ref (B + o) :: As).toArray, ?_⟩
  exact va_runI (As := As) (rest := st) ⟨hX.1, hX.2.1, hX.2.2.1, hX.2.2.2.1, hX.2.2.2.2.1⟩ hC ⟨callB_of n' hX.2.2.2.2.1 (fun w hw => (List.mem_cons.mp hw).elim (fun q => q ▸ em_good _ hcode) (fun q => em_good w q)) rfl rfl rfl (hX.2.2.2.2.1 _ hini) (hX.2.2.2.2.1 _ hl) hyd ⟨hR.1, hR.2.1⟩, hname, hX.2.2.2.2.1 _ hi⟩ ⟨em_pc_blind, fun U hU hW => ⟨rfl, by rw [hU]; exact Nat.le_trans hX.2.2.2.2.2.2.1 h2.1, fun hff => by
      rcases hf with hf | hf
      · rw [hf] at hff; cases hff
      · rw [hU]; exact ez_size (X := (p, l, e, Rm, s, m, args, below, meth, c, nL, D, B, Q)) hf.1 hf.2 h1 h2 h4, by rw [hU]; exact h1, hX.2.2.2.2.2.1.warm hW⟩⟩ rfl hn h3.1 rfl (lv_room hst) hd ⟨hR.2.2.1, hR.2.2.2⟩

set_option maxHeartbeats 1000000 in
theorem ez_callIN {X : em_X} {cc : ByteArray} {own : String} {N : Nat} {R : em_Rt} {M : em_M} {mc ms pc : Nat} {lv : List (Nat × Value)} {st : List Value} (hX : ez_ok X cc own) {y : MethodName} {bytes : ByteArray} {maxL : Nat} {fr lo mc' ms' N' : Nat} {f : Bool} {R' : em_Rt} {M' : em_M} {rv : Option Value} {As : List Value} {idx n' : Nat} {o : Nat} (hC : em_C (ez_l X) (ez_D X) (ez_B X) y bytes maxL none fr lo mc' ms' f (.ref (ez_B X + o) :: As) N R M rv N' R' M') {N0 : Nat} (hf : f = false ∨ ((ez_s X).heap.size = ez_B X + N0 ∧ N0 + mc = N)) {host : String} (hl : (own, idx, y, host) ∈ em_nests) (hi : Cond.instanceMethod y ∈ em_tb) (hname : y.name = "<init>") (hyd : y.cls ≠ "java/lang/invoke/MethodHandle" ∧ y.cls ≠ "java/lang/invoke/VarHandle" ∧ (parseMethodDescriptor y.desc).map (fun d => d.parameters.length) = some n') (hn : As.length = n') (hcode : Cond.code y bytes maxL none ∈ em_tb) (hini : Cond.initialized y.cls ∈ em_tb) (hR : fr + 1 ≤ (ez_rm X).frames ∧ 8 + (maxL + 11) + lo ≤ (ez_rm X).locals ∧ mc + mc' ≤ (ez_rm X).cells ∧ ms + ms' ≤ (ez_rm X).slots) (hst : (st.map fun v => v.category).sum ≤ 8) (hd : decode cc pc = .ok (.invokespecial idx, 3)) (kk : ez_Z X N' R' M' (mc + mc') (ms + ms') (pc + 3) lv (rv.toList ++ st)) : ez_Z X N R M mc ms pc lv (As.reverse ++ .ref (ez_B X + o) :: st) := by
  obtain ⟨p, l, e, Rm, s, m, args, below, meth, c, nL, D, B, Q⟩ := X
  refine ez_after hX.2.2.2.2.2.2.1 kk ?_
  intro H locs ls h1 h2 h3 h4
  refine ⟨(Value.ref (B + o) :: As).toArray, ?_⟩
  exact va_runIN (As := As) (rest := st) ⟨hX.1, hX.2.1, hX.2.2.1, hX.2.2.2.1, hX.2.2.2.2.1⟩ hC ⟨va_cnB (host := host) n' hX.2.2.2.2.1 (fun w hw => (List.mem_cons.mp hw).elim (fun q => q ▸ em_good _ hcode) (fun q => em_good w q)) rfl rfl rfl (hX.2.2.2.2.2.1.2.2 _ hl) (hX.2.2.2.2.1 _ hini) hyd ⟨hR.1, hR.2.1⟩, hname, hX.2.2.2.2.1 _ hi⟩ ⟨em_pc_blind, fun U hU hW => ⟨rfl, by rw [hU]; exact Nat.le_trans hX.2.2.2.2.2.2.1 h2.1, fun hff => by
      rcases hf with hf | hf
      · rw [hf] at hff; cases hff
      · rw [hU]; exact ez_size (X := (p, l, e, Rm, s, m, args, below, meth, c, nL, D, B, Q)) hf.1 hf.2 h1 h2 h4, by rw [hU]; exact h1, hX.2.2.2.2.2.1.warm hW⟩⟩ rfl hn h3.1 rfl (lv_room hst) hd ⟨hR.2.2.1, hR.2.2.2⟩
