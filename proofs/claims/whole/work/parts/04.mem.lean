/-! the memory: objects by number, in the order of their making; object o lies at B + o -/
abbrev em_M : Type := (Nat → Nat → Int32) × (Nat → Nat → Int64)
abbrev em_Rt : Type := Nat → Nat → Option Nat
def em_pI (M : em_M) (o k : Nat) (v : Int32) : em_M := (fun o' => if o' = o then upd (M.1 o) k v else M.1 o', M.2)
def em_pL (M : em_M) (o k : Nat) (v : Int64) : em_M := (M.1, fun o' => if o' = o then vp_updL (M.2 o) k v else M.2 o')
def em_cI (M : em_M) (o o2 sp dp n : Nat) : em_M := (fun o' => if o' = o2 then va_cpy (M.1 o) (M.1 o2) sp dp n else M.1 o', M.2)
def em_cL (M : em_M) (o o2 sp dp n : Nat) : em_M := (M.1, fun o' => if o' = o2 then va_cpy (M.2 o) (M.2 o2) sp dp n else M.2 o')
def em_pR (R : em_Rt) (o k : Nat) (v : Option Nat) : em_Rt := fun o' => if o' = o then va_up (R o) k v else R o'
def em_kds : List (Nat × Nat) := [(11, 9), (2, 9), (20, 800), (20, 800), (20, 2400), (20, 800), (20, 800), (20, 8), (20, 32), (5, 4), (20, 100), (1, 5), (6, 4), (20, 10), (20, 10), (6, 4), (20, 10), (20, 10), (6, 4), (20, 10), (20, 10), (10, 2), (20, 4), (20, 3), (3, 15), (4, 6), (20, 40), (7, 2), (21, 1204), (0, 9), (20, 301), (20, 301), (20, 301), (20, 301), (20, 301), (20, 301), (20, 301), (21, 301), (9, 5), (20, 301), (20, 301), (20, 301), (20, 301), (20, 301), (20, 301), (1, 5), (6, 4), (20, 10), (20, 10), (6, 4), (20, 10), (20, 10), (6, 4), (20, 10), (20, 10), (10, 2), (20, 4), (20, 3), (3, 15), (4, 6), (20, 40), (7, 2), (21, 1204), (0, 9), (20, 301), (20, 301), (20, 301), (20, 301), (20, 301), (20, 301), (20, 301), (21, 301), (9, 5), (20, 301), (20, 301), (20, 301), (20, 301), (20, 301), (20, 301), (10, 2), (20, 4), (20, 3), (3, 15), (4, 6), (20, 40), (7, 2), (21, 1204), (0, 9), (20, 301), (20, 301), (20, 301), (20, 301), (20, 301), (20, 301), (20, 301), (21, 301), (9, 5), (20, 301), (20, 301), (20, 301), (20, 301), (20, 301), (20, 301), (4, 6), (20, 40), (22, 6), (8, 3), (21, 60), (8, 3), (21, 60), (8, 3), (21, 60), (8, 3), (21, 60), (8, 3), (21, 60), (8, 3), (21, 60), (12, 19), (20, 5880), (20, 5880), (20, 5880), (20, 808), (20, 808), (20, 808), (20, 4040), (20, 8), (20, 100), (20, 5880), (20, 6), (20, 6), (21, 360)]
def em_kd (o : Nat) : Nat × Nat := em_kds.getD o (99, 0)
def em_refs : List (List Nat) := [[1, 9, 11, 45, 0, 79, 82, 103, 105], [0, 0, 2, 3, 4, 5, 6, 7, 8], [], [], [], [], [], [], [], [0, 0, 10, 1], [], [21, 24, 12, 15, 18], [0, 13, 14, 0], [], [], [0, 16, 17, 0], [], [], [0, 19, 20, 0], [], [], [22, 23], [], [], [25, 1, 21, 27, 29, 38, 43, 44, 0, 0, 0, 0, 0, 0, 0], [0, 0, 0, 0, 26, 0], [], [0, 28], [], [0, 30, 31, 32, 33, 34, 35, 36, 37], [], [], [], [], [], [], [], [], [0, 39, 40, 41, 42], [], [], [], [], [], [], [55, 58, 46, 49, 52], [0, 47, 48, 0], [], [], [0, 50, 51, 0], [], [], [0, 53, 54, 0], [], [], [56, 57], [], [], [59, 1, 55, 61, 63, 72, 77, 78, 0, 0, 0, 0, 0, 0, 0], [0, 0, 0, 0, 60, 0], [], [0, 62], [], [0, 64, 65, 66, 67, 68, 69, 70, 71], [], [], [], [], [], [], [], [], [0, 73, 74, 75, 76], [], [], [], [], [], [], [80, 81], [], [], [83, 1, 79, 85, 87, 96, 101, 102, 0, 0, 0, 0, 0, 0, 0], [0, 0, 0, 0, 84, 0], [], [0, 86], [], [0, 88, 89, 90, 91, 92, 93, 94, 95], [], [], [], [], [], [], [], [], [0, 97, 98, 99, 100], [], [], [], [], [], [], [0, 0, 0, 0, 104, 0], [], [106, 108, 110, 112, 114, 116], [0, 0, 107], [], [0, 0, 109], [], [0, 0, 111], [], [0, 0, 113], [], [0, 0, 115], [], [0, 0, 117], [], [119, 120, 121, 0, 122, 123, 124, 125, 126, 0, 127, 0, 0, 0, 0, 128, 129, 130, 131], [], [], [], [], [], [], [], [], [], [], [], [], []]
def em_R : em_Rt := fun o k => match (em_refs.getD o []).getD k 0 with
  | 0 => none
  | n + 1 => some (n + 1)
def em_ty : Nat → Nat → FieldType := fun c => match c with
  | 0 => tyX0
  | 1 => tyX1
  | 2 => tyX2
  | 3 => tyX3
  | 4 => tyX4
  | 5 => tyX5
  | 6 => tyX6
  | 7 => tyX7
  | 8 => tyX8
  | 9 => tyX9
  | 10 => tyX10
  | 11 => tyX11
  | _ => tyX12
def em_tc : FieldType → Nat := fun t => match t with
  | .long => 1
  | .object _ => 2
  | .array _ => 2
  | _ => 0
def em_rf (B : Nat) (r : Option Nat) : Option Nat := r.map (fun a => B + a)
def em_v (B : Nat) (R : em_Rt) (M : em_M) (c o k : Nat) : Value := if em_tc (em_ty c k) = 0 then .int (M.1 o k) else if em_tc (em_ty c k) = 1 then .long (M.2 o k) else va_rf (em_rf B (R o k))
abbrev em_G : Type := (Nat → ClassId) × (Nat → Nat → Nat) × ClassId × ClassId × ClassId
def em_ce (D : em_G) (B : Nat) (R : em_Rt) (M : em_M) (o : Nat) : va_E :=
  if (em_kd o).1 = 20 then .inl (D.2.2.1, (em_kd o).2, .inl (M.1 o))
  else if (em_kd o).1 = 21 then .inl (D.2.2.2.1, (em_kd o).2, .inr (.inl (M.2 o)))
  else if (em_kd o).1 = 22 then .inl (D.2.2.2.2, (em_kd o).2, .inr (.inr (.inr (.inr (fun k => em_rf B (R o k))))))
  else .inr ((em_kd o).1, (List.range (em_kd o).2).map (em_v B R M (em_kd o).1 o))
def em_ws (D : em_G) (B N : Nat) (R : em_Rt) (M : em_M) : va_W := (List.range N).map (fun o => (B + o, em_ce D B R M o))
theorem em_ws_get {D : em_G} {B N : Nat} {R : em_Rt} {M : em_M} {o : Nat} (h : o < N) : (em_ws D B N R M)[o]? = some (B + o, em_ce D B R M o) := by
  simp [em_ws, h]
theorem em_ws_len {D : em_G} {B N : Nat} {R : em_Rt} {M : em_M} : (em_ws D B N R M).length = N := by simp [em_ws]
theorem em_ws_inv {D : em_G} {B N : Nat} {R : em_Rt} {M : em_M} {k : Nat} {q : Nat × va_E} (h : (em_ws D B N R M)[k]? = some q) : k < N ∧ q = (B + k, em_ce D B R M k) := by
  have hl : k < N := by
    have := (List.getElem?_eq_some_iff.mp h).1
    rw [em_ws_len] at this
    exact this
  rw [em_ws_get hl] at h
  exact ⟨hl, (Option.some.inj h).symm⟩
theorem em_wsD {D : em_G} {B N : Nat} {R : em_Rt} {M : em_M} : va_D (fun q => B ≤ q) (em_ws D B N R M) := by
  refine ⟨fun i j p q hi hj hpq => ?_, fun k q hk => ?_⟩
  · obtain ⟨-, rfl⟩ := em_ws_inv hi
    obtain ⟨-, rfl⟩ := em_ws_inv hj
    exact Nat.add_left_cancel hpq
  · obtain ⟨-, rfl⟩ := em_ws_inv hk
    exact Nat.le_add_right _ _
theorem em_ws_set {D : em_G} {B N : Nat} {R R' : em_Rt} {M M' : em_M} {o : Nat} {e : va_E} (he : e = em_ce D B R' M' o) (hc : ∀ o', o' ≠ o → em_ce D B R' M' o' = em_ce D B R M o') : (em_ws D B N R M).set o (B + o, e) = em_ws D B N R' M' := by
  apply List.ext_getElem?
  intro k
  by_cases hk : k < N
  · rw [em_ws_get hk]
    by_cases hko : k = o
    · subst hko
      rw [List.getElem?_set_self (by rw [em_ws_len]; exact hk), he]
    · rw [List.getElem?_set_ne (Ne.symm hko), em_ws_get hk, hc k hko]
  · rw [List.getElem?_eq_none (by rw [List.length_set, em_ws_len]; omega), List.getElem?_eq_none (by rw [em_ws_len]; omega)]
theorem em_ws_push {D : em_G} {B N : Nat} {R R' : em_Rt} {M M' : em_M} {e : va_E} (he : e = em_ce D B R' M' N) (hc : ∀ o', o' < N → em_ce D B R' M' o' = em_ce D B R M o') : em_ws D B N R M ++ [(B + N, e)] = em_ws D B (N + 1) R' M' := by
  apply List.ext_getElem?
  intro k
  by_cases hk : k < N
  · rw [List.getElem?_append_left (by rw [em_ws_len]; exact hk), em_ws_get hk, em_ws_get (by omega), hc k hk]
  · rw [List.getElem?_append_right (by rw [em_ws_len]; omega), em_ws_len]
    by_cases hkN : k = N
    · subst hkN
      rw [Nat.sub_self, em_ws_get (by omega), he]
      rfl
    · rw [List.getElem?_eq_none (by simp; omega), List.getElem?_eq_none (by rw [em_ws_len]; omega)]
theorem em_pI_self (M : em_M) (o k : Nat) (v : Int32) : (em_pI M o k v).1 o = upd (M.1 o) k v := by simp [em_pI]
theorem em_pI_ne (M : em_M) {o o' : Nat} (k : Nat) (v : Int32) (h : o' ≠ o) : (em_pI M o k v).1 o' = M.1 o' := by simp [em_pI, h]
theorem em_pL_self (M : em_M) (o k : Nat) (v : Int64) : (em_pL M o k v).2 o = vp_updL (M.2 o) k v := by simp [em_pL]
theorem em_pL_ne (M : em_M) {o o' : Nat} (k : Nat) (v : Int64) (h : o' ≠ o) : (em_pL M o k v).2 o' = M.2 o' := by simp [em_pL, h]
theorem em_pR_self (R : em_Rt) (o k : Nat) (v : Option Nat) : em_pR R o k v o = va_up (R o) k v := by simp [em_pR]
theorem em_pR_ne (R : em_Rt) {o o' : Nat} (k : Nat) (v : Option Nat) (h : o' ≠ o) : em_pR R o k v o' = R o' := by simp [em_pR, h]
/-- another object's cell stays, when its own numbers and references stay -/
theorem em_ce_same {D : em_G} {B : Nat} {R R' : em_Rt} {M M' : em_M} {o : Nat} (h1 : M'.1 o = M.1 o) (h2 : M'.2 o = M.2 o) (h3 : R' o = R o) : em_ce D B R' M' o = em_ce D B R M o := by
  unfold em_ce
  rw [h1, h2]
  have : (fun k => em_rf B (R' o k)) = fun k => em_rf B (R o k) := by rw [h3]
  rw [this]
  have h4 : ∀ c, em_v B R' M' c o = em_v B R M c o := by
    intro c
    funext k
    unfold em_v
    rw [h1, h2, h3]
  rw [h4]
theorem em_fs_get {n : Nat} {f : Nat → Value} {k : Nat} (h : k < n) : ((List.range n).map f)[k]? = some (f k) := by simp [h]
theorem em_fs_set {n : Nat} {f g : Nat → Value} {k : Nat} {v : Value} (hk : g k = v) (hg : ∀ j, j ≠ k → g j = f j) : ((List.range n).map f).set k v = (List.range n).map g := by
  apply List.ext_getElem?
  intro j
  by_cases hj : j < n
  · rw [em_fs_get hj]
    by_cases hjk : j = k
    · subst hjk
      rw [List.getElem?_set_self (by simp; exact hj), hk]
    · rw [List.getElem?_set_ne (Ne.symm hjk), em_fs_get hj, hg j hjk]
  · rw [List.getElem?_eq_none (by simp; omega), List.getElem?_eq_none (by simp; omega)]
theorem em_ce_obj {D : em_G} {B : Nat} {R : em_Rt} {M : em_M} {o c n : Nat} (h : em_kd o = (c, n)) (hc : c < 20) : em_ce D B R M o = .inr (c, (List.range n).map (em_v B R M c o)) := by
  unfold em_ce
  rw [h]
  simp only
  rw [if_neg (by omega), if_neg (by omega), if_neg (by omega)]
theorem em_ce_I {D : em_G} {B : Nat} {R : em_Rt} {M : em_M} {o n : Nat} (h : em_kd o = (20, n)) : em_ce D B R M o = .inl (D.2.2.1, n, .inl (M.1 o)) := by
  unfold em_ce
  rw [h]
  simp only
  rw [if_pos trivial]
theorem em_ce_J {D : em_G} {B : Nat} {R : em_Rt} {M : em_M} {o n : Nat} (h : em_kd o = (21, n)) : em_ce D B R M o = .inl (D.2.2.2.1, n, .inr (.inl (M.2 o))) := by
  unfold em_ce
  rw [h]
  simp only
  rw [if_neg (by decide), if_pos trivial]
theorem em_ce_T {D : em_G} {B : Nat} {R : em_Rt} {M : em_M} {o n : Nat} (h : em_kd o = (22, n)) : em_ce D B R M o = .inl (D.2.2.2.2, n, .inr (.inr (.inr (.inr (fun k => em_rf B (R o k)))))) := by
  unfold em_ce
  rw [h]
  simp only
  rw [if_neg (by decide), if_neg (by decide), if_pos trivial]
def em_tys (D : em_G) : List (ClassId × FieldType) := [(D.2.2.1, .int), (D.2.2.2.1, .long), (D.2.2.2.2, .object "EscapeFrames$Tape")]
/-- what the tables say of a state: classes, array classes, the nest mates' links -/
def em_K (D : em_G) (U : State) : Prop := va_K (D.1, D.2.1) vwCl (em_tys D) U ∧ va_AO "EscapeFrames$Tape" U ∧ ∀ q ∈ em_nests, va_Nw (.methodLinkNest q.1 q.2.1 q.2.2.1 q.2.2.2) U
theorem em_K.same {D : em_G} {u U : State} (h : em_K D u) (hv : u.vm = U.vm) : em_K D U :=
  ⟨va_K.moved (by rw [hv]; exact Vm.Alike.refl U.vm) h.1, va_AO.moved (by rw [hv]; exact Vm.Alike.refl U.vm) h.2.1, fun q hq => va_Nw.same rfl hv (h.2.2 q hq)⟩
theorem em_K.warm {D : em_G} {s U : State} (h : em_K D s) (hW : s.WarmedH U.vm) : em_K D U :=
  ⟨va_K.moved hW.alike h.1, va_AO.moved hW.alike h.2.1, fun q hq => va_Nw.warmM hW (h.2.2 q hq)⟩
/-! contracts -/
def em_pc (D : em_G) (B : Nat) (f : Bool) (av : List Value) (N : Nat) (R : em_Rt) (M : em_M) : Array Value → State → Prop := fun v U => v = av.toArray ∧ B ≤ U.heap.size ∧ (f = true → U.heap.size = B + N) ∧ va_P (D.1, D.2.1) vwCl (em_ws D B N R M) U.heap ∧ em_K D U
def em_qc (D : em_G) (B : Nat) (rv : Option Value) (N : Nat) (R : em_Rt) (M : em_M) : Array Value → State → Outcome → State → Prop := fun _ st oc t => oc = .returned rv ∧ va_P (D.1, D.2.1) vwCl (em_ws D B N R M) t.heap ∧ va_F (fun q => B ≤ q) st t
/-- called with av over the memory (N, R, M), the method y answers rv and leaves (N', R', M') -/
def em_C (l : Launch) (D : em_G) (B : Nat) (y : MethodName) (cc : ByteArray) (mL : Nat) (ret : Option FieldType) (fr lo mc ms : Nat) (f : Bool) (av : List Value) (N : Nat) (R : em_Rt) (M : em_M) (rv : Option Value) (N' : Nat) (R' : em_Rt) (M' : em_M) : Prop :=
  Met l y (.code y cc mL ret :: em_tb) { frames := fr, cells := mc, slots := ms, locals := lo } (em_pc D B f av N R M) (em_qc D B rv N' R' M') mc ms (fun q => B ≤ q)
/-! the walk over the memory -/
abbrev em_X : Type := Program × Launch × Env × Room × State × MethodId × Array Value × List Frame × Method × Code × Nat × em_G × Nat × (State → Prop)
def ez_l (X : em_X) : Launch := X.2.1
def ez_rm (X : em_X) : Room := X.2.2.2.1
def ez_s (X : em_X) : State := X.2.2.2.2.1
def ez_D (X : em_X) : em_G := X.2.2.2.2.2.2.2.2.2.2.2.1
def ez_B (X : em_X) : Nat := X.2.2.2.2.2.2.2.2.2.2.2.2.1
def ez_nL (X : em_X) : Nat := X.2.2.2.2.2.2.2.2.2.2.1
def ez_name (X : em_X) : String := X.2.2.2.2.2.2.2.2.1.name
def ez_ok (X : em_X) (cc : ByteArray) (own : String) : Prop := match X with
  | (p, _, _, _, s, m, args, _, meth, c, nL, D, B, _) => p.tables.exec = Jvm.exec ∧ c.code = cc ∧ c.maxLocals = nL ∧ s.vm.findClass own = some m.cls ∧ (∀ w ∈ em_tb, w.before args s = true) ∧ em_K D s ∧ B ≤ s.heap.size ∧ meth.locks = false
def ez_Z (X : em_X) (N : Nat) (R : em_Rt) (M : em_M) (mc ms pc : Nat) (lv : List (Nat × Value)) (st : List Value) : Prop := match X with
  | (p, l, e, Rm, s, m, args, below, meth, c, nL, D, B, Q) => ∀ (H : Heap) (locs : List Loc) (ls : Array Slot), va_P (D.1, D.2.1) vwCl (em_ws D B N R M) H → va_S (fun q => B ≤ q) s.heap H locs → lv_has ls nL lv → W p l e Rm s m args below meth c H locs mc ms Q (F0 m pc ls st)
/-- what a method's end owes -/
def ez_ret (X : em_X) (ret : Option FieldType) (rv : Option Value) (N : Nat) (R : em_Rt) (M : em_M) (mc ms : Nat) : Prop := match X with
  | (_, _, _, _, s, _, args, below, meth, _, _, D, B, Q) => meth.sig.returnType = ret ∧ Q = MQ below (em_qc D B rv N R M) args s mc ms (fun q => B ≤ q)
