theorem ez_iconst {X : em_X} {cc : ByteArray} {own : String} {N : Nat} {R : em_Rt} {M : em_M} {mc ms pc : Nat} {lv : List (Nat × Value)} {st : List Value} (hX : ez_ok X cc own) {n : Int} (v : Int32) (hd : decode cc pc = .ok (.iconst n, 1)) (hv : Int32.ofInt n = v) (kk : ez_Z X N R M mc ms (pc + 1) lv (.int v :: st)) : ez_Z X N R M mc ms pc lv st := by
  obtain ⟨p, l, e, Rm, s, m, args, below, meth, c, nL, D, B, Q⟩ := X
  intro H locs ls h1 h2 h3
  exact lv_iconst hX.1 hX.2.1 hd hv (kk H locs ls h1 h2 h3)

theorem ez_bipush {X : em_X} {cc : ByteArray} {own : String} {N : Nat} {R : em_Rt} {M : em_M} {mc ms pc : Nat} {lv : List (Nat × Value)} {st : List Value} (hX : ez_ok X cc own) {n : Int} (v : Int32) (hd : decode cc pc = .ok (.bipush n, 2)) (hv : (Int8.ofInt n).toInt32 = v) (kk : ez_Z X N R M mc ms (pc + 2) lv (.int v :: st)) : ez_Z X N R M mc ms pc lv st := by
  obtain ⟨p, l, e, Rm, s, m, args, below, meth, c, nL, D, B, Q⟩ := X
  intro H locs ls h1 h2 h3
  exact lv_bipush hX.1 hX.2.1 hd hv (kk H locs ls h1 h2 h3)

theorem ez_sipush {X : em_X} {cc : ByteArray} {own : String} {N : Nat} {R : em_Rt} {M : em_M} {mc ms pc : Nat} {lv : List (Nat × Value)} {st : List Value} (hX : ez_ok X cc own) {n : Int} (v : Int32) (hd : decode cc pc = .ok (.sipush n, 3)) (hv : (Int16.ofInt n).toInt32 = v) (kk : ez_Z X N R M mc ms (pc + 3) lv (.int v :: st)) : ez_Z X N R M mc ms pc lv st := by
  obtain ⟨p, l, e, Rm, s, m, args, below, meth, c, nL, D, B, Q⟩ := X
  intro H locs ls h1 h2 h3
  exact lv_sipush hX.1 hX.2.1 hd hv (kk H locs ls h1 h2 h3)

theorem ez_lconst {X : em_X} {cc : ByteArray} {own : String} {N : Nat} {R : em_Rt} {M : em_M} {mc ms pc : Nat} {lv : List (Nat × Value)} {st : List Value} (hX : ez_ok X cc own) {n : Fin 2} (v : Int64) (hd : decode cc pc = .ok (.lconst n, 1)) (hv : Int64.ofNat (n : Nat) = v) (kk : ez_Z X N R M mc ms (pc + 1) lv (.long v :: st)) : ez_Z X N R M mc ms pc lv st := by
  obtain ⟨p, l, e, Rm, s, m, args, below, meth, c, nL, D, B, Q⟩ := X
  intro H locs ls h1 h2 h3
  exact lv_lconst hX.1 hX.2.1 hd hv (kk H locs ls h1 h2 h3)

theorem ez_iload_n {X : em_X} {cc : ByteArray} {own : String} {N : Nat} {R : em_Rt} {M : em_M} {mc ms pc : Nat} {lv : List (Nat × Value)} {st : List Value} (hX : ez_ok X cc own) {k : Fin 4} {x : Int32} (j : Nat) (hd : decode cc pc = .ok (.iload_n k, 1)) (hk : lv[j]? = some ((k : Nat), .int x)) (kk : ez_Z X N R M mc ms (pc + 1) lv (.int x :: st)) : ez_Z X N R M mc ms pc lv st := by
  obtain ⟨p, l, e, Rm, s, m, args, below, meth, c, nL, D, B, Q⟩ := X
  intro H locs ls h1 h2 h3
  exact lv_iload_n hX.1 hX.2.1 hd rfl (lv_at h3 j hk) (kk H locs ls h1 h2 h3)

theorem ez_iload {X : em_X} {cc : ByteArray} {own : String} {N : Nat} {R : em_Rt} {M : em_M} {mc ms pc : Nat} {lv : List (Nat × Value)} {st : List Value} (hX : ez_ok X cc own) {i : Nat} {x : Int32} (j : Nat) (hd : decode cc pc = .ok (.iload i, 2)) (hk : lv[j]? = some (i, .int x)) (kk : ez_Z X N R M mc ms (pc + 2) lv (.int x :: st)) : ez_Z X N R M mc ms pc lv st := by
  obtain ⟨p, l, e, Rm, s, m, args, below, meth, c, nL, D, B, Q⟩ := X
  intro H locs ls h1 h2 h3
  exact lv_iload hX.1 hX.2.1 hd (lv_at h3 j hk) (kk H locs ls h1 h2 h3)

theorem ez_istore_n {X : em_X} {cc : ByteArray} {own : String} {N : Nat} {R : em_Rt} {M : em_M} {mc ms pc : Nat} {lv : List (Nat × Value)} {st : List Value} (hX : ez_ok X cc own) {k : Fin 4} {x : Int32} (lv' : List (Nat × Value)) (hd : decode cc pc = .ok (.istore_n k, 1)) (hn : (k : Nat) < ez_nL X) (hl : ((k : Nat), Value.int x) :: lv.filter (fun q => !(q.1 == (k : Nat)) && !(q.1 + 1 == (k : Nat) && q.2.category == 2)) = lv') (kk : ez_Z X N R M mc ms (pc + 1) lv' st) : ez_Z X N R M mc ms pc lv (.int x :: st) := by
  obtain ⟨p, l, e, Rm, s, m, args, below, meth, c, nL, D, B, Q⟩ := X
  intro H locs ls h1 h2 h3
  exact lv_istore_n hX.1 hX.2.1 hd rfl h3 hn hl (fun ls' h4 => kk H locs ls' h1 h2 h4)

theorem ez_istore {X : em_X} {cc : ByteArray} {own : String} {N : Nat} {R : em_Rt} {M : em_M} {mc ms pc : Nat} {lv : List (Nat × Value)} {st : List Value} (hX : ez_ok X cc own) {i : Nat} {x : Int32} (lv' : List (Nat × Value)) (hd : decode cc pc = .ok (.istore i, 2)) (hn : i < ez_nL X) (hl : (i, Value.int x) :: lv.filter (fun q => !(q.1 == i) && !(q.1 + 1 == i && q.2.category == 2)) = lv') (kk : ez_Z X N R M mc ms (pc + 2) lv' st) : ez_Z X N R M mc ms pc lv (.int x :: st) := by
  obtain ⟨p, l, e, Rm, s, m, args, below, meth, c, nL, D, B, Q⟩ := X
  intro H locs ls h1 h2 h3
  exact lv_istore hX.1 hX.2.1 hd h3 hn hl (fun ls' h4 => kk H locs ls' h1 h2 h4)

theorem ez_lload_n {X : em_X} {cc : ByteArray} {own : String} {N : Nat} {R : em_Rt} {M : em_M} {mc ms pc : Nat} {lv : List (Nat × Value)} {st : List Value} (hX : ez_ok X cc own) {k : Fin 4} {x : Int64} (j : Nat) (hd : decode cc pc = .ok (.lload_n k, 1)) (hk : lv[j]? = some ((k : Nat), .long x)) (kk : ez_Z X N R M mc ms (pc + 1) lv (.long x :: st)) : ez_Z X N R M mc ms pc lv st := by
  obtain ⟨p, l, e, Rm, s, m, args, below, meth, c, nL, D, B, Q⟩ := X
  intro H locs ls h1 h2 h3
  exact lv_lload_n hX.1 hX.2.1 hd rfl (lv_at h3 j hk) (kk H locs ls h1 h2 h3)

theorem ez_lload {X : em_X} {cc : ByteArray} {own : String} {N : Nat} {R : em_Rt} {M : em_M} {mc ms pc : Nat} {lv : List (Nat × Value)} {st : List Value} (hX : ez_ok X cc own) {i : Nat} {x : Int64} (j : Nat) (hd : decode cc pc = .ok (.lload i, 2)) (hk : lv[j]? = some (i, .long x)) (kk : ez_Z X N R M mc ms (pc + 2) lv (.long x :: st)) : ez_Z X N R M mc ms pc lv st := by
  obtain ⟨p, l, e, Rm, s, m, args, below, meth, c, nL, D, B, Q⟩ := X
  intro H locs ls h1 h2 h3
  exact lv_lload hX.1 hX.2.1 hd (lv_at h3 j hk) (kk H locs ls h1 h2 h3)

theorem ez_lstore_n {X : em_X} {cc : ByteArray} {own : String} {N : Nat} {R : em_Rt} {M : em_M} {mc ms pc : Nat} {lv : List (Nat × Value)} {st : List Value} (hX : ez_ok X cc own) {k : Fin 4} {x : Int64} (lv' : List (Nat × Value)) (hd : decode cc pc = .ok (.lstore_n k, 1)) (hn : (k : Nat) + 1 < ez_nL X) (hl : ((k : Nat), Value.long x) :: lv.filter (fun q => !(q.1 == (k : Nat)) && (!(q.1 == (k : Nat) + 1) && !(q.1 + 1 == (k : Nat) && q.2.category == 2))) = lv') (kk : ez_Z X N R M mc ms (pc + 1) lv' st) : ez_Z X N R M mc ms pc lv (.long x :: st) := by
  obtain ⟨p, l, e, Rm, s, m, args, below, meth, c, nL, D, B, Q⟩ := X
  intro H locs ls h1 h2 h3
  exact lv_lstore_n hX.1 hX.2.1 hd rfl h3 hn hl (fun ls' h4 => kk H locs ls' h1 h2 h4)

theorem ez_lstore {X : em_X} {cc : ByteArray} {own : String} {N : Nat} {R : em_Rt} {M : em_M} {mc ms pc : Nat} {lv : List (Nat × Value)} {st : List Value} (hX : ez_ok X cc own) {i : Nat} {x : Int64} (lv' : List (Nat × Value)) (hd : decode cc pc = .ok (.lstore i, 2)) (hn : i + 1 < ez_nL X) (hl : (i, Value.long x) :: lv.filter (fun q => !(q.1 == i) && (!(q.1 == i + 1) && !(q.1 + 1 == i && q.2.category == 2))) = lv') (kk : ez_Z X N R M mc ms (pc + 2) lv' st) : ez_Z X N R M mc ms pc lv (.long x :: st) := by
  obtain ⟨p, l, e, Rm, s, m, args, below, meth, c, nL, D, B, Q⟩ := X
  intro H locs ls h1 h2 h3
  exact lv_lstore hX.1 hX.2.1 hd h3 hn hl (fun ls' h4 => kk H locs ls' h1 h2 h4)

theorem ez_aload_n {X : em_X} {cc : ByteArray} {own : String} {N : Nat} {R : em_Rt} {M : em_M} {mc ms pc : Nat} {lv : List (Nat × Value)} {st : List Value} (hX : ez_ok X cc own) {k : Fin 4} {x : Nat} (j : Nat) (hd : decode cc pc = .ok (.aload_n k, 1)) (hk : lv[j]? = some ((k : Nat), .ref x)) (kk : ez_Z X N R M mc ms (pc + 1) lv (.ref x :: st)) : ez_Z X N R M mc ms pc lv st := by
  obtain ⟨p, l, e, Rm, s, m, args, below, meth, c, nL, D, B, Q⟩ := X
  intro H locs ls h1 h2 h3
  exact lv_aload_n hX.1 hX.2.1 hd rfl (lv_at h3 j hk) (kk H locs ls h1 h2 h3)

theorem ez_aload {X : em_X} {cc : ByteArray} {own : String} {N : Nat} {R : em_Rt} {M : em_M} {mc ms pc : Nat} {lv : List (Nat × Value)} {st : List Value} (hX : ez_ok X cc own) {i : Nat} {x : Nat} (j : Nat) (hd : decode cc pc = .ok (.aload i, 2)) (hk : lv[j]? = some (i, .ref x)) (kk : ez_Z X N R M mc ms (pc + 2) lv (.ref x :: st)) : ez_Z X N R M mc ms pc lv st := by
  obtain ⟨p, l, e, Rm, s, m, args, below, meth, c, nL, D, B, Q⟩ := X
  intro H locs ls h1 h2 h3
  exact lv_aload hX.1 hX.2.1 hd (lv_at h3 j hk) (kk H locs ls h1 h2 h3)

theorem ez_astore_n {X : em_X} {cc : ByteArray} {own : String} {N : Nat} {R : em_Rt} {M : em_M} {mc ms pc : Nat} {lv : List (Nat × Value)} {st : List Value} (hX : ez_ok X cc own) {k : Fin 4} {x : Nat} (lv' : List (Nat × Value)) (hd : decode cc pc = .ok (.astore_n k, 1)) (hn : (k : Nat) < ez_nL X) (hl : ((k : Nat), Value.ref x) :: lv.filter (fun q => !(q.1 == (k : Nat)) && !(q.1 + 1 == (k : Nat) && q.2.category == 2)) = lv') (kk : ez_Z X N R M mc ms (pc + 1) lv' st) : ez_Z X N R M mc ms pc lv (.ref x :: st) := by
  obtain ⟨p, l, e, Rm, s, m, args, below, meth, c, nL, D, B, Q⟩ := X
  intro H locs ls h1 h2 h3
  exact lv_astore_n hX.1 hX.2.1 hd rfl h3 hn hl (fun ls' h4 => kk H locs ls' h1 h2 h4)

theorem ez_astore {X : em_X} {cc : ByteArray} {own : String} {N : Nat} {R : em_Rt} {M : em_M} {mc ms pc : Nat} {lv : List (Nat × Value)} {st : List Value} (hX : ez_ok X cc own) {i : Nat} {x : Nat} (lv' : List (Nat × Value)) (hd : decode cc pc = .ok (.astore i, 2)) (hn : i < ez_nL X) (hl : (i, Value.ref x) :: lv.filter (fun q => !(q.1 == i) && !(q.1 + 1 == i && q.2.category == 2)) = lv') (kk : ez_Z X N R M mc ms (pc + 2) lv' st) : ez_Z X N R M mc ms pc lv (.ref x :: st) := by
  obtain ⟨p, l, e, Rm, s, m, args, below, meth, c, nL, D, B, Q⟩ := X
  intro H locs ls h1 h2 h3
  exact lv_astore hX.1 hX.2.1 hd h3 hn hl (fun ls' h4 => kk H locs ls' h1 h2 h4)

theorem ez_astore_N {X : em_X} {cc : ByteArray} {own : String} {N : Nat} {R : em_Rt} {M : em_M} {mc ms pc : Nat} {lv : List (Nat × Value)} {st : List Value} (hX : ez_ok X cc own) {i : Nat} (lv' : List (Nat × Value)) (hd : decode cc pc = .ok (.astore i, 2)) (hn : i < ez_nL X) (hl : (i, Value.null) :: lv.filter (fun q => !(q.1 == i) && !(q.1 + 1 == i && q.2.category == 2)) = lv') (kk : ez_Z X N R M mc ms (pc + 2) lv' st) : ez_Z X N R M mc ms pc lv (.null :: st) := by
  obtain ⟨p, l, e, Rm, s, m, args, below, meth, c, nL, D, B, Q⟩ := X
  intro H locs ls h1 h2 h3
  exact lv_astoreN hX.1 hX.2.1 hd h3 hn hl (fun ls' h4 => kk H locs ls' h1 h2 h4)

theorem ez_astore_nN {X : em_X} {cc : ByteArray} {own : String} {N : Nat} {R : em_Rt} {M : em_M} {mc ms pc : Nat} {lv : List (Nat × Value)} {st : List Value} (hX : ez_ok X cc own) {k : Fin 4} (lv' : List (Nat × Value)) (hd : decode cc pc = .ok (.astore_n k, 1)) (hn : (k : Nat) < ez_nL X) (hl : ((k : Nat), Value.null) :: lv.filter (fun q => !(q.1 == (k : Nat)) && !(q.1 + 1 == (k : Nat) && q.2.category == 2)) = lv') (kk : ez_Z X N R M mc ms (pc + 1) lv' st) : ez_Z X N R M mc ms pc lv (.null :: st) := by
  obtain ⟨p, l, e, Rm, s, m, args, below, meth, c, nL, D, B, Q⟩ := X
  intro H locs ls h1 h2 h3
  exact lv_astore_nN hX.1 hX.2.1 hd rfl h3 hn hl (fun ls' h4 => kk H locs ls' h1 h2 h4)

theorem ez_aload_nN {X : em_X} {cc : ByteArray} {own : String} {N : Nat} {R : em_Rt} {M : em_M} {mc ms pc : Nat} {lv : List (Nat × Value)} {st : List Value} (hX : ez_ok X cc own) {k : Fin 4} (j : Nat) (hd : decode cc pc = .ok (.aload_n k, 1)) (hk : lv[j]? = some ((k : Nat), .null)) (kk : ez_Z X N R M mc ms (pc + 1) lv (.null :: st)) : ez_Z X N R M mc ms pc lv st := by
  obtain ⟨p, l, e, Rm, s, m, args, below, meth, c, nL, D, B, Q⟩ := X
  intro H locs ls h1 h2 h3
  exact lv_aload_nN hX.1 hX.2.1 hd rfl (lv_at h3 j hk) (kk H locs ls h1 h2 h3)

theorem ez_aloadN {X : em_X} {cc : ByteArray} {own : String} {N : Nat} {R : em_Rt} {M : em_M} {mc ms pc : Nat} {lv : List (Nat × Value)} {st : List Value} (hX : ez_ok X cc own) {i : Nat} (j : Nat) (hd : decode cc pc = .ok (.aload i, 2)) (hk : lv[j]? = some (i, .null)) (kk : ez_Z X N R M mc ms (pc + 2) lv (.null :: st)) : ez_Z X N R M mc ms pc lv st := by
  obtain ⟨p, l, e, Rm, s, m, args, below, meth, c, nL, D, B, Q⟩ := X
  intro H locs ls h1 h2 h3
  exact lv_aloadN hX.1 hX.2.1 hd (lv_at h3 j hk) (kk H locs ls h1 h2 h3)

theorem ez_null {X : em_X} {cc : ByteArray} {own : String} {N : Nat} {R : em_Rt} {M : em_M} {mc ms pc : Nat} {lv : List (Nat × Value)} {st : List Value} (hX : ez_ok X cc own) (hd : decode cc pc = .ok (.aconst_null, 1)) (kk : ez_Z X N R M mc ms (pc + 1) lv (.null :: st)) : ez_Z X N R M mc ms pc lv st := by
  obtain ⟨p, l, e, Rm, s, m, args, below, meth, c, nL, D, B, Q⟩ := X
  intro H locs ls h1 h2 h3
  exact lv_null hX.1 hX.2.1 hd (kk H locs ls h1 h2 h3)

theorem ez_iinc {X : em_X} {cc : ByteArray} {own : String} {N : Nat} {R : em_Rt} {M : em_M} {mc ms pc : Nat} {lv : List (Nat × Value)} {st : List Value} (hX : ez_ok X cc own) {i : Nat} {n : Int} {x : Int32} (v : Int32) (j : Nat) (lv' : List (Nat × Value)) (hd : decode cc pc = .ok (.iinc i n, 3)) (hk : lv[j]? = some (i, .int x)) (hv : x + Int32.ofInt n = v) (hn : i < ez_nL X) (hl : (i, Value.int v) :: lv.filter (fun q => !(q.1 == i) && !(q.1 + 1 == i && q.2.category == 2)) = lv') (kk : ez_Z X N R M mc ms (pc + 3) lv' st) : ez_Z X N R M mc ms pc lv st := by
  obtain ⟨p, l, e, Rm, s, m, args, below, meth, c, nL, D, B, Q⟩ := X
  intro H locs ls h1 h2 h3
  exact lv_iinc hX.1 hX.2.1 hd h3 hk hv hn hl (fun ls' h4 => kk H locs ls' h1 h2 h4)

theorem ez_iadd {X : em_X} {cc : ByteArray} {own : String} {N : Nat} {R : em_Rt} {M : em_M} {mc ms pc : Nat} {lv : List (Nat × Value)} {st : List Value} (hX : ez_ok X cc own) {x y : Int32} (hd : decode cc pc = .ok (.iadd, 1)) (kk : ez_Z X N R M mc ms (pc + 1) lv (.int (x + y) :: st)) : ez_Z X N R M mc ms pc lv (.int y :: .int x :: st) := by
  obtain ⟨p, l, e, Rm, s, m, args, below, meth, c, nL, D, B, Q⟩ := X
  intro H locs ls h1 h2 h3
  exact lv_iadd hX.1 hX.2.1 hd (kk H locs ls h1 h2 h3)

theorem ez_isub {X : em_X} {cc : ByteArray} {own : String} {N : Nat} {R : em_Rt} {M : em_M} {mc ms pc : Nat} {lv : List (Nat × Value)} {st : List Value} (hX : ez_ok X cc own) {x y : Int32} (hd : decode cc pc = .ok (.isub, 1)) (kk : ez_Z X N R M mc ms (pc + 1) lv (.int (x - y) :: st)) : ez_Z X N R M mc ms pc lv (.int y :: .int x :: st) := by
  obtain ⟨p, l, e, Rm, s, m, args, below, meth, c, nL, D, B, Q⟩ := X
  intro H locs ls h1 h2 h3
  exact lv_isub hX.1 hX.2.1 hd (kk H locs ls h1 h2 h3)

theorem ez_imul {X : em_X} {cc : ByteArray} {own : String} {N : Nat} {R : em_Rt} {M : em_M} {mc ms pc : Nat} {lv : List (Nat × Value)} {st : List Value} (hX : ez_ok X cc own) {x y : Int32} (hd : decode cc pc = .ok (.imul, 1)) (kk : ez_Z X N R M mc ms (pc + 1) lv (.int (x * y) :: st)) : ez_Z X N R M mc ms pc lv (.int y :: .int x :: st) := by
  obtain ⟨p, l, e, Rm, s, m, args, below, meth, c, nL, D, B, Q⟩ := X
  intro H locs ls h1 h2 h3
  exact lv_imul hX.1 hX.2.1 hd (kk H locs ls h1 h2 h3)

theorem ez_iand {X : em_X} {cc : ByteArray} {own : String} {N : Nat} {R : em_Rt} {M : em_M} {mc ms pc : Nat} {lv : List (Nat × Value)} {st : List Value} (hX : ez_ok X cc own) {x y : Int32} (hd : decode cc pc = .ok (.iand, 1)) (kk : ez_Z X N R M mc ms (pc + 1) lv (.int (x &&& y) :: st)) : ez_Z X N R M mc ms pc lv (.int y :: .int x :: st) := by
  obtain ⟨p, l, e, Rm, s, m, args, below, meth, c, nL, D, B, Q⟩ := X
  intro H locs ls h1 h2 h3
  exact lv_iand hX.1 hX.2.1 hd (kk H locs ls h1 h2 h3)

theorem ez_idiv {X : em_X} {cc : ByteArray} {own : String} {N : Nat} {R : em_Rt} {M : em_M} {mc ms pc : Nat} {lv : List (Nat × Value)} {st : List Value} (hX : ez_ok X cc own) {x y : Int32} (hd : decode cc pc = .ok (.idiv, 1)) (hne : ¬ y = 0) (kk : ez_Z X N R M mc ms (pc + 1) lv (.int (x / y) :: st)) : ez_Z X N R M mc ms pc lv (.int y :: .int x :: st) := by
  obtain ⟨p, l, e, Rm, s, m, args, below, meth, c, nL, D, B, Q⟩ := X
  intro H locs ls h1 h2 h3
  exact lv_idiv hX.1 hX.2.1 hd hne (kk H locs ls h1 h2 h3)

theorem ez_irem {X : em_X} {cc : ByteArray} {own : String} {N : Nat} {R : em_Rt} {M : em_M} {mc ms pc : Nat} {lv : List (Nat × Value)} {st : List Value} (hX : ez_ok X cc own) {x y : Int32} (hd : decode cc pc = .ok (.irem, 1)) (hne : ¬ y = 0) (kk : ez_Z X N R M mc ms (pc + 1) lv (.int (x - x / y * y) :: st)) : ez_Z X N R M mc ms pc lv (.int y :: .int x :: st) := by
  obtain ⟨p, l, e, Rm, s, m, args, below, meth, c, nL, D, B, Q⟩ := X
  intro H locs ls h1 h2 h3
  exact lv_irem hX.1 hX.2.1 hd hne (kk H locs ls h1 h2 h3)

theorem ez_ladd {X : em_X} {cc : ByteArray} {own : String} {N : Nat} {R : em_Rt} {M : em_M} {mc ms pc : Nat} {lv : List (Nat × Value)} {st : List Value} (hX : ez_ok X cc own) {x y : Int64} (hd : decode cc pc = .ok (.ladd, 1)) (kk : ez_Z X N R M mc ms (pc + 1) lv (.long (x + y) :: st)) : ez_Z X N R M mc ms pc lv (.long y :: .long x :: st) := by
  obtain ⟨p, l, e, Rm, s, m, args, below, meth, c, nL, D, B, Q⟩ := X
  intro H locs ls h1 h2 h3
  exact lv_ladd hX.1 hX.2.1 hd (kk H locs ls h1 h2 h3)

theorem ez_lsub {X : em_X} {cc : ByteArray} {own : String} {N : Nat} {R : em_Rt} {M : em_M} {mc ms pc : Nat} {lv : List (Nat × Value)} {st : List Value} (hX : ez_ok X cc own) {x y : Int64} (hd : decode cc pc = .ok (.lsub, 1)) (kk : ez_Z X N R M mc ms (pc + 1) lv (.long (x - y) :: st)) : ez_Z X N R M mc ms pc lv (.long y :: .long x :: st) := by
  obtain ⟨p, l, e, Rm, s, m, args, below, meth, c, nL, D, B, Q⟩ := X
  intro H locs ls h1 h2 h3
  exact lv_lsub hX.1 hX.2.1 hd (kk H locs ls h1 h2 h3)

theorem ez_land {X : em_X} {cc : ByteArray} {own : String} {N : Nat} {R : em_Rt} {M : em_M} {mc ms pc : Nat} {lv : List (Nat × Value)} {st : List Value} (hX : ez_ok X cc own) {x y : Int64} (hd : decode cc pc = .ok (.land, 1)) (kk : ez_Z X N R M mc ms (pc + 1) lv (.long (x &&& y) :: st)) : ez_Z X N R M mc ms pc lv (.long y :: .long x :: st) := by
  obtain ⟨p, l, e, Rm, s, m, args, below, meth, c, nL, D, B, Q⟩ := X
  intro H locs ls h1 h2 h3
  exact lv_land hX.1 hX.2.1 hd (kk H locs ls h1 h2 h3)

theorem ez_lor {X : em_X} {cc : ByteArray} {own : String} {N : Nat} {R : em_Rt} {M : em_M} {mc ms pc : Nat} {lv : List (Nat × Value)} {st : List Value} (hX : ez_ok X cc own) {x y : Int64} (hd : decode cc pc = .ok (.lor, 1)) (kk : ez_Z X N R M mc ms (pc + 1) lv (.long (x ||| y) :: st)) : ez_Z X N R M mc ms pc lv (.long y :: .long x :: st) := by
  obtain ⟨p, l, e, Rm, s, m, args, below, meth, c, nL, D, B, Q⟩ := X
  intro H locs ls h1 h2 h3
  exact lv_lor hX.1 hX.2.1 hd (kk H locs ls h1 h2 h3)

theorem ez_ldiv {X : em_X} {cc : ByteArray} {own : String} {N : Nat} {R : em_Rt} {M : em_M} {mc ms pc : Nat} {lv : List (Nat × Value)} {st : List Value} (hX : ez_ok X cc own) {x y : Int64} (hd : decode cc pc = .ok (.ldiv, 1)) (hne : ¬ y = 0) (kk : ez_Z X N R M mc ms (pc + 1) lv (.long (x / y) :: st)) : ez_Z X N R M mc ms pc lv (.long y :: .long x :: st) := by
  obtain ⟨p, l, e, Rm, s, m, args, below, meth, c, nL, D, B, Q⟩ := X
  intro H locs ls h1 h2 h3
  exact lv_ldiv hX.1 hX.2.1 hd hne (kk H locs ls h1 h2 h3)

theorem ez_lrem {X : em_X} {cc : ByteArray} {own : String} {N : Nat} {R : em_Rt} {M : em_M} {mc ms pc : Nat} {lv : List (Nat × Value)} {st : List Value} (hX : ez_ok X cc own) {x y : Int64} (hd : decode cc pc = .ok (.lrem, 1)) (hne : ¬ y = 0) (kk : ez_Z X N R M mc ms (pc + 1) lv (.long (x - x / y * y) :: st)) : ez_Z X N R M mc ms pc lv (.long y :: .long x :: st) := by
  obtain ⟨p, l, e, Rm, s, m, args, below, meth, c, nL, D, B, Q⟩ := X
  intro H locs ls h1 h2 h3
  exact lv_lrem hX.1 hX.2.1 hd hne (kk H locs ls h1 h2 h3)

theorem ez_lneg {X : em_X} {cc : ByteArray} {own : String} {N : Nat} {R : em_Rt} {M : em_M} {mc ms pc : Nat} {lv : List (Nat × Value)} {st : List Value} (hX : ez_ok X cc own) {x : Int64} (hd : decode cc pc = .ok (.lneg, 1)) (kk : ez_Z X N R M mc ms (pc + 1) lv (.long (- x) :: st)) : ez_Z X N R M mc ms pc lv (.long x :: st) := by
  obtain ⟨p, l, e, Rm, s, m, args, below, meth, c, nL, D, B, Q⟩ := X
  intro H locs ls h1 h2 h3
  exact lv_lneg hX.1 hX.2.1 hd (kk H locs ls h1 h2 h3)

theorem ez_i2l {X : em_X} {cc : ByteArray} {own : String} {N : Nat} {R : em_Rt} {M : em_M} {mc ms pc : Nat} {lv : List (Nat × Value)} {st : List Value} (hX : ez_ok X cc own) {x : Int32} (hd : decode cc pc = .ok (.i2l, 1)) (kk : ez_Z X N R M mc ms (pc + 1) lv (.long x.toInt64 :: st)) : ez_Z X N R M mc ms pc lv (.int x :: st) := by
  obtain ⟨p, l, e, Rm, s, m, args, below, meth, c, nL, D, B, Q⟩ := X
  intro H locs ls h1 h2 h3
  exact lv_i2l hX.1 hX.2.1 hd rfl (kk H locs ls h1 h2 h3)

theorem ez_l2i {X : em_X} {cc : ByteArray} {own : String} {N : Nat} {R : em_Rt} {M : em_M} {mc ms pc : Nat} {lv : List (Nat × Value)} {st : List Value} (hX : ez_ok X cc own) {x : Int64} (hd : decode cc pc = .ok (.l2i, 1)) (kk : ez_Z X N R M mc ms (pc + 1) lv (.int x.toInt32 :: st)) : ez_Z X N R M mc ms pc lv (.long x :: st) := by
  obtain ⟨p, l, e, Rm, s, m, args, below, meth, c, nL, D, B, Q⟩ := X
  intro H locs ls h1 h2 h3
  exact lv_l2i hX.1 hX.2.1 hd rfl (kk H locs ls h1 h2 h3)

theorem ez_i2b {X : em_X} {cc : ByteArray} {own : String} {N : Nat} {R : em_Rt} {M : em_M} {mc ms pc : Nat} {lv : List (Nat × Value)} {st : List Value} (hX : ez_ok X cc own) {x : Int32} (hd : decode cc pc = .ok (.i2b, 1)) (kk : ez_Z X N R M mc ms (pc + 1) lv (.int x.toInt8.toInt32 :: st)) : ez_Z X N R M mc ms pc lv (.int x :: st) := by
  obtain ⟨p, l, e, Rm, s, m, args, below, meth, c, nL, D, B, Q⟩ := X
  intro H locs ls h1 h2 h3
  exact lv_i2b hX.1 hX.2.1 hd rfl (kk H locs ls h1 h2 h3)

theorem ez_i2s {X : em_X} {cc : ByteArray} {own : String} {N : Nat} {R : em_Rt} {M : em_M} {mc ms pc : Nat} {lv : List (Nat × Value)} {st : List Value} (hX : ez_ok X cc own) {x : Int32} (hd : decode cc pc = .ok (.i2s, 1)) (kk : ez_Z X N R M mc ms (pc + 1) lv (.int x.toInt16.toInt32 :: st)) : ez_Z X N R M mc ms pc lv (.int x :: st) := by
  obtain ⟨p, l, e, Rm, s, m, args, below, meth, c, nL, D, B, Q⟩ := X
  intro H locs ls h1 h2 h3
  exact lv_i2s hX.1 hX.2.1 hd rfl (kk H locs ls h1 h2 h3)

theorem ez_lshl {X : em_X} {cc : ByteArray} {own : String} {N : Nat} {R : em_Rt} {M : em_M} {mc ms pc : Nat} {lv : List (Nat × Value)} {st : List Value} (hX : ez_ok X cc own) {x : Int64} {y : Int32} (hd : decode cc pc = .ok (.lshl, 1)) (kk : ez_Z X N R M mc ms (pc + 1) lv (.long (x <<< (y.toInt64 &&& 63)) :: st)) : ez_Z X N R M mc ms pc lv (.int y :: .long x :: st) := by
  obtain ⟨p, l, e, Rm, s, m, args, below, meth, c, nL, D, B, Q⟩ := X
  intro H locs ls h1 h2 h3
  exact lv_lshl hX.1 hX.2.1 hd rfl (kk H locs ls h1 h2 h3)

theorem ez_lcmp {X : em_X} {cc : ByteArray} {own : String} {N : Nat} {R : em_Rt} {M : em_M} {mc ms pc : Nat} {lv : List (Nat × Value)} {st : List Value} (hX : ez_ok X cc own) {x y : Int64} (hd : decode cc pc = .ok (.lcmp, 1)) (kk : ez_Z X N R M mc ms (pc + 1) lv (.int (lg_cmp x y) :: st)) : ez_Z X N R M mc ms pc lv (.long y :: .long x :: st) := by
  obtain ⟨p, l, e, Rm, s, m, args, below, meth, c, nL, D, B, Q⟩ := X
  intro H locs ls h1 h2 h3
  exact W.lcmp hX.1 hX.2.1 hd (kk H locs ls h1 h2 h3)

theorem ez_dup {X : em_X} {cc : ByteArray} {own : String} {N : Nat} {R : em_Rt} {M : em_M} {mc ms pc : Nat} {lv : List (Nat × Value)} {st : List Value} (hX : ez_ok X cc own) {v : Value} (hd : decode cc pc = .ok (.dup, 1)) (hv : v.category = 1) (kk : ez_Z X N R M mc ms (pc + 1) lv (v :: v :: st)) : ez_Z X N R M mc ms pc lv (v :: st) := by
  obtain ⟨p, l, e, Rm, s, m, args, below, meth, c, nL, D, B, Q⟩ := X
  intro H locs ls h1 h2 h3
  exact lv_dup hX.1 hX.2.1 hd hv (kk H locs ls h1 h2 h3)

theorem ez_pop {X : em_X} {cc : ByteArray} {own : String} {N : Nat} {R : em_Rt} {M : em_M} {mc ms pc : Nat} {lv : List (Nat × Value)} {st : List Value} (hX : ez_ok X cc own) {v : Value} (hd : decode cc pc = .ok (.pop, 1)) (hv : v.category = 1) (kk : ez_Z X N R M mc ms (pc + 1) lv st) : ez_Z X N R M mc ms pc lv (v :: st) := by
  obtain ⟨p, l, e, Rm, s, m, args, below, meth, c, nL, D, B, Q⟩ := X
  intro H locs ls h1 h2 h3
  exact lv_pop hX.1 hX.2.1 hd hv (kk H locs ls h1 h2 h3)

theorem ez_dup2 {X : em_X} {cc : ByteArray} {own : String} {N : Nat} {R : em_Rt} {M : em_M} {mc ms pc : Nat} {lv : List (Nat × Value)} {st : List Value} (hX : ez_ok X cc own) {v w : Value} (hd : decode cc pc = .ok (.dup2, 1)) (hv : v.category = 1) (hw : w.category = 1) (kk : ez_Z X N R M mc ms (pc + 1) lv (v :: w :: v :: w :: st)) : ez_Z X N R M mc ms pc lv (v :: w :: st) := by
  obtain ⟨p, l, e, Rm, s, m, args, below, meth, c, nL, D, B, Q⟩ := X
  intro H locs ls h1 h2 h3
  exact lv_dup2_11 hX.1 hX.2.1 hd hv hw (kk H locs ls h1 h2 h3)

theorem ez_ldc2 {X : em_X} {cc : ByteArray} {own : String} {N : Nat} {R : em_Rt} {M : em_M} {mc ms pc : Nat} {lv : List (Nat × Value)} {st : List Value} (hX : ez_ok X cc own) {idx : Nat} {v : Int64} (hw : Cond.constantLong own idx v ∈ em_tb) (hd : decode cc pc = .ok (.ldc2_w idx, 3)) (kk : ez_Z X N R M mc ms (pc + 3) lv (.long v :: st)) : ez_Z X N R M mc ms pc lv st := by
  obtain ⟨p, l, e, Rm, s, m, args, below, meth, c, nL, D, B, Q⟩ := X
  intro H locs ls h1 h2 h3
  exact lv_ldc2 hX.1 hX.2.1 hX.2.2.2.1 (hX.2.2.2.2.1 _ hw) hd (kk H locs ls h1 h2 h3)

theorem ez_if_eq {X : em_X} {cc : ByteArray} {own : String} {N : Nat} {R : em_Rt} {M : em_M} {mc ms pc : Nat} {lv : List (Nat × Value)} {st : List Value} (hX : ez_ok X cc own) {x : Int32} {off : Int} (tgt : Nat) (hd : decode cc pc = .ok (.ifCond .eq off, 3)) (ht : (pc : Int) + off = (tgt : Int)) (kt : x = 0 → ez_Z X N R M mc ms tgt lv st) (kf : ¬ x = 0 → ez_Z X N R M mc ms (pc + 3) lv st) : ez_Z X N R M mc ms pc lv (.int x :: st) := by
  obtain ⟨p, l, e, Rm, s, m, args, below, meth, c, nL, D, B, Q⟩ := X
  intro H locs ls h1 h2 h3
  exact lv_if_eq hX.1 hX.2.1 hd ht (fun q => kt q H locs ls h1 h2 h3) (fun q => kf q H locs ls h1 h2 h3)

theorem ez_icmp_eq {X : em_X} {cc : ByteArray} {own : String} {N : Nat} {R : em_Rt} {M : em_M} {mc ms pc : Nat} {lv : List (Nat × Value)} {st : List Value} (hX : ez_ok X cc own) {x y : Int32} {off : Int} (tgt : Nat) (hd : decode cc pc = .ok (.if_icmp .eq off, 3)) (ht : (pc : Int) + off = (tgt : Int)) (kt : x = y → ez_Z X N R M mc ms tgt lv st) (kf : ¬ x = y → ez_Z X N R M mc ms (pc + 3) lv st) : ez_Z X N R M mc ms pc lv (.int y :: .int x :: st) := by
  obtain ⟨p, l, e, Rm, s, m, args, below, meth, c, nL, D, B, Q⟩ := X
  intro H locs ls h1 h2 h3
  exact lv_icmp_eq hX.1 hX.2.1 hd ht (fun q => kt q H locs ls h1 h2 h3) (fun q => kf q H locs ls h1 h2 h3)

theorem ez_if_ne {X : em_X} {cc : ByteArray} {own : String} {N : Nat} {R : em_Rt} {M : em_M} {mc ms pc : Nat} {lv : List (Nat × Value)} {st : List Value} (hX : ez_ok X cc own) {x : Int32} {off : Int} (tgt : Nat) (hd : decode cc pc = .ok (.ifCond .ne off, 3)) (ht : (pc : Int) + off = (tgt : Int)) (kt : ¬ x = 0 → ez_Z X N R M mc ms tgt lv st) (kf : x = 0 → ez_Z X N R M mc ms (pc + 3) lv st) : ez_Z X N R M mc ms pc lv (.int x :: st) := by
  obtain ⟨p, l, e, Rm, s, m, args, below, meth, c, nL, D, B, Q⟩ := X
  intro H locs ls h1 h2 h3
  exact lv_if_ne hX.1 hX.2.1 hd ht (fun q => kt q H locs ls h1 h2 h3) (fun q => kf q H locs ls h1 h2 h3)

theorem ez_icmp_ne {X : em_X} {cc : ByteArray} {own : String} {N : Nat} {R : em_Rt} {M : em_M} {mc ms pc : Nat} {lv : List (Nat × Value)} {st : List Value} (hX : ez_ok X cc own) {x y : Int32} {off : Int} (tgt : Nat) (hd : decode cc pc = .ok (.if_icmp .ne off, 3)) (ht : (pc : Int) + off = (tgt : Int)) (kt : ¬ x = y → ez_Z X N R M mc ms tgt lv st) (kf : x = y → ez_Z X N R M mc ms (pc + 3) lv st) : ez_Z X N R M mc ms pc lv (.int y :: .int x :: st) := by
  obtain ⟨p, l, e, Rm, s, m, args, below, meth, c, nL, D, B, Q⟩ := X
  intro H locs ls h1 h2 h3
  exact lv_icmp_ne hX.1 hX.2.1 hd ht (fun q => kt q H locs ls h1 h2 h3) (fun q => kf q H locs ls h1 h2 h3)

theorem ez_if_lt {X : em_X} {cc : ByteArray} {own : String} {N : Nat} {R : em_Rt} {M : em_M} {mc ms pc : Nat} {lv : List (Nat × Value)} {st : List Value} (hX : ez_ok X cc own) {x : Int32} {off : Int} (tgt : Nat) (hd : decode cc pc = .ok (.ifCond .lt off, 3)) (ht : (pc : Int) + off = (tgt : Int)) (kt : x < 0 → ez_Z X N R M mc ms tgt lv st) (kf : ¬ x < 0 → ez_Z X N R M mc ms (pc + 3) lv st) : ez_Z X N R M mc ms pc lv (.int x :: st) := by
  obtain ⟨p, l, e, Rm, s, m, args, below, meth, c, nL, D, B, Q⟩ := X
  intro H locs ls h1 h2 h3
  exact lv_if_lt hX.1 hX.2.1 hd ht (fun q => kt q H locs ls h1 h2 h3) (fun q => kf q H locs ls h1 h2 h3)

theorem ez_icmp_lt {X : em_X} {cc : ByteArray} {own : String} {N : Nat} {R : em_Rt} {M : em_M} {mc ms pc : Nat} {lv : List (Nat × Value)} {st : List Value} (hX : ez_ok X cc own) {x y : Int32} {off : Int} (tgt : Nat) (hd : decode cc pc = .ok (.if_icmp .lt off, 3)) (ht : (pc : Int) + off = (tgt : Int)) (kt : x < y → ez_Z X N R M mc ms tgt lv st) (kf : ¬ x < y → ez_Z X N R M mc ms (pc + 3) lv st) : ez_Z X N R M mc ms pc lv (.int y :: .int x :: st) := by
  obtain ⟨p, l, e, Rm, s, m, args, below, meth, c, nL, D, B, Q⟩ := X
  intro H locs ls h1 h2 h3
  exact lv_icmp_lt hX.1 hX.2.1 hd ht (fun q => kt q H locs ls h1 h2 h3) (fun q => kf q H locs ls h1 h2 h3)

theorem ez_if_ge {X : em_X} {cc : ByteArray} {own : String} {N : Nat} {R : em_Rt} {M : em_M} {mc ms pc : Nat} {lv : List (Nat × Value)} {st : List Value} (hX : ez_ok X cc own) {x : Int32} {off : Int} (tgt : Nat) (hd : decode cc pc = .ok (.ifCond .ge off, 3)) (ht : (pc : Int) + off = (tgt : Int)) (kt : 0 ≤ x → ez_Z X N R M mc ms tgt lv st) (kf : ¬ 0 ≤ x → ez_Z X N R M mc ms (pc + 3) lv st) : ez_Z X N R M mc ms pc lv (.int x :: st) := by
  obtain ⟨p, l, e, Rm, s, m, args, below, meth, c, nL, D, B, Q⟩ := X
  intro H locs ls h1 h2 h3
  exact lv_if_ge hX.1 hX.2.1 hd ht (fun q => kt q H locs ls h1 h2 h3) (fun q => kf q H locs ls h1 h2 h3)

theorem ez_icmp_ge {X : em_X} {cc : ByteArray} {own : String} {N : Nat} {R : em_Rt} {M : em_M} {mc ms pc : Nat} {lv : List (Nat × Value)} {st : List Value} (hX : ez_ok X cc own) {x y : Int32} {off : Int} (tgt : Nat) (hd : decode cc pc = .ok (.if_icmp .ge off, 3)) (ht : (pc : Int) + off = (tgt : Int)) (kt : y ≤ x → ez_Z X N R M mc ms tgt lv st) (kf : ¬ y ≤ x → ez_Z X N R M mc ms (pc + 3) lv st) : ez_Z X N R M mc ms pc lv (.int y :: .int x :: st) := by
  obtain ⟨p, l, e, Rm, s, m, args, below, meth, c, nL, D, B, Q⟩ := X
  intro H locs ls h1 h2 h3
  exact lv_icmp_ge hX.1 hX.2.1 hd ht (fun q => kt q H locs ls h1 h2 h3) (fun q => kf q H locs ls h1 h2 h3)

theorem ez_if_gt {X : em_X} {cc : ByteArray} {own : String} {N : Nat} {R : em_Rt} {M : em_M} {mc ms pc : Nat} {lv : List (Nat × Value)} {st : List Value} (hX : ez_ok X cc own) {x : Int32} {off : Int} (tgt : Nat) (hd : decode cc pc = .ok (.ifCond .gt off, 3)) (ht : (pc : Int) + off = (tgt : Int)) (kt : 0 < x → ez_Z X N R M mc ms tgt lv st) (kf : ¬ 0 < x → ez_Z X N R M mc ms (pc + 3) lv st) : ez_Z X N R M mc ms pc lv (.int x :: st) := by
  obtain ⟨p, l, e, Rm, s, m, args, below, meth, c, nL, D, B, Q⟩ := X
  intro H locs ls h1 h2 h3
  exact lv_if_gt hX.1 hX.2.1 hd ht (fun q => kt q H locs ls h1 h2 h3) (fun q => kf q H locs ls h1 h2 h3)

theorem ez_icmp_gt {X : em_X} {cc : ByteArray} {own : String} {N : Nat} {R : em_Rt} {M : em_M} {mc ms pc : Nat} {lv : List (Nat × Value)} {st : List Value} (hX : ez_ok X cc own) {x y : Int32} {off : Int} (tgt : Nat) (hd : decode cc pc = .ok (.if_icmp .gt off, 3)) (ht : (pc : Int) + off = (tgt : Int)) (kt : y < x → ez_Z X N R M mc ms tgt lv st) (kf : ¬ y < x → ez_Z X N R M mc ms (pc + 3) lv st) : ez_Z X N R M mc ms pc lv (.int y :: .int x :: st) := by
  obtain ⟨p, l, e, Rm, s, m, args, below, meth, c, nL, D, B, Q⟩ := X
  intro H locs ls h1 h2 h3
  exact lv_icmp_gt hX.1 hX.2.1 hd ht (fun q => kt q H locs ls h1 h2 h3) (fun q => kf q H locs ls h1 h2 h3)

theorem ez_if_le {X : em_X} {cc : ByteArray} {own : String} {N : Nat} {R : em_Rt} {M : em_M} {mc ms pc : Nat} {lv : List (Nat × Value)} {st : List Value} (hX : ez_ok X cc own) {x : Int32} {off : Int} (tgt : Nat) (hd : decode cc pc = .ok (.ifCond .le off, 3)) (ht : (pc : Int) + off = (tgt : Int)) (kt : x ≤ 0 → ez_Z X N R M mc ms tgt lv st) (kf : ¬ x ≤ 0 → ez_Z X N R M mc ms (pc + 3) lv st) : ez_Z X N R M mc ms pc lv (.int x :: st) := by
  obtain ⟨p, l, e, Rm, s, m, args, below, meth, c, nL, D, B, Q⟩ := X
  intro H locs ls h1 h2 h3
  exact lv_if_le hX.1 hX.2.1 hd ht (fun q => kt q H locs ls h1 h2 h3) (fun q => kf q H locs ls h1 h2 h3)

theorem ez_icmp_le {X : em_X} {cc : ByteArray} {own : String} {N : Nat} {R : em_Rt} {M : em_M} {mc ms pc : Nat} {lv : List (Nat × Value)} {st : List Value} (hX : ez_ok X cc own) {x y : Int32} {off : Int} (tgt : Nat) (hd : decode cc pc = .ok (.if_icmp .le off, 3)) (ht : (pc : Int) + off = (tgt : Int)) (kt : x ≤ y → ez_Z X N R M mc ms tgt lv st) (kf : ¬ x ≤ y → ez_Z X N R M mc ms (pc + 3) lv st) : ez_Z X N R M mc ms pc lv (.int y :: .int x :: st) := by
  obtain ⟨p, l, e, Rm, s, m, args, below, meth, c, nL, D, B, Q⟩ := X
  intro H locs ls h1 h2 h3
  exact lv_icmp_le hX.1 hX.2.1 hd ht (fun q => kt q H locs ls h1 h2 h3) (fun q => kf q H locs ls h1 h2 h3)

theorem ez_goto {X : em_X} {cc : ByteArray} {own : String} {N : Nat} {R : em_Rt} {M : em_M} {mc ms pc : Nat} {lv : List (Nat × Value)} {st : List Value} (hX : ez_ok X cc own) {off : Int} (tgt : Nat) (hd : decode cc pc = .ok (.goto off, 3)) (ht : (pc : Int) + off = (tgt : Int)) (kk : ez_Z X N R M mc ms tgt lv st) : ez_Z X N R M mc ms pc lv st := by
  obtain ⟨p, l, e, Rm, s, m, args, below, meth, c, nL, D, B, Q⟩ := X
  intro H locs ls h1 h2 h3
  exact lv_goto hX.1 hX.2.1 hd ht (kk H locs ls h1 h2 h3)

theorem ez_ifnonnull {X : em_X} {cc : ByteArray} {own : String} {N : Nat} {R : em_Rt} {M : em_M} {mc ms pc : Nat} {lv : List (Nat × Value)} {st : List Value} (hX : ez_ok X cc own) {x : Nat} {off : Int} (tgt : Nat) (hd : decode cc pc = .ok (.ifnonnull off, 3)) (ht : (pc : Int) + off = (tgt : Int)) (kk : ez_Z X N R M mc ms tgt lv st) : ez_Z X N R M mc ms pc lv (.ref x :: st) := by
  obtain ⟨p, l, e, Rm, s, m, args, below, meth, c, nL, D, B, Q⟩ := X
  intro H locs ls h1 h2 h3
  exact lv_ifnonnull hX.1 hX.2.1 hd ht (kk H locs ls h1 h2 h3)

theorem ez_ifnonnullN {X : em_X} {cc : ByteArray} {own : String} {N : Nat} {R : em_Rt} {M : em_M} {mc ms pc : Nat} {lv : List (Nat × Value)} {st : List Value} (hX : ez_ok X cc own) {x : Nat} {off : Int} (hd : decode cc pc = .ok (.ifnonnull off, 3)) (kk : ez_Z X N R M mc ms (pc + 3) lv st) : ez_Z X N R M mc ms pc lv (.null :: st) := by
  obtain ⟨p, l, e, Rm, s, m, args, below, meth, c, nL, D, B, Q⟩ := X
  intro H locs ls h1 h2 h3
  exact lv_ifnonnullN hX.1 hX.2.1 hd (kk H locs ls h1 h2 h3)

theorem ez_ifnull {X : em_X} {cc : ByteArray} {own : String} {N : Nat} {R : em_Rt} {M : em_M} {mc ms pc : Nat} {lv : List (Nat × Value)} {st : List Value} (hX : ez_ok X cc own) {x : Nat} {off : Int} (hd : decode cc pc = .ok (.ifnull off, 3)) (kk : ez_Z X N R M mc ms (pc + 3) lv st) : ez_Z X N R M mc ms pc lv (.ref x :: st) := by
  obtain ⟨p, l, e, Rm, s, m, args, below, meth, c, nL, D, B, Q⟩ := X
  intro H locs ls h1 h2 h3
  exact lv_ifnull hX.1 hX.2.1 hd (kk H locs ls h1 h2 h3)

theorem ez_ifnullN {X : em_X} {cc : ByteArray} {own : String} {N : Nat} {R : em_Rt} {M : em_M} {mc ms pc : Nat} {lv : List (Nat × Value)} {st : List Value} (hX : ez_ok X cc own) {x : Nat} {off : Int} (tgt : Nat) (hd : decode cc pc = .ok (.ifnull off, 3)) (ht : (pc : Int) + off = (tgt : Int)) (kk : ez_Z X N R M mc ms tgt lv st) : ez_Z X N R M mc ms pc lv (.null :: st) := by
  obtain ⟨p, l, e, Rm, s, m, args, below, meth, c, nL, D, B, Q⟩ := X
  intro H locs ls h1 h2 h3
  exact lv_ifnullN hX.1 hX.2.1 hd ht (kk H locs ls h1 h2 h3)

theorem ez_tsIn {X : em_X} {cc : ByteArray} {own : String} {N : Nat} {R : em_Rt} {M : em_M} {mc ms pc : Nat} {lv : List (Nat × Value)} {st : List Value} (hX : ez_ok X cc own) {dflt lo hi : Int} {offs : Array Int} {len : Nat} {x : Int32} (v : Int) (off : Int) (tgt : Nat) (hd : decode cc pc = .ok (.tableswitch dflt lo hi offs, len)) (hx : x.toInt = v) (hv : (¬ v < lo) ∧ (¬ hi < v) ∧ offs[(v - lo).toNat]? = some off ∧ (pc : Int) + off = (tgt : Int)) (kk : ez_Z X N R M mc ms tgt lv st) : ez_Z X N R M mc ms pc lv (.int x :: st) := by
  obtain ⟨p, l, e, Rm, s, m, args, below, meth, c, nL, D, B, Q⟩ := X
  intro H locs ls h1 h2 h3
  exact lv_tableIn hX.1 hX.2.1 hd (by rw [hx]; exact hv.1) (by rw [hx]; exact hv.2.1) (by rw [hx]; exact hv.2.2.1) hv.2.2.2 (kk H locs ls h1 h2 h3)

theorem ez_tsOut {X : em_X} {cc : ByteArray} {own : String} {N : Nat} {R : em_Rt} {M : em_M} {mc ms pc : Nat} {lv : List (Nat × Value)} {st : List Value} (hX : ez_ok X cc own) {dflt lo hi : Int} {offs : Array Int} {len : Nat} {x : Int32} (tgt : Nat) (hd : decode cc pc = .ok (.tableswitch dflt lo hi offs, len)) (hx : x.toInt < lo ∨ hi < x.toInt) (ht : (pc : Int) + dflt = (tgt : Int)) (kk : ez_Z X N R M mc ms tgt lv st) : ez_Z X N R M mc ms pc lv (.int x :: st) := by
  obtain ⟨p, l, e, Rm, s, m, args, below, meth, c, nL, D, B, Q⟩ := X
  intro H locs ls h1 h2 h3
  exact lv_tableOut hX.1 hX.2.1 hd hx ht (kk H locs ls h1 h2 h3)

theorem ez_ls {X : em_X} {cc : ByteArray} {own : String} {N : Nat} {R : em_Rt} {M : em_M} {mc ms pc : Nat} {lv : List (Nat × Value)} {st : List Value} (hX : ez_ok X cc own) {dflt : Int} {ps : Array (Int × Int)} {len : Nat} {x : Int32} (off : Int) (tgt : Nat) (hd : decode cc pc = .ok (.lookupswitch dflt ps, len)) (hp : (ps.toList.zip (ps.toList.drop 1)).all (fun (a, next) => a.1 < next.1) = true) (ho : Op.lookupswitch.offset ps.toList dflt x.toInt = off) (ht : (pc : Int) + off = (tgt : Int)) (kk : ez_Z X N R M mc ms tgt lv st) : ez_Z X N R M mc ms pc lv (.int x :: st) := by
  obtain ⟨p, l, e, Rm, s, m, args, below, meth, c, nL, D, B, Q⟩ := X
  intro H locs ls h1 h2 h3
  exact lv_lookup hX.1 hX.2.1 hd hp ho ht (kk H locs ls h1 h2 h3)

theorem ez_geti {X : em_X} {cc : ByteArray} {own : String} {N : Nat} {R : em_Rt} {M : em_M} {mc ms pc : Nat} {lv : List (Nat × Value)} {st : List Value} (hX : ez_ok X cc own) {ci n k idx o : Nat} {C : String} {T : u_T} (hkd : em_kd o = (ci, n)) (hci : vwCl[ci]? = some (C, T, n)) (hc20 : ci < 20) (ho : o < N) (hk : k < n) (hin : ∀ w ∈ u_ws C T n, w ∈ em_tb) (hty : em_tc (em_ty ci k) = 0) (hw : Cond.fieldLink own idx (T k).1 (T k).2.1 (T k).2.2.1 ∈ em_tb) (hd : decode cc pc = .ok (.getfield idx, 3)) (kk : ez_Z X N R M mc ms (pc + 3) lv (.int (M.1 o k) :: st)) : ez_Z X N R M mc ms pc lv (.ref (ez_B X + o) :: st) := by
  obtain ⟨p, l, e, Rm, s, m, args, below, meth, c, nL, D, B, Q⟩ := X
  intro H locs ls h1 h2 h3
  refine va_get hX.1 hX.2.1 hX.2.2.2.2.1 hin hX.2.2.2.1 hX.2.2.2.2.2.1.1 h1 o (fs := (List.range n).map (em_v B R M ci o)) ((em_ws_get ho).trans (congrArg (fun e => some (B + o, e)) (em_ce_obj hkd hc20))) hci k hk (hX.2.2.2.2.1 _ hw) (fun _ q => q) (v := .int (M.1 o k)) ?_ hd (kk H locs ls h1 h2 h3)
  rw [em_fs_get hk]
  simp only [em_v, hty, if_true]

theorem ez_getl {X : em_X} {cc : ByteArray} {own : String} {N : Nat} {R : em_Rt} {M : em_M} {mc ms pc : Nat} {lv : List (Nat × Value)} {st : List Value} (hX : ez_ok X cc own) {ci n k idx o : Nat} {C : String} {T : u_T} (hkd : em_kd o = (ci, n)) (hci : vwCl[ci]? = some (C, T, n)) (hc20 : ci < 20) (ho : o < N) (hk : k < n) (hin : ∀ w ∈ u_ws C T n, w ∈ em_tb) (hty : em_tc (em_ty ci k) = 1) (hw : Cond.fieldLink own idx (T k).1 (T k).2.1 (T k).2.2.1 ∈ em_tb) (hd : decode cc pc = .ok (.getfield idx, 3)) (kk : ez_Z X N R M mc ms (pc + 3) lv (.long (M.2 o k) :: st)) : ez_Z X N R M mc ms pc lv (.ref (ez_B X + o) :: st) := by
  obtain ⟨p, l, e, Rm, s, m, args, below, meth, c, nL, D, B, Q⟩ := X
  intro H locs ls h1 h2 h3
  refine va_get hX.1 hX.2.1 hX.2.2.2.2.1 hin hX.2.2.2.1 hX.2.2.2.2.2.1.1 h1 o (fs := (List.range n).map (em_v B R M ci o)) ((em_ws_get ho).trans (congrArg (fun e => some (B + o, e)) (em_ce_obj hkd hc20))) hci k hk (hX.2.2.2.2.1 _ hw) (fun _ q => q) (v := .long (M.2 o k)) ?_ hd (kk H locs ls h1 h2 h3)
  rw [em_fs_get hk]
  simp [em_v, hty]

theorem ez_getr {X : em_X} {cc : ByteArray} {own : String} {N : Nat} {R : em_Rt} {M : em_M} {mc ms pc : Nat} {lv : List (Nat × Value)} {st : List Value} (hX : ez_ok X cc own) {ci n k idx o : Nat} {C : String} {T : u_T} (hkd : em_kd o = (ci, n)) (hci : vwCl[ci]? = some (C, T, n)) (hc20 : ci < 20) (ho : o < N) (hk : k < n) (hin : ∀ w ∈ u_ws C T n, w ∈ em_tb) (o' : Nat) (hty : em_tc (em_ty ci k) = 2) (hr : R o k = some o') (hw : Cond.fieldLink own idx (T k).1 (T k).2.1 (T k).2.2.1 ∈ em_tb) (hd : decode cc pc = .ok (.getfield idx, 3)) (kk : ez_Z X N R M mc ms (pc + 3) lv (.ref (ez_B X + o') :: st)) : ez_Z X N R M mc ms pc lv (.ref (ez_B X + o) :: st) := by
  obtain ⟨p, l, e, Rm, s, m, args, below, meth, c, nL, D, B, Q⟩ := X
  intro H locs ls h1 h2 h3
  refine va_get hX.1 hX.2.1 hX.2.2.2.2.1 hin hX.2.2.2.1 hX.2.2.2.2.2.1.1 h1 o (fs := (List.range n).map (em_v B R M ci o)) ((em_ws_get ho).trans (congrArg (fun e => some (B + o, e)) (em_ce_obj hkd hc20))) hci k hk (hX.2.2.2.2.1 _ hw) (fun _ q => q) (v := .ref (B + o')) ?_ hd (kk H locs ls h1 h2 h3)
  rw [em_fs_get hk]
  simp [em_v, hty, hr, em_rf, va_rf]

theorem ez_puti {X : em_X} {cc : ByteArray} {own : String} {N : Nat} {R : em_Rt} {M : em_M} {mc ms pc : Nat} {lv : List (Nat × Value)} {st : List Value} (hX : ez_ok X cc own) {ci n k idx o : Nat} {C : String} {T : u_T} (hkd : em_kd o = (ci, n)) (hci : vwCl[ci]? = some (C, T, n)) (hc20 : ci < 20) (ho : o < N) (hk : k < n) (hin : ∀ w ∈ u_ws C T n, w ∈ em_tb) (ty0 : Nat → FieldType) (hty0 : ∀ k, k < n → parseFieldDescriptor (T k).2.2.1 = some (ty0 k)) (hnm : ∀ a, a < n → ∀ b, b < n → a ≠ b → (T a).2.1 ≠ (T b).2.1) (x : Int32)  (hty : em_tc (em_ty ci k) = 0) (hw : Cond.fieldLink own idx (T k).1 (T k).2.1 (T k).2.2.1 ∈ em_tb) (hfin : (T k).2.2.2 = false) (hn : narrow (ty0 k) (.int x) = .int x) (hfit : fits (ty0 k) (.int x) = true) (hd : decode cc pc = .ok (.putfield idx, 3)) (kk : ez_Z X N R (em_pI M o k x) mc ms (pc + 3) lv st) : ez_Z X N R M mc ms pc lv (.int x :: .ref (ez_B X + o) :: st) := by
  obtain ⟨p, l, e, Rm, s, m, args, below, meth, c, nL, D, B, Q⟩ := X
  intro H locs ls h1 h2 h3
  refine va_put hX.1 hX.2.1 hX.2.2.2.2.1 hin ty0 hty0 hnm hX.2.2.2.1 hX.2.2.2.2.2.1.1 h1 em_wsD h2 o (fs := (List.range n).map (em_v B R M ci o)) ((em_ws_get ho).trans (congrArg (fun e => some (B + o, e)) (em_ce_obj hkd hc20))) hci k hk (hX.2.2.2.2.1 _ hw) (fun _ q => q) hfin (ty := ty0 k) (hty0 k hk) hn hfit (by simp; exact hk) hd (fun H1 locs1 g1 _ g3 => ?_)
  refine kk H1 locs1 ls ?_ g3 h3
  rw [em_fs_set (g := em_v B R (em_pI M o k x) ci o) (by simp only [em_v, hty, if_true, em_pI_self, upd]) (fun j hj => by simp only [em_v, em_pI_self, upd, if_neg hj]; rfl)] at g1
  rw [em_ws_set (R := R) (M := M) (R' := R) (M' := (em_pI M o k x)) (by rw [em_ce_obj hkd hc20]) (fun q hq => em_ce_same (em_pI_ne M k x hq) rfl rfl)] at g1
  exact g1

theorem ez_putl {X : em_X} {cc : ByteArray} {own : String} {N : Nat} {R : em_Rt} {M : em_M} {mc ms pc : Nat} {lv : List (Nat × Value)} {st : List Value} (hX : ez_ok X cc own) {ci n k idx o : Nat} {C : String} {T : u_T} (hkd : em_kd o = (ci, n)) (hci : vwCl[ci]? = some (C, T, n)) (hc20 : ci < 20) (ho : o < N) (hk : k < n) (hin : ∀ w ∈ u_ws C T n, w ∈ em_tb) (ty0 : Nat → FieldType) (hty0 : ∀ k, k < n → parseFieldDescriptor (T k).2.2.1 = some (ty0 k)) (hnm : ∀ a, a < n → ∀ b, b < n → a ≠ b → (T a).2.1 ≠ (T b).2.1) (x : Int64)  (hty : em_tc (em_ty ci k) = 1) (hw : Cond.fieldLink own idx (T k).1 (T k).2.1 (T k).2.2.1 ∈ em_tb) (hfin : (T k).2.2.2 = false) (hn : narrow (ty0 k) (.long x) = .long x) (hfit : fits (ty0 k) (.long x) = true) (hd : decode cc pc = .ok (.putfield idx, 3)) (kk : ez_Z X N R (em_pL M o k x) mc ms (pc + 3) lv st) : ez_Z X N R M mc ms pc lv (.long x :: .ref (ez_B X + o) :: st) := by
  obtain ⟨p, l, e, Rm, s, m, args, below, meth, c, nL, D, B, Q⟩ := X
  intro H locs ls h1 h2 h3
  refine va_put hX.1 hX.2.1 hX.2.2.2.2.1 hin ty0 hty0 hnm hX.2.2.2.1 hX.2.2.2.2.2.1.1 h1 em_wsD h2 o (fs := (List.range n).map (em_v B R M ci o)) ((em_ws_get ho).trans (congrArg (fun e => some (B + o, e)) (em_ce_obj hkd hc20))) hci k hk (hX.2.2.2.2.1 _ hw) (fun _ q => q) hfin (ty := ty0 k) (hty0 k hk) hn hfit (by simp; exact hk) hd (fun H1 locs1 g1 _ g3 => ?_)
  refine kk H1 locs1 ls ?_ g3 h3
  rw [em_fs_set (g := em_v B R (em_pL M o k x) ci o) (by simp [em_v, hty, em_pL_self, vp_updL]) (fun j hj => by simp only [em_v, em_pL_self, vp_updL, if_neg hj]; rfl)] at g1
  rw [em_ws_set (R := R) (M := M) (R' := R) (M' := (em_pL M o k x)) (by rw [em_ce_obj hkd hc20]) (fun q hq => em_ce_same rfl (em_pL_ne M k x hq) rfl)] at g1
  exact g1

theorem ez_putFi {X : em_X} {cc : ByteArray} {own : String} {N : Nat} {R : em_Rt} {M : em_M} {mc ms pc : Nat} {lv : List (Nat × Value)} {st : List Value} (hX : ez_ok X cc own) {ci n k idx o : Nat} {C : String} {T : u_T} (hkd : em_kd o = (ci, n)) (hci : vwCl[ci]? = some (C, T, n)) (hc20 : ci < 20) (ho : o < N) (hk : k < n) (hin : ∀ w ∈ u_ws C T n, w ∈ em_tb) (ty0 : Nat → FieldType) (hty0 : ∀ k, k < n → parseFieldDescriptor (T k).2.2.1 = some (ty0 k)) (hnm : ∀ a, a < n → ∀ b, b < n → a ≠ b → (T a).2.1 ≠ (T b).2.1) (x : Int32)  (hty : em_tc (em_ty ci k) = 0) (hw : Cond.fieldLink own idx (T k).1 (T k).2.1 (T k).2.2.1 ∈ em_tb) (hfin : (T k).2.2.2 = true) (hname : ez_name X = "<init>") (hdecl : (T k).1 = own) (hn : narrow (ty0 k) (.int x) = .int x) (hfit : fits (ty0 k) (.int x) = true) (hd : decode cc pc = .ok (.putfield idx, 3)) (kk : ez_Z X N R (em_pI M o k x) mc ms (pc + 3) lv st) : ez_Z X N R M mc ms pc lv (.int x :: .ref (ez_B X + o) :: st) := by
  obtain ⟨p, l, e, Rm, s, m, args, below, meth, c, nL, D, B, Q⟩ := X
  intro H locs ls h1 h2 h3
  refine va_putF hX.1 hX.2.1 hX.2.2.2.2.1 hin ty0 hty0 hnm hX.2.2.2.1 hX.2.2.2.2.2.1.1 h1 em_wsD h2 o (fs := (List.range n).map (em_v B R M ci o)) ((em_ws_get ho).trans (congrArg (fun e => some (B + o, e)) (em_ce_obj hkd hc20))) hci k hk (hX.2.2.2.2.1 _ hw) (fun _ q => q) hfin hname hdecl (ty := ty0 k) (hty0 k hk) hn hfit (by simp; exact hk) hd (fun H1 locs1 g1 _ g3 => ?_)
  refine kk H1 locs1 ls ?_ g3 h3
  rw [em_fs_set (g := em_v B R (em_pI M o k x) ci o) (by simp only [em_v, hty, if_true, em_pI_self, upd]) (fun j hj => by simp only [em_v, em_pI_self, upd, if_neg hj]; rfl)] at g1
  rw [em_ws_set (R := R) (M := M) (R' := R) (M' := (em_pI M o k x)) (by rw [em_ce_obj hkd hc20]) (fun q hq => em_ce_same (em_pI_ne M k x hq) rfl rfl)] at g1
  exact g1

theorem ez_putFr {X : em_X} {cc : ByteArray} {own : String} {N : Nat} {R : em_Rt} {M : em_M} {mc ms pc : Nat} {lv : List (Nat × Value)} {st : List Value} (hX : ez_ok X cc own) {ci n k idx o : Nat} {C : String} {T : u_T} (hkd : em_kd o = (ci, n)) (hci : vwCl[ci]? = some (C, T, n)) (hc20 : ci < 20) (ho : o < N) (hk : k < n) (hin : ∀ w ∈ u_ws C T n, w ∈ em_tb) (ty0 : Nat → FieldType) (hty0 : ∀ k, k < n → parseFieldDescriptor (T k).2.2.1 = some (ty0 k)) (hnm : ∀ a, a < n → ∀ b, b < n → a ≠ b → (T a).2.1 ≠ (T b).2.1) (x : Nat)  (hty : em_tc (em_ty ci k) = 2) (hw : Cond.fieldLink own idx (T k).1 (T k).2.1 (T k).2.2.1 ∈ em_tb) (hfin : (T k).2.2.2 = true) (hname : ez_name X = "<init>") (hdecl : (T k).1 = own) (hn : narrow (ty0 k) (.ref (ez_B X + x)) = .ref (ez_B X + x)) (hfit : fits (ty0 k) (.ref (ez_B X + x)) = true) (hd : decode cc pc = .ok (.putfield idx, 3)) (kk : ez_Z X N (em_pR R o k (some x)) M mc ms (pc + 3) lv st) : ez_Z X N R M mc ms pc lv (.ref (ez_B X + x) :: .ref (ez_B X + o) :: st) := by
  obtain ⟨p, l, e, Rm, s, m, args, below, meth, c, nL, D, B, Q⟩ := X
  intro H locs ls h1 h2 h3
  refine va_putF hX.1 hX.2.1 hX.2.2.2.2.1 hin ty0 hty0 hnm hX.2.2.2.1 hX.2.2.2.2.2.1.1 h1 em_wsD h2 o (fs := (List.range n).map (em_v B R M ci o)) ((em_ws_get ho).trans (congrArg (fun e => some (B + o, e)) (em_ce_obj hkd hc20))) hci k hk (hX.2.2.2.2.1 _ hw) (fun _ q => q) hfin hname hdecl (ty := ty0 k) (hty0 k hk) hn hfit (by simp; exact hk) hd (fun H1 locs1 g1 _ g3 => ?_)
  refine kk H1 locs1 ls ?_ g3 h3
  rw [em_fs_set (g := em_v B (em_pR R o k (some x)) M ci o) (by show _ = Value.ref (B + x); simp [em_v, hty, em_pR_self, va_up, em_rf, va_rf]) (fun j hj => by simp only [em_v, em_pR_self, va_up, if_neg hj])] at g1
  rw [em_ws_set (R := R) (M := M) (R' := (em_pR R o k (some x))) (M' := M) (by rw [em_ce_obj hkd hc20]) (fun q hq => em_ce_same rfl rfl (em_pR_ne R k (some x) hq))] at g1
  exact g1

theorem ez_iald {X : em_X} {cc : ByteArray} {own : String} {N : Nat} {R : em_Rt} {M : em_M} {mc ms pc : Nat} {lv : List (Nat × Value)} {st : List Value} (hX : ez_ok X cc own) {o n : Nat} (hkd : em_kd o = (20, n)) (ho : o < N) {i : Int32} (hi : vp_in i n) (hd : decode cc pc = .ok (.iaload, 1)) (kk : ez_Z X N R M mc ms (pc + 1) lv (.int (M.1 o i.toNatClampNeg) :: st)) : ez_Z X N R M mc ms pc lv (.int i :: .ref (ez_B X + o) :: st) := by
  obtain ⟨p, l, e, Rm, s, m, args, below, meth, c, nL, D, B, Q⟩ := X
  intro H locs ls h1 h2 h3
  exact va_iald hX.1 hX.2.1 hX.2.2.2.2.2.1.1 h1 o 0 ((em_ws_get ho).trans (congrArg (fun e => some (B + o, e)) (em_ce_I hkd))) rfl hi hd (kk H locs ls h1 h2 h3)

theorem ez_lald {X : em_X} {cc : ByteArray} {own : String} {N : Nat} {R : em_Rt} {M : em_M} {mc ms pc : Nat} {lv : List (Nat × Value)} {st : List Value} (hX : ez_ok X cc own) {o n : Nat} (hkd : em_kd o = (21, n)) (ho : o < N) {i : Int32} (hi : vp_in i n) (hd : decode cc pc = .ok (.laload, 1)) (kk : ez_Z X N R M mc ms (pc + 1) lv (.long (M.2 o i.toNatClampNeg) :: st)) : ez_Z X N R M mc ms pc lv (.int i :: .ref (ez_B X + o) :: st) := by
  obtain ⟨p, l, e, Rm, s, m, args, below, meth, c, nL, D, B, Q⟩ := X
  intro H locs ls h1 h2 h3
  exact va_lald hX.1 hX.2.1 hX.2.2.2.2.2.1.1 h1 o 1 ((em_ws_get ho).trans (congrArg (fun e => some (B + o, e)) (em_ce_J hkd))) rfl hi hd (kk H locs ls h1 h2 h3)

theorem ez_aald {X : em_X} {cc : ByteArray} {own : String} {N : Nat} {R : em_Rt} {M : em_M} {mc ms pc : Nat} {lv : List (Nat × Value)} {st : List Value} (hX : ez_ok X cc own) {o n : Nat} (hkd : em_kd o = (22, n)) (ho : o < N) {i : Int32} (o' : Nat) (hi : vp_in i n) (hr : R o i.toNatClampNeg = some o') (hd : decode cc pc = .ok (.aaload, 1)) (kk : ez_Z X N R M mc ms (pc + 1) lv (.ref (ez_B X + o') :: st)) : ez_Z X N R M mc ms pc lv (.int i :: .ref (ez_B X + o) :: st) := by
  obtain ⟨p, l, e, Rm, s, m, args, below, meth, c, nL, D, B, Q⟩ := X
  intro H locs ls h1 h2 h3
  refine va_aldq hX.1 hX.2.1 hX.2.2.2.2.2.1.1 h1 o 2 ((em_ws_get ho).trans (congrArg (fun e => some (B + o, e)) (em_ce_T hkd))) rfl hi hd ?_
  rw [hr]
  exact kk H locs ls h1 h2 h3

theorem ez_iast {X : em_X} {cc : ByteArray} {own : String} {N : Nat} {R : em_Rt} {M : em_M} {mc ms pc : Nat} {lv : List (Nat × Value)} {st : List Value} (hX : ez_ok X cc own) {o n : Nat} (hkd : em_kd o = (20, n)) (ho : o < N) {i : Int32} {x : Int32} (hi : vp_in i n) (hd : decode cc pc = .ok (.iastore, 1)) (kk : ez_Z X N R (em_pI M o i.toNatClampNeg x) mc ms (pc + 1) lv st) : ez_Z X N R M mc ms pc lv (.int x :: .int i :: .ref (ez_B X + o) :: st) := by
  obtain ⟨p, l, e, Rm, s, m, args, below, meth, c, nL, D, B, Q⟩ := X
  intro H locs ls h1 h2 h3
  refine va_iast hX.1 hX.2.1 hX.2.2.2.2.2.1.1 h1 em_wsD h2 o 0 ((em_ws_get ho).trans (congrArg (fun e => some (B + o, e)) (em_ce_I hkd))) rfl hi hd (fun H1 locs1 g1 _ g3 => ?_)
  refine kk H1 locs1 ls ?_ g3 h3
  rw [em_ws_set (R := R) (M := M) (R' := R) (M' := (em_pI M o i.toNatClampNeg x)) (by rw [em_ce_I hkd, em_pI_self]) (fun q hq => em_ce_same (em_pI_ne M _ x hq) rfl rfl)] at g1
  exact g1

theorem ez_last {X : em_X} {cc : ByteArray} {own : String} {N : Nat} {R : em_Rt} {M : em_M} {mc ms pc : Nat} {lv : List (Nat × Value)} {st : List Value} (hX : ez_ok X cc own) {o n : Nat} (hkd : em_kd o = (21, n)) (ho : o < N) {i : Int32} {x : Int64} (hi : vp_in i n) (hd : decode cc pc = .ok (.lastore, 1)) (kk : ez_Z X N R (em_pL M o i.toNatClampNeg x) mc ms (pc + 1) lv st) : ez_Z X N R M mc ms pc lv (.long x :: .int i :: .ref (ez_B X + o) :: st) := by
  obtain ⟨p, l, e, Rm, s, m, args, below, meth, c, nL, D, B, Q⟩ := X
  intro H locs ls h1 h2 h3
  refine va_last hX.1 hX.2.1 hX.2.2.2.2.2.1.1 h1 em_wsD h2 o 1 ((em_ws_get ho).trans (congrArg (fun e => some (B + o, e)) (em_ce_J hkd))) rfl hi hd (fun H1 locs1 g1 _ g3 => ?_)
  refine kk H1 locs1 ls ?_ g3 h3
  rw [em_ws_set (R := R) (M := M) (R' := R) (M' := (em_pL M o i.toNatClampNeg x)) (by rw [em_ce_J hkd, em_pL_self]) (fun q hq => em_ce_same rfl (em_pL_ne M _ x hq) rfl)] at g1
  exact g1

theorem ez_aast {X : em_X} {cc : ByteArray} {own : String} {N : Nat} {R : em_Rt} {M : em_M} {mc ms pc : Nat} {lv : List (Nat × Value)} {st : List Value} (hX : ez_ok X cc own) {o n : Nat} (hkd : em_kd o = (22, n)) (ho : o < N) {i : Int32} {v : Nat} (hi : vp_in i n) (hv : v < N) (hkv : em_kd v = (8, 3)) (hd : decode cc pc = .ok (.aastore, 1)) (kk : ez_Z X N (em_pR R o i.toNatClampNeg (some v)) M mc ms (pc + 1) lv st) : ez_Z X N R M mc ms pc lv (.ref (ez_B X + v) :: .int i :: .ref (ez_B X + o) :: st) := by
  obtain ⟨p, l, e, Rm, s, m, args, below, meth, c, nL, D, B, Q⟩ := X
  intro H locs ls h1 h2 h3
  refine va_astq hX.1 hX.2.1 hX.2.2.2.2.2.1.1 h1 em_wsD h2 o 2 v 8 (v := B + v) (r := (RX8, TX8, 3)) ((em_ws_get ho).trans (congrArg (fun e => some (B + o, e)) (em_ce_T hkd))) rfl ((em_ws_get hv).trans (congrArg (fun e => some (B + v, e)) (em_ce_obj hkv (by decide)))) rfl hi hd (fun H1 locs1 g1 _ g3 => ?_)
  refine kk H1 locs1 ls ?_ g3 h3
  rw [em_ws_set (R := R) (M := M) (R' := em_pR R o i.toNatClampNeg (some v)) (M' := M) ?_ (fun q hq => em_ce_same rfl rfl (em_pR_ne R _ (some v) hq))] at g1
  · exact g1
  · rw [em_ce_T hkd, em_pR_self]
    have : (fun k => em_rf B (va_up (R o) i.toNatClampNeg (some v) k)) = va_up (fun k => em_rf B (R o k)) i.toNatClampNeg (some (B + v)) := by
      funext k
      unfold va_up
      split
      · rfl
      · rfl
    rw [this]

theorem ez_alenI {X : em_X} {cc : ByteArray} {own : String} {N : Nat} {R : em_Rt} {M : em_M} {mc ms pc : Nat} {lv : List (Nat × Value)} {st : List Value} (hX : ez_ok X cc own) {o n : Nat} (hkd : em_kd o = (20, n)) (ho : o < N) (v : Int32) (hv : Int32.ofNat n = v) (hd : decode cc pc = .ok (.arraylength, 1)) (kk : ez_Z X N R M mc ms (pc + 1) lv (.int v :: st)) : ez_Z X N R M mc ms pc lv (.ref (ez_B X + o) :: st) := by
  obtain ⟨p, l, e, Rm, s, m, args, below, meth, c, nL, D, B, Q⟩ := X
  intro H locs ls h1 h2 h3
  exact va_alen hX.1 hX.2.1 hX.2.2.2.2.2.1.1 h1 o 0 ((em_ws_get ho).trans (congrArg (fun e => some (B + o, e)) (em_ce_I hkd))) rfl hv hd (kk H locs ls h1 h2 h3)

theorem ez_alenJ {X : em_X} {cc : ByteArray} {own : String} {N : Nat} {R : em_Rt} {M : em_M} {mc ms pc : Nat} {lv : List (Nat × Value)} {st : List Value} (hX : ez_ok X cc own) {o n : Nat} (hkd : em_kd o = (21, n)) (ho : o < N) (v : Int32) (hv : Int32.ofNat n = v) (hd : decode cc pc = .ok (.arraylength, 1)) (kk : ez_Z X N R M mc ms (pc + 1) lv (.int v :: st)) : ez_Z X N R M mc ms pc lv (.ref (ez_B X + o) :: st) := by
  obtain ⟨p, l, e, Rm, s, m, args, below, meth, c, nL, D, B, Q⟩ := X
  intro H locs ls h1 h2 h3
  exact va_alen hX.1 hX.2.1 hX.2.2.2.2.2.1.1 h1 o 1 ((em_ws_get ho).trans (congrArg (fun e => some (B + o, e)) (em_ce_J hkd))) rfl hv hd (kk H locs ls h1 h2 h3)

theorem ez_alenT {X : em_X} {cc : ByteArray} {own : String} {N : Nat} {R : em_Rt} {M : em_M} {mc ms pc : Nat} {lv : List (Nat × Value)} {st : List Value} (hX : ez_ok X cc own) {o n : Nat} (hkd : em_kd o = (22, n)) (ho : o < N) (v : Int32) (hv : Int32.ofNat n = v) (hd : decode cc pc = .ok (.arraylength, 1)) (kk : ez_Z X N R M mc ms (pc + 1) lv (.int v :: st)) : ez_Z X N R M mc ms pc lv (.ref (ez_B X + o) :: st) := by
  obtain ⟨p, l, e, Rm, s, m, args, below, meth, c, nL, D, B, Q⟩ := X
  intro H locs ls h1 h2 h3
  exact va_alen hX.1 hX.2.1 hX.2.2.2.2.2.1.1 h1 o 2 ((em_ws_get ho).trans (congrArg (fun e => some (B + o, e)) (em_ce_T hkd))) rfl hv hd (kk H locs ls h1 h2 h3)

theorem ez_copyi {X : em_X} {cc : ByteArray} {own : String} {N : Nat} {R : em_Rt} {M : em_M} {mc ms pc : Nat} {lv : List (Nat × Value)} {st : List Value} (hX : ez_ok X cc own) {o o2 n n2 idx : Nat} (hkd : em_kd o = (20, n)) (ho : o < N) (hkd2 : em_kd o2 = (20, n2)) (ho2 : o2 < N) (hl : Cond.methodLink own idx arraycopyName ∈ em_tb) {sp dp len : Int32} (g1 : ¬ sp < 0) (g2 : ¬ dp < 0) (g3 : ¬ len < 0) (g4 : sp.toNatClampNeg + len.toNatClampNeg ≤ n) (g5 : dp.toNatClampNeg + len.toNatClampNeg ≤ n2) (hR : 1 ≤ (ez_rm X).frames ∧ (st.map fun v => v.category).sum + (nativeFrameWords "java/lang/System" "arraycopy" 5 + 11) ≤ (ez_rm X).locals) (hd : decode cc pc = .ok (.invokestatic idx, 3)) (kk : ez_Z X N R (em_cI M o o2 sp.toNatClampNeg dp.toNatClampNeg len.toNatClampNeg) mc ms (pc + 3) lv st) : ez_Z X N R M mc ms pc lv (.int len :: .int dp :: .ref (ez_B X + o2) :: .int sp :: .ref (ez_B X + o) :: st) := by
  obtain ⟨p, l, e, Rm, s, m, args, below, meth, c, nL, D, B, Q⟩ := X
  intro H locs ls h1 h2 h3
  refine va_copyi hX.1 hX.2.1 (by rw [hX.2.2.1]; exact h3.1.symm) hX.2.2.2.1 (hX.2.2.2.2.1 _ hl) (hX.2.2.2.2.1 _ wt_arraycopyName) (hX.2.2.2.2.1 _ ws_arraycopyName) (hX.2.2.2.2.1 _ wi_System) hX.2.2.2.2.2.1.1 h1 em_wsD h2 o o2 0 0 ((em_ws_get ho).trans (congrArg (fun e => some (B + o, e)) (em_ce_I hkd))) ((em_ws_get ho2).trans (congrArg (fun e => some (B + o2, e)) (em_ce_I hkd2))) rfl rfl rfl g1 g2 g3 g4 g5 (fun _ _ => rfl) hR.1 hR.2 hd (fun H1 locs1 f1 _ f3 => ?_)
  refine kk H1 locs1 ls ?_ f3 h3
  rw [em_ws_set (R := R) (M := M) (R' := R) (M' := em_cI M o o2 sp.toNatClampNeg dp.toNatClampNeg len.toNatClampNeg) (by rw [em_ce_I hkd2]; simp [em_cI]) (fun q hq => em_ce_same (by simp [em_cI, hq]) (by simp [em_cI, hq]) rfl)] at f1
  exact f1

theorem ez_copyl {X : em_X} {cc : ByteArray} {own : String} {N : Nat} {R : em_Rt} {M : em_M} {mc ms pc : Nat} {lv : List (Nat × Value)} {st : List Value} (hX : ez_ok X cc own) {o o2 n n2 idx : Nat} (hkd : em_kd o = (21, n)) (ho : o < N) (hkd2 : em_kd o2 = (21, n2)) (ho2 : o2 < N) (hl : Cond.methodLink own idx arraycopyName ∈ em_tb) {sp dp len : Int32} (g1 : ¬ sp < 0) (g2 : ¬ dp < 0) (g3 : ¬ len < 0) (g4 : sp.toNatClampNeg + len.toNatClampNeg ≤ n) (g5 : dp.toNatClampNeg + len.toNatClampNeg ≤ n2) (hR : 1 ≤ (ez_rm X).frames ∧ (st.map fun v => v.category).sum + (nativeFrameWords "java/lang/System" "arraycopy" 5 + 11) ≤ (ez_rm X).locals) (hd : decode cc pc = .ok (.invokestatic idx, 3)) (kk : ez_Z X N R (em_cL M o o2 sp.toNatClampNeg dp.toNatClampNeg len.toNatClampNeg) mc ms (pc + 3) lv st) : ez_Z X N R M mc ms pc lv (.int len :: .int dp :: .ref (ez_B X + o2) :: .int sp :: .ref (ez_B X + o) :: st) := by
  obtain ⟨p, l, e, Rm, s, m, args, below, meth, c, nL, D, B, Q⟩ := X
  intro H locs ls h1 h2 h3
  refine va_copyl hX.1 hX.2.1 (by rw [hX.2.2.1]; exact h3.1.symm) hX.2.2.2.1 (hX.2.2.2.2.1 _ hl) (hX.2.2.2.2.1 _ wt_arraycopyName) (hX.2.2.2.2.1 _ ws_arraycopyName) (hX.2.2.2.2.1 _ wi_System) hX.2.2.2.2.2.1.1 h1 em_wsD h2 o o2 1 1 ((em_ws_get ho).trans (congrArg (fun e => some (B + o, e)) (em_ce_J hkd))) ((em_ws_get ho2).trans (congrArg (fun e => some (B + o2, e)) (em_ce_J hkd2))) rfl rfl rfl g1 g2 g3 g4 g5 (fun _ _ => rfl) hR.1 hR.2 hd (fun H1 locs1 f1 _ f3 => ?_)
  refine kk H1 locs1 ls ?_ f3 h3
  rw [em_ws_set (R := R) (M := M) (R' := R) (M' := em_cL M o o2 sp.toNatClampNeg dp.toNatClampNeg len.toNatClampNeg) (by rw [em_ce_J hkd2]; simp [em_cL]) (fun q hq => em_ce_same (by simp [em_cL, hq]) (by simp [em_cL, hq]) rfl)] at f1
  exact f1

theorem ez_mmax {X : em_X} {cc : ByteArray} {own : String} {N : Nat} {R : em_Rt} {M : em_M} {mc ms pc : Nat} {lv : List (Nat × Value)} {st : List Value} (hX : ez_ok X cc own) {idx : Nat} (hl : Cond.methodLink own idx Lib.Math.max.name ∈ em_tb) {x y : Int32} (hR : 1 ≤ (ez_rm X).frames ∧ (st.map fun v => v.category).sum + 13 ≤ (ez_rm X).locals ∧ mc ≤ (ez_rm X).cells ∧ ms ≤ (ez_rm X).slots) (hd : decode cc pc = .ok (.invokestatic idx, 3)) (kk : ez_Z X N R M mc ms (pc + 3) lv (.int (if x < y then y else x) :: st)) : ez_Z X N R M mc ms pc lv (.int y :: .int x :: st) := by
  obtain ⟨p, l, e, Rm, s, m, args, below, meth, c, nL, D, B, Q⟩ := X
  intro H locs ls h1 h2 h3
  exact va_mmax hX.1 hX.2.1 (by rw [hX.2.2.1]; exact h3.1.symm) hX.2.2.2.1 (hX.2.2.2.2.1 _ hl) (hX.2.2.2.2.1 _ ws_Lib_Math_max_name) (hX.2.2.2.2.1 _ wi_Math) (hX.2.2.2.2.1 _ wd_Lib_Math_max_name) hR.1 hR.2.1 hR.2.2.1 hR.2.2.2 hd (kk H locs ls h1 h2 h3)

theorem ez_mmin {X : em_X} {cc : ByteArray} {own : String} {N : Nat} {R : em_Rt} {M : em_M} {mc ms pc : Nat} {lv : List (Nat × Value)} {st : List Value} (hX : ez_ok X cc own) {idx : Nat} (hl : Cond.methodLink own idx Lib.Math.min.name ∈ em_tb) {x y : Int32} (hR : 1 ≤ (ez_rm X).frames ∧ (st.map fun v => v.category).sum + 13 ≤ (ez_rm X).locals ∧ mc ≤ (ez_rm X).cells ∧ ms ≤ (ez_rm X).slots) (hd : decode cc pc = .ok (.invokestatic idx, 3)) (kk : ez_Z X N R M mc ms (pc + 3) lv (.int (if y < x then y else x) :: st)) : ez_Z X N R M mc ms pc lv (.int y :: .int x :: st) := by
  obtain ⟨p, l, e, Rm, s, m, args, below, meth, c, nL, D, B, Q⟩ := X
  intro H locs ls h1 h2 h3
  exact va_mmin hX.1 hX.2.1 (by rw [hX.2.2.1]; exact h3.1.symm) hX.2.2.2.1 (hX.2.2.2.2.1 _ hl) (hX.2.2.2.2.1 _ ws_Lib_Math_min_name) (hX.2.2.2.2.1 _ wi_Math) (hX.2.2.2.2.1 _ wd_Lib_Math_min_name) hR.1 hR.2.1 hR.2.2.1 hR.2.2.2 hd (kk H locs ls h1 h2 h3)

theorem ez_size {X : em_X} {N0 N : Nat} {R : em_Rt} {M : em_M} {mc : Nat} {H : Heap} {locs : List Loc} (hsz : (ez_s X).heap.size = ez_B X + N0) (hmc : N0 + mc = N) (h1 : va_P ((ez_D X).1, (ez_D X).2.1) vwCl (em_ws (ez_D X) (ez_B X) N R M) H) (h2 : va_S (fun q => ez_B X ≤ q) (ez_s X).heap H locs) (h4 : H.size ≤ (ez_s X).heap.size + mc) : H.size = ez_B X + N := by
  have h5 := h2.1
  cases N with
  | zero => omega
  | succ n =>
    have h6 := (h1 n _ (em_ws_get (Nat.lt_succ_self n))).lt
    simp only at h6
    omega
theorem ez_sized {p : Program} {l : Launch} {e : Env} {R : Room} {s : State} {m : MethodId} {args : Array Value} {below : List Frame} {meth : Method} {c : Code} {H : Heap} {locs : List Loc} {cells slots : Nat} {Q : State → Prop} {g : JFrame} (k : H.size ≤ s.heap.size + cells → W p l e R s m args below meth c H locs cells slots Q g) : W p l e R s m args below meth c H locs cells slots Q g := by
  intro T hT X
  exact k (by rw [← hT]; exact X.heapSize) T hT X

theorem ez_new {X : em_X} {cc : ByteArray} {own : String} {N : Nat} {R : em_Rt} {M : em_M} {mc ms pc : Nat} {lv : List (Nat × Value)} {st : List Value} (hX : ez_ok X cc own) {ci n idx N0 : Nat} {C : String} {T : u_T} (hsz : (ez_s X).heap.size = ez_B X + N0) (hmc : N0 + mc = N) (hkd : em_kd N = (ci, n)) (hc20 : ci < 20) (hci : vwCl[ci]? = some (C, T, n)) (hin : ∀ w ∈ u_ws C T n, w ∈ em_tb) (ty0 : Nat → FieldType) (hty0 : ∀ k, k < n → parseFieldDescriptor (T k).2.2.1 = some (ty0 k)) (hdef : ∀ j, j < n → defaultValue (ty0 j) = em_v (ez_B X) R M ci N j) (hcl : Cond.classLink own idx C ∈ em_tb) (hins : Cond.instantiable C n ∈ em_tb) (hini : Cond.initialized C ∈ em_tb) (hR : mc + 1 ≤ (ez_rm X).cells ∧ ms + n ≤ (ez_rm X).slots) (hd : decode cc pc = .ok (.new idx, 3)) (kk : ez_Z X (N + 1) R M (mc + 1) (ms + n) (pc + 3) lv (.ref (ez_B X + N) :: st)) : ez_Z X N R M mc ms pc lv st := by
  obtain ⟨p, l, e, Rm, s, m, args, below, meth, c, nL, D, B, Q⟩ := X
  intro H locs ls h1 h2 h3
  refine ez_sized (fun h4 => ?_)
  have hs : H.size = B + N := ez_size (X := (p, l, e, Rm, s, m, args, below, meth, c, nL, D, B, Q)) hsz hmc h1 h2 h4
  have hKn := hX.2.2.2.2.2.1.1.1 ci _ hci
  refine W.newcK hX.1 hX.2.1 hX.2.2.2.1 (hX.2.2.2.2.1 _ hcl) (hX.2.2.2.2.1 _ hins) (hX.2.2.2.2.1 _ hini) rfl hd hR.1 hR.2 hKn.2.1 hs fun H1 kC hkC e1 z1 o1 => ?_
  refine kk H1 locs ls ?_ ⟨Nat.le_trans h2.1 (by omega), fun x g1 g2 => (o1 x (by have := h2.1; omega)).trans (h2.2.1 x g1 g2), h2.2.2⟩ h3
  have hk : ∀ (k : Nat) (x : Nat × va_E), (em_ws D B N R M)[k]? = some x → H1[x.1]? = H[x.1]? := fun k x hx => o1 x.1 (by obtain ⟨g1, rfl⟩ := em_ws_inv hx; simp only; omega)
  rw [← em_ws_push (R := R) (M := M) (e := .inr (ci, (List.range n).map (em_v B R M ci N))) (by rw [em_ce_obj hkd hc20]) (fun _ _ => rfl)]
  refine (h1.kept hk).app (fun k x hx => ?_)
  have hz : k < 1 := (List.getElem?_eq_some_iff.mp hx).1
  rw [show k = 0 by omega] at hx
  cases hx
  refine ⟨_, hci, (u_born ty0 hX.2.2.2.2.1 hin hKn hkC e1 hty0).to (fun j hj => ?_)⟩
  rw [hdef j hj]
  simp [vp_V, hj]
  rfl

theorem ez_newI {X : em_X} {cc : ByteArray} {own : String} {N : Nat} {R : em_Rt} {M : em_M} {mc ms pc : Nat} {lv : List (Nat × Value)} {st : List Value} (hX : ez_ok X cc own) {n N0 : Nat} {x : Int32} (hsz : (ez_s X).heap.size = ez_B X + N0) (hmc : N0 + mc = N) (hkd : em_kd N = (20, n)) (hx : ¬ x < 0 ∧ x.toNatClampNeg = n ∧ n ≤ 10000) (hz : ∀ j, M.1 N j = 0) (hR : mc + 1 ≤ (ez_rm X).cells ∧ ms + n ≤ (ez_rm X).slots) (hd : decode cc pc = .ok (.newarray .int, 2)) (kk : ez_Z X (N + 1) R M (mc + 1) (ms + n) (pc + 2) lv (.ref (ez_B X + N) :: st)) : ez_Z X N R M mc ms pc lv (.int x :: st) := by
  obtain ⟨p, l, e, Rm, s, m, args, below, meth, c, nL, D, B, Q⟩ := X
  intro H locs ls h1 h2 h3
  refine ez_sized (fun h4 => ?_)
  have hs : H.size = B + N := ez_size (X := (p, l, e, Rm, s, m, args, below, meth, c, nL, D, B, Q)) hsz hmc h1 h2 h4
  refine va_newaK (atype := .int) hX.1 hX.2.1 (hX.2.2.2.2.1 _ wa_int) rfl hd rfl hx.1 hx.2.1 (by show n * 4 ≤ 536870912; omega) hR.1 hR.2 hs fun H1 cA e1 z1 o1 hAr hNm => ?_
  have hcA : cA = D.2.2.1 := Option.some.inj (hNm.symm.trans (hX.2.2.2.2.2.1.1.2 0 _ rfl).2)
  subst hcA
  refine kk H1 locs ls ?_ ⟨Nat.le_trans h2.1 (by omega), fun x g1 g2 => (o1 x (by have := h2.1; omega)).trans (h2.2.1 x g1 g2), h2.2.2⟩ h3
  have hk : ∀ (k : Nat) (x : Nat × va_E), (em_ws D B N R M)[k]? = some x → H1[x.1]? = H[x.1]? := fun k x hx => o1 x.1 (by obtain ⟨g1, rfl⟩ := em_ws_inv hx; simp only; omega)
  rw [← em_ws_push (R := R) (M := M) (e := .inl (D.2.2.1, n, .inl (M.1 N))) (by rw [em_ce_I hkd]) (fun _ _ => rfl)]
  refine (h1.kept hk).app (fun k x hx => ?_)
  have hz1 : k < 1 := (List.getElem?_eq_some_iff.mp hx).1
  rw [show k = 0 by omega] at hx
  cases hx
  show H1[B + N]? = some (vp_cell _ _)
  rw [e1]
  first | rw [vp_cell_i] | rw [vp_cell_l]
  congr 2
  funext j
  rw [hz j]
  rfl

theorem ez_newJ {X : em_X} {cc : ByteArray} {own : String} {N : Nat} {R : em_Rt} {M : em_M} {mc ms pc : Nat} {lv : List (Nat × Value)} {st : List Value} (hX : ez_ok X cc own) {n N0 : Nat} {x : Int32} (hsz : (ez_s X).heap.size = ez_B X + N0) (hmc : N0 + mc = N) (hkd : em_kd N = (21, n)) (hx : ¬ x < 0 ∧ x.toNatClampNeg = n ∧ n ≤ 10000) (hz : ∀ j, M.2 N j = 0) (hR : mc + 1 ≤ (ez_rm X).cells ∧ ms + n ≤ (ez_rm X).slots) (hd : decode cc pc = .ok (.newarray .long, 2)) (kk : ez_Z X (N + 1) R M (mc + 1) (ms + n) (pc + 2) lv (.ref (ez_B X + N) :: st)) : ez_Z X N R M mc ms pc lv (.int x :: st) := by
  obtain ⟨p, l, e, Rm, s, m, args, below, meth, c, nL, D, B, Q⟩ := X
  intro H locs ls h1 h2 h3
  refine ez_sized (fun h4 => ?_)
  have hs : H.size = B + N := ez_size (X := (p, l, e, Rm, s, m, args, below, meth, c, nL, D, B, Q)) hsz hmc h1 h2 h4
  refine va_newaK (atype := .long) hX.1 hX.2.1 (hX.2.2.2.2.1 _ wa_long) rfl hd rfl hx.1 hx.2.1 (by show n * 8 ≤ 536870912; omega) hR.1 hR.2 hs fun H1 cA e1 z1 o1 hAr hNm => ?_
  have hcA : cA = D.2.2.2.1 := Option.some.inj (hNm.symm.trans (hX.2.2.2.2.2.1.1.2 1 _ rfl).2)
  subst hcA
  refine kk H1 locs ls ?_ ⟨Nat.le_trans h2.1 (by omega), fun x g1 g2 => (o1 x (by have := h2.1; omega)).trans (h2.2.1 x g1 g2), h2.2.2⟩ h3
  have hk : ∀ (k : Nat) (x : Nat × va_E), (em_ws D B N R M)[k]? = some x → H1[x.1]? = H[x.1]? := fun k x hx => o1 x.1 (by obtain ⟨g1, rfl⟩ := em_ws_inv hx; simp only; omega)
  rw [← em_ws_push (R := R) (M := M) (e := .inl (D.2.2.2.1, n, .inr (.inl (M.2 N)))) (by rw [em_ce_J hkd]) (fun _ _ => rfl)]
  refine (h1.kept hk).app (fun k x hx => ?_)
  have hz1 : k < 1 := (List.getElem?_eq_some_iff.mp hx).1
  rw [show k = 0 by omega] at hx
  cases hx
  show H1[B + N]? = some (vp_cell _ _)
  rw [e1]
  first | rw [vp_cell_i] | rw [vp_cell_l]
  congr 2
  funext j
  rw [hz j]
  rfl

theorem ez_newT {X : em_X} {cc : ByteArray} {own : String} {N : Nat} {R : em_Rt} {M : em_M} {mc ms pc : Nat} {lv : List (Nat × Value)} {st : List Value} (hX : ez_ok X cc own) {n N0 idx : Nat} {x : Int32} (hsz : (ez_s X).heap.size = ez_B X + N0) (hmc : N0 + mc = N) (hkd : em_kd N = (22, n)) (hx : ¬ x < 0 ∧ x.toNatClampNeg = n ∧ n ≤ 10000) (hz : ∀ j, R N j = none) (hcl : Cond.classLink own idx "EscapeFrames$Tape" ∈ em_tb) (hR : mc + 1 ≤ (ez_rm X).cells ∧ ms + n ≤ (ez_rm X).slots) (hd : decode cc pc = .ok (.anewarray idx, 3)) (kk : ez_Z X (N + 1) R M (mc + 1) (ms + n) (pc + 3) lv (.ref (ez_B X + N) :: st)) : ez_Z X N R M mc ms pc lv (.int x :: st) := by
  obtain ⟨p, l, e, Rm, s, m, args, below, meth, c, nL, D, B, Q⟩ := X
  intro H locs ls h1 h2 h3
  refine ez_sized (fun h4 => ?_)
  have hs : H.size = B + N := ez_size (X := (p, l, e, Rm, s, m, args, below, meth, c, nL, D, B, Q)) hsz hmc h1 h2 h4
  obtain ⟨hx0, hx1, hx2⟩ := hx
  subst hx1
  refine W.anew hX.1 hX.2.1 hX.2.2.2.1 (hX.2.2.2.2.1 _ hcl) (va_AO.use hX.2.2.2.2.2.1.2.1) rfl hd rfl hx0 (by omega) hR.1 hR.2 fun cA kA comp f1 f2 f3 f4 => ?_
  obtain ⟨kA', comp', f5, f6, f7, f8⟩ := (hX.2.2.2.2.2.1.1.2 2 _ rfl).2
  have hcA : cA = D.2.2.2.2 := by
    first | exact Option.some.inj (f1.symm.trans f8) | exact Option.some.inj (f4.symm.trans f8)
  subst hcA
  generalize hH1 : H.push ({ cls := D.2.2.2.2, slots := Array.replicate x.toNatClampNeg .null, vm := .none } : Cell) = H1
  have z1 : H1.size = H.size + 1 := by rw [← hH1, Array.size_push]
  have e1 : H1[H.size]? = some (arrV D.2.2.2.2 x.toNatClampNeg (fun _ => .null)) := by rw [← hH1, Array.getElem?_push_size, ← arrV_new]
  have o1 : ∀ q : Nat, q < H.size → H1[q]? = H[q]? := fun q hq => by rw [← hH1, Array.getElem?_push, if_neg (Nat.ne_of_lt hq)]
  have hk : ∀ (k : Nat) (x : Nat × va_E), (em_ws D B N R M)[k]? = some x → H1[x.1]? = H[x.1]? := fun k x hx => o1 x.1 (by obtain ⟨g1, rfl⟩ := em_ws_inv hx; simp only; omega)
  rw [hs]
  refine kk H1 locs ls ?_ ⟨Nat.le_trans h2.1 (by omega), fun x g1 g2 => (o1 x (by have := h2.1; omega)).trans (h2.2.1 x g1 g2), h2.2.2⟩ h3
  rw [← em_ws_push (R := R) (M := M) (e := .inl (D.2.2.2.2, x.toNatClampNeg, .inr (.inr (.inr (.inr (fun k => em_rf B (R N k))))))) (by rw [em_ce_T hkd]) (fun _ _ => rfl)]
  refine (h1.kept hk).app (fun k x hx => ?_)
  have hz1 : k < 1 := (List.getElem?_eq_some_iff.mp hx).1
  rw [show k = 0 by omega] at hx
  cases hx
  show H1[B + N]? = some (vp_cell _ _)
  rw [← hs, e1, vp_cell_q]
  congr 2
  funext j
  rw [hz j]
  rfl

theorem ez_objInit {X : em_X} {cc : ByteArray} {own : String} {N : Nat} {R : em_Rt} {M : em_M} {mc ms pc : Nat} {lv : List (Nat × Value)} {st : List Value} (hX : ez_ok X cc own) {idx : Nat} {x : Nat} (hl : Cond.methodLink own idx Lib.objectInit ∈ em_tb) (hR : 1 ≤ (ez_rm X).frames ∧ (st.map fun v => v.category).sum + 12 ≤ (ez_rm X).locals) (hd : decode cc pc = .ok (.invokespecial idx, 3)) (kk : ez_Z X N R M mc ms (pc + 3) lv st) : ez_Z X N R M mc ms pc lv (.ref x :: st) := by
  obtain ⟨p, l, e, Rm, s, m, args, below, meth, c, nL, D, B, Q⟩ := X
  intro H locs ls h1 h2 h3
  refine W.objInit hX.1 hX.2.1 hX.2.2.2.1 (hX.2.2.2.2.1 _ hl) (hX.2.2.2.2.1 _ wv_Lib_objectInit) (hX.2.2.2.2.1 _ wd_Lib_objectInit) rfl (by rw [hX.2.2.1]; exact h3.1) rfl hd hR.1 (by show 2 * 0 + _ + 12 ≤ _; have := hR.2; simp only [ez_rm] at this; omega) ?_
  exact kk H locs ls h1 h2 h3
