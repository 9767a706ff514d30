/-! the invariant: class memory C (objects < 118) against model memory G (objects ≥ 118) -/
theorem eq_pI (M : em_M) (o k : Nat) (v : Int32) (o' k' : Nat) : (em_pI M o k v).1 o' k' = if o' = o then (if k' = k then v else M.1 o' k') else M.1 o' k' := by
  unfold em_pI upd
  by_cases h : o' = o
  · subst h; simp
  · simp [h]
theorem eq_pI2 (M : em_M) (o k : Nat) (v : Int32) : (em_pI M o k v).2 = M.2 := rfl
theorem eq_pL1 (M : em_M) (o k : Nat) (v : Int64) : (em_pL M o k v).1 = M.1 := rfl
theorem eq_pL (M : em_M) (o k : Nat) (v : Int64) (o' k' : Nat) : (em_pL M o k v).2 o' k' = if o' = o then (if k' = k then v else M.2 o' k') else M.2 o' k' := by
  unfold em_pL vp_updL
  by_cases h : o' = o
  · subst h; simp
  · simp [h]
theorem eq_at {a n : Nat} {M : em_M} {i : Int32} {j : Nat} (h : i = nI j) (hj : j < n) (hn : n < 2 ^ 31) : et_X11_at a n M i = M.1 a j := by
  rw [h, et_X11_at, if_neg (nI_pos (by omega)), if_neg (show ¬ (Int32.ofNat n ≤ nI j) from nI_ge hj hn), nI_clamp (by omega)]
theorem eq_at_ {a n : Nat} {M : em_M} {i : Int32} {j : Nat} (h : i = nI j) (hj : j < n) (hn : n < 2 ^ 31) : et_X11_at_ a n M i = M.2 a j := by
  rw [h, et_X11_at_, if_neg (nI_pos (by omega)), if_neg (show ¬ (Int32.ofNat n ≤ nI j) from nI_ge hj hn), nI_clamp (by omega)]
theorem eq_put {a n : Nat} {M : em_M} {i v : Int32} {j : Nat} (h : i = nI j) (hj : j < n) (hn : n < 2 ^ 31) : et_X11_put a n M i v = em_pI M a j v := by
  rw [h, et_X11_put, if_neg (nI_pos (by omega)), if_neg (show ¬ (Int32.ofNat n ≤ nI j) from nI_ge hj hn), nI_clamp (by omega)]
theorem eq_put_ {a n : Nat} {M : em_M} {i : Int32} {v : Int64} {j : Nat} (h : i = nI j) (hj : j < n) (hn : n < 2 ^ 31) : et_X11_put_ a n M i v = em_pL M a j v := by
  rw [h, et_X11_put_, if_neg (nI_pos (by omega)), if_neg (show ¬ (Int32.ofNat n ≤ nI j) from nI_ge hj hn), nI_clamp (by omega)]
theorem eq_mul (a b : Nat) : nI a * nI b = nI (a * b) := (Int32.ofNat_mul a b).symm
theorem eq_lit (n : Nat) [OfNat Nat n] : (OfNat.ofNat n : Int32) = nI (OfNat.ofNat n) := rfl
/-- a value given to a name, and how it is laid down: a number, or an escape -/
def ep_Th (ne : Nat) (t : Int64) (ie v : Int32) : Prop :=
  (ie = 0 ∧ t = v.toInt64) ∨ (ie = 1 ∧ ∃ x, x < ne ∧ v = nI x ∧ t = 4294967296 + (nI x).toInt64)
/-- the text -/
def ep_Tx (C G : em_M) : Prop := ∃ n, n ≤ 100 ∧ C.1 9 0 = nI n ∧ G.1 118 11 = nI n ∧ ∀ k, k < n → ∃ c, c < 128 ∧ C.1 10 k = nI c ∧ G.1 127 k = nI c
/-- rows of two: those of the class at r, those of the row g from `base` on, counted at `many` -/
def ep_Rw (V : Int32 → Int32 → Prop) (r m : Nat) (g many base : Nat) (C G : em_M) : Prop :=
  ∃ n, n ≤ m ∧ C.1 r 0 = nI n ∧ G.1 g many = nI n ∧ ∀ k, k < n → C.1 (r + 1) k = G.1 g (base + 2 * k) ∧ C.1 (r + 2) k = G.1 g (base + 2 * k + 1) ∧ V (G.1 g (base + 2 * k)) (G.1 g (base + 2 * k + 1))
def ep_Vs (a _ : Int32) : Prop := ∃ n, n < 40 ∧ a = nI n
def ep_Vp (nl : Nat) (a b : Int32) : Prop := (a = nI 0 ∧ ∃ n, n < nl ∧ b = nI n) ∨ (a = nI 1 ∧ ∃ n, n < 4 ∧ b = nI n) ∨ (a = nI 2 ∧ ∃ n, n < 3 ∧ b = nI n)
def ep_Vb (a _ : Int32) : Prop := ∃ n, n < 4 ∧ a = nI n
/-- a tape -/
def ep_Tp (i : Nat) (C G : em_M) : Prop :=
  ∃ s, s ≤ 60 ∧ C.1 (106 + 2 * i) 0 = G.1 129 i ∧ C.1 (106 + 2 * i) 1 = nI s ∧ G.1 130 i = nI s ∧ (G.1 129 i = -1 ∨ ∃ q, q ≤ 4 ∧ G.1 129 i = nI q) ∧ ∀ k, k < 60 → C.2 (107 + 2 * i) k = G.2 131 (60 * i + k)
/-- part k of node e, and part k of the E -/
def ep_Pt (φ : Nat → Nat × Nat) (u : Nat) (C G : em_M) (e k : Nat) : Prop :=
  ∃ p, p < u ∧ C.1 4 (3 * e + k) = nI p ∧ (φ p).2 = 0 ∧ G.1 125 (5 * (φ e).1 + k) = nI (φ p).1
/-- kind, sign and number of parts of a node that is whole and no list -/
inductive ep_K : Nat → Nat → Nat → Prop
  | mul : ep_K 0 42 2
  | add : ep_K 0 43 2
  | sub : ep_K 0 45 2
  | les : ep_K 0 60 2
  | cho : ep_K 1 63 3
  | bin : ep_K 2 61 2
  | cal0 : ep_K 4 70 1
  | cal1 : ep_K 4 71 1
  | cal2 : ep_K 4 72 1
  | goi : ep_K 5 94 1
  | wri : ep_K 6 33 1
  | sto : ep_K 7 58 1
  | win : ep_K 8 37 3
  | cat : ep_K 13 64 1
def ep_Kn (k : Nat) : Prop := k = 2 ∨ k = 5 ∨ k = 7 ∨ k = 13
/-- node e of the class is E number (φ e).1 of the model, from its part (φ e).2 on -/
inductive ep_Nk (φ : Nat → Nat × Nat) (u : Nat) (C G : em_M) (e : Nat) : Prop
  | dg (hk : C.1 2 e = nI 11) (ho : (φ e).2 = 0) (hs : G.1 122 (φ e).1 = nI 48) (hn : G.1 124 (φ e).1 = nI 0) (hm : C.1 3 e = G.1 123 (φ e).1)
  | le (a : Nat) (hk : C.1 2 e = nI 12) (ho : (φ e).2 = 0) (hs : G.1 122 (φ e).1 = nI 97) (hn : G.1 124 (φ e).1 = nI 0) (ha : a < 4) (hm : C.1 3 e = nI a) (hm' : G.1 123 (φ e).1 = nI a)
  | li (n p : Nat) (hk : (C.1 2 e = nI 3 ∧ (φ e).2 = 0) ∨ (C.1 2 e = nI 14 ∧ 0 < (φ e).2)) (hs : G.1 122 (φ e).1 = nI 91) (hn : G.1 124 (φ e).1 = nI n) (hn5 : n ≤ 5) (ho : (φ e).2 < n)
      (hp : p < u) (h0 : C.1 4 (3 * e) = nI p) (hp0 : (φ p).2 = 0) (hp1 : G.1 125 (5 * (φ e).1 + (φ e).2) = nI (φ p).1)
      (hl : (φ e).2 + 1 = n → C.1 4 (3 * e + 1) = -1) (hr : (φ e).2 + 1 < n → ∃ q, q < u ∧ C.1 4 (3 * e + 1) = nI q ∧ φ q = ((φ e).1, (φ e).2 + 1))
  | no (kd sg np : Nat) (hK : ep_K kd sg np) (hk : C.1 2 e = nI kd) (ho : (φ e).2 = 0) (hs : G.1 122 (φ e).1 = nI sg) (hn : G.1 124 (φ e).1 = nI np) (hp : ∀ k, k < np → ep_Pt φ u C G e k)
      (hm : kd = 0 → C.1 3 e = nI sg) (hf : kd = 4 → C.1 3 e = nI (sg - 70)) (ha : ep_Kn kd → ∃ a, a < 4 ∧ C.1 3 e = nI a ∧ G.1 123 (φ e).1 = nI a)
structure ep_Ln (φ : Nat → Nat × Nat) (u nl : Nat) (C G : em_M) : Prop where
  n8 : nl ≤ 8
  hu : u ≤ 100 * nl
  sz : C.1 1 0 = nI nl
  sm : G.1 118 9 = nI nl
  us : C.1 1 1 = nI u
  hm : ∀ e, e < u → (φ e).1 < 101 * nl
  nd : ∀ e, e < u → ep_Nk φ u C G e
  ro : ∀ l, l < nl → ∃ e, e < u ∧ C.1 7 l = nI e ∧ φ e = (101 * l, 0)
  f0 : ∀ l, l < nl → C.1 8 (4 * l) = G.1 126 l ∧ ∃ n, n ≤ 101 ∧ G.1 126 l = nI n
  f1 : ∀ l, l < nl → C.1 8 (4 * l + 1) = et_X12_deepestR 9 G (nI (101 * l)) ∧ es_X12_deepestR 9 G (nI (101 * l))
  f2 : ∀ l, l < nl → C.1 8 (4 * l + 2) = et_X12_of_66 102 G (nI l) 0 0 ∧ es_X12_of_66 102 G (nI l) 0 0
  f3 : ∀ l, l < nl → C.1 8 (4 * l + 3) = et_X12_lastCallsR 9 G (nI (101 * l)) ∧ es_X12_lastCallsR 9 G (nI (101 * l))
  fz : ∀ k, 4 * nl ≤ k → k < 32 → C.1 8 k = 0
/-- the first WINDER beyond `row` on the row that ends with `kept`, 0: there is none -/
def ep_nx (bw : Nat → Nat) (row : Nat) : Nat → Nat → Nat
  | 0, _ => 0
  | fu + 1, kept => if kept = 0 then 0 else if bw kept = row then kept else ep_nx bw row fu (bw kept)
/-- what a RUN has made so far: how many frames, scopes, winders, escapes; what each frame, winder and escape hangs on -/
structure ep_H where
  nf : Nat
  ns : Nat
  nw : Nat
  ne : Nat
  fb : Nat → Nat
  W : Nat → Nat
  bw : Nat → Nat
  hw : Nat → Nat
  kc : Nat → Nat
  kw : Nat → Nat
/-- a frame at work on an E: sort, what is behind, the model's number -/
inductive ep_S : Nat → Nat → Nat → Prop
  | op0 : ep_S 0 0 0
  | op1 : ep_S 0 1 1
  | cho : ep_S 1 0 2
  | bin : ep_S 2 0 3
  | cal : ep_S 4 0 5
  | goi : ep_S 5 0 6
  | wri : ep_S 6 0 7
  | sto : ep_S 7 0 8
  | win0 : ep_S 8 0 9
  | win1 : ep_S 8 1 10
  | win2 : ep_S 8 2 11
inductive ep_Fk (φ : Nat → Nat × Nat) (u : Nat) (H : ep_H) (w g : Nat) (C G : em_M) (f : Nat) : Prop
  | no (so be wh e sc : Nat) (hS : ep_S so be wh) (hs : C.1 (w + 11) (f + 1) = nI so) (hb : C.1 (w + 12) (f + 1) = nI be) (hw : G.1 g (120 + 8 * f) = nI wh)
      (he : e < u) (hk : C.1 2 e = nI so) (he1 : C.1 (w + 13) (f + 1) = nI e) (he2 : G.1 g (120 + 8 * f + 1) = nI (φ e).1)
      (hc : sc ≤ H.ns) (hc1 : C.1 (w + 14) (f + 1) = nI sc) (hc2 : G.1 g (120 + 8 * f + 2) = nI sc - 1)
      (hW : H.fb (f + 1) ≠ 0 → be ≠ 1 ∨ so ≠ 8 → H.W (f + 1) = H.W (H.fb (f + 1)))
      (hW1 : so = 8 → be = 1 → 0 < H.W (f + 1) ∧ (H.fb (f + 1) ≠ 0 → H.bw (H.W (f + 1)) = H.W (H.fb (f + 1))))
      (hx : so = 5 → ∃ x, x < H.ne ∧ C.1 (w + 15) (f + 1) = nI x ∧ G.1 g (120 + 8 * f + 7) = nI x)
      (ht : wh = 1 ∨ wh = 11 → ep_Th H.ne (C.2 (w + 16) (f + 1)) (G.1 g (120 + 8 * f + 3)) (G.1 g (120 + 8 * f + 4)))
  | li (e sc q : Nat) (hs : C.1 (w + 11) (f + 1) = nI 3) (hw : G.1 g (120 + 8 * f) = nI 4)
      (he : e < u) (hq : q < u) (hk : C.1 4 (3 * e + 1) = nI q) (hq1 : φ q = ((φ e).1, (φ e).2 + 1)) (he1 : C.1 (w + 13) (f + 1) = nI e) (he2 : G.1 g (120 + 8 * f + 1) = nI (φ e).1)
      (hc : sc ≤ H.ns) (hc1 : C.1 (w + 14) (f + 1) = nI sc) (hc2 : G.1 g (120 + 8 * f + 2) = nI sc - 1)
      (hW : H.fb (f + 1) ≠ 0 → H.W (f + 1) = H.W (H.fb (f + 1)))
      (hx : G.1 g (120 + 8 * f + 7) = nI ((φ e).2 + 1))
  | wa (so wh x : Nat) (hs : C.1 (w + 11) (f + 1) = nI so) (hw : G.1 g (120 + 8 * f) = nI wh) (hsw : (so = 9 ∧ wh = 12) ∨ (so = 10 ∧ wh = 13))
      (hb : H.fb (f + 1) = 0) (hx : x < H.ne) (hx1 : C.1 (w + 15) (f + 1) = nI x) (hx2 : G.1 g (120 + 8 * f + 7) = nI x)
      (ht : ep_Th H.ne (C.2 (w + 16) (f + 1)) (G.1 g (120 + 8 * f + 3)) (G.1 g (120 + 8 * f + 4)))
      (hv : so = 10 → ∃ v, v < H.nw ∧ G.1 g (120 + 8 * f + 1) = nI v ∧ ep_nx H.bw (H.W (f + 1)) (H.kw x) (H.kw x) = v + 1)
/-- a RUN that stands still between two STEPS -/
structure ep_Rn (φ : Nat → Nat × Nat) (u : Nat) (H : ep_H) (s ch wi : Nat) (w g : Nat) (C G : em_M) : Prop where
  s3 : s < 300
  nf : H.nf ≤ s
  ns : H.ns ≤ s
  nw : H.nw ≤ s
  ne : H.ne ≤ s
  nf1 : C.1 (w + 8) 0 = nI (H.nf + 1)
  nf2 : G.1 g 21 = nI H.nf
  ns1 : C.1 (w + 6) 0 = nI (H.ns + 1)
  ns2 : G.1 g 22 = nI H.ns
  nw1 : C.1 (w + 17) 0 = nI (H.nw + 1)
  nw2 : G.1 g 23 = nI H.nw
  ne1 : C.1 (w + 3) 8 = nI H.ne
  ne2 : G.1 g 24 = nI H.ne
  ch0 : ch ≤ H.nf
  ch1 : C.1 (w + 3) 13 = nI ch
  ch2 : G.1 g 17 = nI ch - 1
  wi0 : wi ≤ H.nw
  wi1 : C.1 (w + 3) 14 = nI wi
  wi2 : G.1 g 18 = nI wi - 1
  cw : ch ≠ 0 → H.W ch = wi
  gi : (C.1 (w + 3) 9 = 0 ∧ G.1 g 13 = 0 ∧ ∃ e sc, e < u ∧ C.1 (w + 3) 10 = nI e ∧ G.1 g 14 = nI (φ e).1 ∧ G.1 g 15 = nI (φ e).2 ∧ sc ≤ H.ns ∧ C.1 (w + 3) 11 = nI sc ∧ G.1 g 16 = nI sc - 1) ∨
       (C.1 (w + 3) 9 = 1 ∧ G.1 g 13 = 1 ∧ ep_Th H.ne (C.2 (w + 3) 12) (G.1 g 19) (G.1 g 20))
  fh0 : C.1 (w + 10) 0 = 0
  fb : ∀ f, f < H.nf → H.fb (f + 1) ≤ f ∧ C.1 (w + 9) (f + 1) = nI (H.fb (f + 1)) ∧ G.1 g (120 + 8 * f + 5) = nI (H.fb (f + 1)) - 1
  fh : ∀ f, f < H.nf → ∃ h, h ≤ 40 ∧ C.1 (w + 10) (f + 1) = nI h ∧ G.1 g (120 + 8 * f + 6) = nI h
  fw : ∀ f, f < H.nf → H.W (f + 1) ≤ H.nw
  fk : ∀ f, f < H.nf → ep_Fk φ u H w g C G f
  sc0 : ∀ n, n < 4 → C.2 (w + 7) n = -9223372036854775808
  sc : ∀ t, t < H.ns → ∃ nm sb, nm < 4 ∧ sb ≤ t ∧ G.1 g (2680 + 4 * t) = nI nm ∧ G.1 g (2680 + 4 * t + 3) = nI sb - 1 ∧
      ep_Th H.ne (C.2 (w + 7) (4 * (t + 1) + nm)) (G.1 g (2680 + 4 * t + 1)) (G.1 g (2680 + 4 * t + 2)) ∧
      ∀ n, n < 4 → n ≠ nm → C.2 (w + 7) (4 * (t + 1) + n) = C.2 (w + 7) (4 * sb + n)
  wh0 : H.hw 0 = 0 ∧ C.1 (w + 19) 0 = 0
  wb : ∀ v, v < H.nw → H.bw (v + 1) ≤ v ∧ H.hw (v + 1) = H.hw (H.bw (v + 1)) + 1 ∧ H.hw (v + 1) ≤ v + 1 ∧ C.1 (w + 18) (v + 1) = nI (H.bw (v + 1)) ∧ C.1 (w + 19) (v + 1) = nI (H.hw (v + 1)) ∧ G.1 g (3960 + 4 * v + 2) = nI (H.bw (v + 1)) - 1
  we : ∀ v, v < H.nw → ∃ e sc, e < u ∧ C.1 2 e = nI 8 ∧ C.1 (w + 20) (v + 1) = nI e ∧ G.1 g (3960 + 4 * v) = nI (φ e).1 ∧ sc ≤ H.ns ∧ C.1 (w + 21) (v + 1) = nI sc ∧ G.1 g (3960 + 4 * v + 1) = nI sc - 1
  es : ∀ x, x < H.ne → H.kc x ≤ H.nf ∧ H.kw x ≤ H.nw ∧ (H.kc x ≠ 0 → H.W (H.kc x) = H.kw x) ∧ C.1 (w + 22) x = nI (H.kc x) ∧ C.1 (w + 23) x = nI (H.kw x) ∧ G.1 g (5240 + 2 * x) = nI (H.kc x) - 1 ∧ G.1 g (5240 + 2 * x + 1) = nI (H.kw x) - 1
/-- VALUES, FUNCTIONS and THE MACHINE -/
structure ep_Wd (φ : Nat → Nat × Nat) (u nl : Nat) (w g : Nat) (C G : em_M) : Prop where
  va : ∀ k, k < 4 → C.1 (w + 1) k = G.1 g k
  fu : ∀ k, k < 3 → C.1 (w + 2) k = G.1 g (4 + k) ∧ (G.1 g (4 + k) = -5 ∨ ∃ l, l < nl ∧ G.1 g (4 + k) = nI l)
  st : C.1 (w + 4) 0 = G.1 g 7
  sp : ∃ s, s ≤ 300 ∧ C.1 (w + 4) 1 = nI s ∧ G.1 g 10 = nI s
  dp : ∃ d, d ≤ 40 ∧ C.1 (w + 4) 2 = nI d ∧ G.1 g 11 = nI d
  sz : ∃ z, z ≤ 40 ∧ C.1 (w + 4) 3 = nI z ∧ G.1 g 12 = nI z ∧ ∀ k, k < z → C.1 (w + 5) k = G.1 g (74 + k)
  re : G.1 g 7 = 0 → ep_Th 300 (C.2 (w + 4) 5) (G.1 g 8) (G.1 g 9)
  gb : C.1 (w + 3) 9 = 0 ∨ C.1 (w + 3) 9 = 1
  ru : G.1 g 7 = -5 → ∃ H s ch wi, C.1 (w + 4) 1 = nI s ∧ ep_Rn φ u H s ch wi w g C G
structure ep_I (φ : Nat → Nat × Nat) (u nl : Nat) (C G : em_M) : Prop where
  ln : ep_Ln φ u nl C G
  tx : ep_Tx C G
  tp : ∀ i, i < 6 → ep_Tp i C G
  rs : ep_Rw ep_Vs 12 5 119 25 28 C G
  rp : ep_Rw (ep_Vp nl) 15 10 119 26 38 C G
  rb : ep_Rw ep_Vb 18 8 119 27 58 C G
  wd : ep_Wd φ u nl 21 119 C G
  im : C.1 0 4 = G.1 118 3 ∧ (G.1 118 3 = 0 ∨ G.1 118 3 = 1)
  iz : C.1 12 3 = nI 5 ∧ C.1 15 3 = nI 10 ∧ C.1 18 3 = nI 8
  is : C.1 46 3 = nI 5 ∧ C.1 49 3 = nI 10 ∧ C.1 52 3 = nI 8
  ig : C.1 58 9 = 0 ∨ C.1 58 9 = 1
  ii : G.1 118 3 = 1 → ep_Rw ep_Vs 46 5 121 25 28 C G ∧ ep_Rw (ep_Vp nl) 49 10 121 26 38 C G ∧ ep_Rw ep_Vb 52 8 121 27 58 C G ∧ ep_Wd φ u nl 55 121 C G
def ep_Inv (M : em_M) : Prop := ∃ φ u nl, ep_I φ u nl M M
