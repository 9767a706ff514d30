/-! one LINE more: what was there stays -/
def ep_Gw (φ D φ' D' : Nat → Nat × Nat) (u u' nl nl' : Nat) (C G C' G' : em_M) : Prop :=
  (u ≤ u') ∧
  (nl ≤ nl') ∧
  (∀ k, k < u → φ' k = φ k ∧ D' k = D k) ∧
  (∀ k, k < u → C'.1 2 k = C.1 2 k ∧ C'.1 3 k = C.1 3 k) ∧
  (∀ k, k < 3 * u → C'.1 4 k = C.1 4 k) ∧
  (∀ k, k < 101 * nl → G'.1 122 k = G.1 122 k ∧ G'.1 123 k = G.1 123 k ∧ G'.1 124 k = G.1 124 k) ∧
  (∀ k, k < 5 * (101 * nl) → G'.1 125 k = G.1 125 k)
theorem ep_Gw.uu {φ D φ' D' : Nat → Nat × Nat} {u u' nl nl' : Nat} {C G C' G' : em_M} (h : ep_Gw φ D φ' D' u u' nl nl' C G C' G') : u ≤ u' := h.1
theorem ep_Gw.ll {φ D φ' D' : Nat → Nat × Nat} {u u' nl nl' : Nat} {C G C' G' : em_M} (h : ep_Gw φ D φ' D' u u' nl nl' C G C' G') : nl ≤ nl' := h.2.1
theorem ep_Gw.ph {φ D φ' D' : Nat → Nat × Nat} {u u' nl nl' : Nat} {C G C' G' : em_M} (h : ep_Gw φ D φ' D' u u' nl nl' C G C' G') : ∀ k, k < u → φ' k = φ k ∧ D' k = D k := h.2.2.1
theorem ep_Gw.r2 {φ D φ' D' : Nat → Nat × Nat} {u u' nl nl' : Nat} {C G C' G' : em_M} (h : ep_Gw φ D φ' D' u u' nl nl' C G C' G') : ∀ k, k < u → C'.1 2 k = C.1 2 k ∧ C'.1 3 k = C.1 3 k := h.2.2.2.1
theorem ep_Gw.r4 {φ D φ' D' : Nat → Nat × Nat} {u u' nl nl' : Nat} {C G C' G' : em_M} (h : ep_Gw φ D φ' D' u u' nl nl' C G C' G') : ∀ k, k < 3 * u → C'.1 4 k = C.1 4 k := h.2.2.2.2.1
theorem ep_Gw.m2 {φ D φ' D' : Nat → Nat × Nat} {u u' nl nl' : Nat} {C G C' G' : em_M} (h : ep_Gw φ D φ' D' u u' nl nl' C G C' G') : ∀ k, k < 101 * nl → G'.1 122 k = G.1 122 k ∧ G'.1 123 k = G.1 123 k ∧ G'.1 124 k = G.1 124 k := h.2.2.2.2.2.1
theorem ep_Gw.m5 {φ D φ' D' : Nat → Nat × Nat} {u u' nl nl' : Nat} {C G C' G' : em_M} (h : ep_Gw φ D φ' D' u u' nl nl' C G C' G') : ∀ k, k < 5 * (101 * nl) → G'.1 125 k = G.1 125 k := h.2.2.2.2.2.2
theorem ep_Gw.mk {φ D φ' D' : Nat → Nat × Nat} {u u' nl nl' : Nat} {C G C' G' : em_M} (uu : u ≤ u') (ll : nl ≤ nl') (ph : ∀ k, k < u → φ' k = φ k ∧ D' k = D k) (r2 : ∀ k, k < u → C'.1 2 k = C.1 2 k ∧ C'.1 3 k = C.1 3 k) (r4 : ∀ k, k < 3 * u → C'.1 4 k = C.1 4 k) (m2 : ∀ k, k < 101 * nl → G'.1 122 k = G.1 122 k ∧ G'.1 123 k = G.1 123 k ∧ G'.1 124 k = G.1 124 k) (m5 : ∀ k, k < 5 * (101 * nl) → G'.1 125 k = G.1 125 k) : ep_Gw φ D φ' D' u u' nl nl' C G C' G' :=
  ⟨uu, ll, ph, r2, r4, m2, m5⟩
theorem ep_Nk_gw {φ D φ' D' : Nat → Nat × Nat} {u u' nl nl' : Nat} {C G C' G' : em_M} (w : ep_Gw φ D φ' D' u u' nl nl' C G C' G') {e : Nat} (he : e < u) (hm : (φ e).1 < 101 * nl) (h : ep_Nk φ u C G e) : ep_Nk φ' u' C' G' e := by
  have uu := w.uu
  have pe := (w.ph e he).1
  have c2 := w.r2 e he
  have g2 := w.m2 _ hm
  rcases h with q | ⟨a, q⟩ | ⟨n, p, q⟩ | ⟨kd, sg, np, q⟩
  · refine Or.inl (ep_Nd1.mk ?_ ?_ ?_ ?_ ?_)
    · rw [c2.1]; exact q.hk
    · rw [pe]; exact q.ho
    · rw [pe, g2.1]; exact q.hs
    · rw [pe, g2.2.2]; exact q.hn
    · rw [pe, c2.2, g2.2.1]; exact q.hm
  · refine Or.inr (Or.inl ⟨a, ep_Nd2.mk ?_ ?_ ?_ ?_ q.ha ?_ ?_⟩)
    · rw [c2.1]; exact q.hk
    · rw [pe]; exact q.ho
    · rw [pe, g2.1]; exact q.hs
    · rw [pe, g2.2.2]; exact q.hn
    · rw [c2.2]; exact q.hm
    · rw [pe, g2.2.1]; exact q.hm'
  · have n5 := q.hn5
    have on := q.ho
    have pp := (w.ph p q.hp).1
    refine Or.inr (Or.inr (Or.inl ⟨n, p, ep_Nd3.mk ?_ ?_ ?_ n5 ?_ (Nat.lt_of_lt_of_le q.hp uu) ?_ ?_ ?_ ?_ ?_⟩))
    · rw [c2.1, pe]; exact q.hk
    · rw [pe, g2.1]; exact q.hs
    · rw [pe, g2.2.2]; exact q.hn
    · rw [pe]; exact on
    · rw [w.r4 _ (by omega)]; exact q.h0
    · rw [pp]; exact q.hp0
    · rw [pe, pp, w.m5 _ (by omega)]; exact q.hp1
    · rw [pe, w.r4 _ (by omega)]; exact q.hl
    · rw [pe, w.r4 _ (by omega)]
      intro z
      obtain ⟨r, r1, r2, r3⟩ := q.hr z
      exact ⟨r, Nat.lt_of_lt_of_le r1 uu, r2, by rw [(w.ph r r1).1]; exact r3⟩
  · have np3 : np ≤ 3 := by have K := q.hK; unfold ep_K at K; omega
    refine Or.inr (Or.inr (Or.inr ⟨kd, sg, np, ep_Nd4.mk q.hK ?_ ?_ ?_ ?_ ?_ ?_ ?_ ?_⟩))
    · rw [c2.1]; exact q.hk
    · rw [pe]; exact q.ho
    · rw [pe, g2.1]; exact q.hs
    · rw [pe, g2.2.2]; exact q.hn
    · intro k hk
      obtain ⟨p, p1, p2, p3, p4⟩ := q.hp k hk
      have pp := (w.ph p p1).1
      refine ⟨p, Nat.lt_of_lt_of_le p1 uu, ?_, ?_, ?_⟩
      · rw [w.r4 _ (by omega)]; exact p2
      · rw [pp]; exact p3
      · rw [pe, pp, w.m5 _ (by omega)]; exact p4
    · intro z; rw [c2.2]; exact q.hm z
    · intro z; rw [c2.2]; exact q.hf z
    · intro z; rw [pe, c2.2, g2.2.1]; exact q.ha z
theorem ep_Dl_gw {φ D φ' D' : Nat → Nat × Nat} {u u' nl nl' : Nat} {C G C' G' : em_M} (w : ep_Gw φ D φ' D' u u' nl nl' C G C' G') (u8 : u ≤ 800) {e : Nat} (he : e < u) (h : ep_Nk φ u C G e) (hd : ep_Dl D C e) : ep_Dl D' C' e := by
  have de := (w.ph e he).2
  have c2 := w.r2 e he
  have pt : ∀ k, k < 3 → ep_pt C' e k = ep_pt C e k := fun k hk => by
    rw [ep_pt, ep_pt, w.r4 _ (by omega)]
  have dp : ∀ k p, k < 3 → C.1 4 (3 * e + k) = nI p → p < u → D' (ep_pt C' e k) = D (ep_pt C e k) := fun k p hk h1 h2 => by
    rw [pt k hk, ep_ptc h1 (by omega)]; exact (w.ph p h2).2
  obtain ⟨a1, a2, a3, a4, a5, a6, a7, a8, a9⟩ := hd
  rcases h with q | ⟨a, q⟩ | ⟨n, p, q⟩ | ⟨kd, sg, np, q⟩
  · refine ep_Dl_mk (kd := 11) (by rw [c2.1]; exact q.hk) (by omega) (fun _ => by rw [de]; exact a1 (Or.inl q.hk)) ?_ ?_ ?_ ?_ ?_ ?_ ?_ ?_
    all_goals exact fun z => absurd z (by omega)
  · refine ep_Dl_mk (kd := 12) (by rw [c2.1]; exact q.hk) (by omega) (fun _ => by rw [de]; exact a1 (Or.inr q.hk)) ?_ ?_ ?_ ?_ ?_ ?_ ?_ ?_
    all_goals exact fun z => absurd z (by omega)
  · obtain ⟨kd, kk, kd3⟩ : ∃ kd, C.1 2 e = nI kd ∧ (kd = 3 ∨ kd = 14) := by
      rcases q.hk with ⟨z, -⟩ | ⟨z, -⟩
      · exact ⟨3, z, Or.inl rfl⟩
      · exact ⟨14, z, Or.inr rfl⟩
    have on := q.ho
    have d0 := dp 0 p (by omega) q.h0 q.hp
    have A := a2 (by
      rcases kd3 with z | z
      · exact Or.inl (by rw [kk, z])
      · exact Or.inr (by rw [kk, z]))
    refine ep_Dl_mk (kd := kd) (by rw [c2.1]; exact kk) (by omega) (fun z => absurd z (by omega)) (fun _ => ?_) ?_ ?_ ?_ ?_ ?_ ?_ ?_
    case refine_1 =>
      rw [de, d0, w.r4 _ (by omega)]
      by_cases z : C.1 4 (3 * e + 1) = -1
      · rw [if_pos z] at A ⊢; exact A
      · have on2 : (φ e).2 + 1 < n := by
          by_cases y : (φ e).2 + 1 = n
          · exact absurd (q.hl y) z
          · omega
        obtain ⟨r, r1, r2, -⟩ := q.hr on2
        rw [if_neg z] at A ⊢
        rw [dp 1 r (by omega) r2 r1]; exact A
    all_goals exact fun z => absurd z (by omega)
  · have K := q.hK
    have np3 : np ≤ 3 := by unfold ep_K at K; omega
    have kb : kd < 20 ∧ kd ≠ 11 ∧ kd ≠ 12 ∧ kd ≠ 3 ∧ kd ≠ 14 ∧ 1 ≤ np ∧ (kd = 0 → np = 2) ∧ (kd = 1 → np = 3) ∧ (kd = 2 → np = 2) ∧ (kd = 8 → np = 3) := by unfold ep_K at K; omega
    have dq : ∀ k, k < np → D' (ep_pt C' e k) = D (ep_pt C e k) := fun k hk => by
      obtain ⟨p, p1, p2, -⟩ := q.hp k hk
      exact dp k p (by omega) p2 p1
    refine ep_Dl_mk (kd := kd) (by rw [c2.1]; exact q.hk) kb.1 (fun z => absurd z (by omega)) (fun z => absurd z (by omega)) (fun z => ?_) (fun z => ?_) (fun z => ?_) (fun z => ?_) (fun z => ?_) (fun z => ?_) (fun z => ?_)
    · rw [de, dq 0 (by omega)]; exact a3 (by rw [q.hk, z])
    · rw [de, dq 0 (by omega)]
      refine a4 ?_
      rcases z with z | z | z
      · exact Or.inl (by rw [q.hk, z])
      · exact Or.inr (Or.inl (by rw [q.hk, z]))
      · exact Or.inr (Or.inr (by rw [q.hk, z]))
    · rw [de, dq 0 (by omega)]; exact a5 (by rw [q.hk, z])
    · rw [de, dq 0 (by omega), dq 1 (by omega)]; exact a6 (by rw [q.hk, z])
    · rw [de, dq 0 (by omega), dq 1 (by omega)]; exact a7 (by rw [q.hk, z])
    · rw [de, dq 0 (by omega), dq 1 (by omega), dq 2 (by omega)]; exact a8 (by rw [q.hk, z])
    · rw [de, dq 0 (by omega), dq 1 (by omega), dq 2 (by omega)]; exact a9 (by rw [q.hk, z])
theorem ep_ct_cg {r r' : Nat → Int32} {b : Nat} : ∀ n, (∀ k, b ≤ k → k < b + n → r' k = r k) → ep_ct r' b n = ep_ct r b n := by
  intro n
  induction n with
  | zero => intro _; rfl
  | succ n ih => intro h; rw [ep_ct, ep_ct, ih (fun k h1 h2 => h k h1 (by omega)), h _ (by omega) (by omega)]
/-- the frames, rows of a RUN over a LINE more -/
theorem ep_Fk_gw {φ D φ' D' : Nat → Nat × Nat} {u u' nl nl' : Nat} {C G C' G' : em_M} (w : ep_Gw φ D φ' D' u u' nl nl' C G C' G') {H : ep_H} {x g f : Nat} (x9 : 9 ≤ x) (a1 : ∀ o, x ≤ o → o ≤ x + 23 → C'.1 o = C.1 o) (a2 : C'.2 = C.2) (b1 : G'.1 g = G.1 g) (h : ep_Fk φ u H x g C G f) : ep_Fk φ' u' H x g C' G' f := by
  have uu := w.uu
  rcases h with ⟨so, be, wh, e, sc, q⟩ | ⟨e, sc, r, q⟩ | ⟨so, wh, y, q⟩
  · refine Or.inl ⟨so, be, wh, e, sc, ?_⟩
    have pe := (w.ph e q.he).1
    have ce := (w.r2 e q.he).1
    unfold ep_F1 at q ⊢
    simp (disch := omega) only [a1, a2, b1, pe, ce]
    obtain ⟨q1, q2, q3, q4, q5, q6⟩ := q
    exact ⟨q1, q2, q3, q4, Nat.lt_of_lt_of_le q5 uu, q6⟩
  · refine Or.inr (Or.inl ⟨e, sc, r, ?_⟩)
    have he := q.he
    have pe := (w.ph e q.he).1
    have pr := (w.ph r q.hq).1
    have ce : C'.1 4 (3 * e + 1) = C.1 4 (3 * e + 1) := w.r4 _ (by omega)
    unfold ep_F2 at q ⊢
    simp (disch := omega) only [a1, a2, b1, pe, ce, pr]
    obtain ⟨q1, q2, q3, q4, q5⟩ := q
    exact ⟨q1, q2, Nat.lt_of_lt_of_le q3 uu, Nat.lt_of_lt_of_le q4 uu, q5⟩
  · refine Or.inr (Or.inr ⟨so, wh, y, ?_⟩)
    unfold ep_F3 at q ⊢
    simp (disch := omega) only [a1, a2, b1]
    exact q
theorem ep_Rn_gw {φ D φ' D' : Nat → Nat × Nat} {u u' nl nl' : Nat} {C G C' G' : em_M} (w : ep_Gw φ D φ' D' u u' nl nl' C G C' G') {H : ep_H} {s ch wi x g : Nat} (x9 : 9 ≤ x) (a1 : ∀ o, x ≤ o → o ≤ x + 23 → C'.1 o = C.1 o) (a2 : C'.2 = C.2) (b1 : G'.1 g = G.1 g) (h : ep_Rn φ u H s ch wi x g C G) : ep_Rn φ' u' H s ch wi x g C' G' := by
  have uu := w.uu
  have fk := fun f hf => ep_Fk_gw w x9 a1 a2 b1 (h.fk f hf)
  have gi : (C.1 (x + 3) 9 = 0 ∧ G.1 g 13 = 0 ∧ ∃ e sc, e < u' ∧ C.1 (x + 3) 10 = nI e ∧ G.1 g 14 = nI (φ' e).1 ∧ G.1 g 15 = nI (φ' e).2 ∧ sc ≤ H.ns ∧ C.1 (x + 3) 11 = nI sc ∧ G.1 g 16 = nI sc - 1) ∨ (C.1 (x + 3) 9 = 1 ∧ G.1 g 13 = 1 ∧ ep_Th H.ne (C.2 (x + 3) 12) (G.1 g 19) (G.1 g 20)) := by
    rcases h.gi with ⟨q1, q2, e, sc, q3, q4, q5, q6, q7⟩ | q
    · refine Or.inl ⟨q1, q2, e, sc, Nat.lt_of_lt_of_le q3 uu, q4, ?_, ?_, q7⟩
      · rw [(w.ph e q3).1]; exact q5
      · rw [(w.ph e q3).1]; exact q6
    · exact Or.inr q
  have we : ∀ v, v < H.nw → ∃ e sc, e < u' ∧ C'.1 2 e = nI 8 ∧ C.1 (x + 20) (v + 1) = nI e ∧ G.1 g (3960 + 4 * v) = nI (φ' e).1 ∧ sc ≤ H.ns ∧ C.1 (x + 21) (v + 1) = nI sc ∧ G.1 g (3960 + 4 * v + 1) = nI sc - 1 := by
    intro v hv
    obtain ⟨e, sc, q1, q2, q3, q4, q5⟩ := h.we v hv
    refine ⟨e, sc, Nat.lt_of_lt_of_le q1 uu, ?_, q3, ?_, q5⟩
    · rw [(w.r2 e q1).1]; exact q2
    · rw [(w.ph e q1).1]; exact q4
  unfold ep_Rn at h ⊢
  simp (disch := omega) only [a1, a2, b1]
  obtain ⟨h1, h2, h3, h4, h5, h6, h7, h8, h9, h10, h11, h12, h13, h14, h15, h16, h17, h18, h19, h20, h21, h22, h23, h24, h25, h26, h27, h28, h29, h30, h31, h32⟩ := h
  exact ⟨h1, h2, h3, h4, h5, h6, h7, h8, h9, h10, h11, h12, h13, h14, h15, h16, h17, h18, h19, h20, gi, h22, h23, h24, h25, fk, h27, h28, h29, h30, we, h32⟩
theorem ep_Wd_gw {φ D φ' D' : Nat → Nat × Nat} {u u' nl nl' : Nat} {C G C' G' : em_M} (w : ep_Gw φ D φ' D' u u' nl nl' C G C' G') {x g : Nat} (x9 : 9 ≤ x) (a1 : ∀ o, x ≤ o → o ≤ x + 23 → C'.1 o = C.1 o) (a2 : C'.2 = C.2) (b1 : G'.1 g = G.1 g) (h : ep_Wd φ u nl x g C G) : ep_Wd φ' u' nl' x g C' G' := by
  have ll := w.ll
  have ru : G.1 g 7 = -5 → ∃ H s ch wi, C.1 (x + 4) 1 = nI s ∧ ep_Rn φ' u' H s ch wi x g C' G' := fun z => by
    obtain ⟨H, s, ch, wi, q1, q2⟩ := h.ru z
    exact ⟨H, s, ch, wi, q1, ep_Rn_gw w x9 a1 a2 b1 q2⟩
  have fu : ∀ k, k < 3 → C.1 (x + 2) k = G.1 g (4 + k) ∧ (G.1 g (4 + k) = -5 ∨ ∃ l, l < nl' ∧ G.1 g (4 + k) = nI l) := fun k hk => by
    obtain ⟨q1, q2⟩ := h.fu k hk
    refine ⟨q1, ?_⟩
    rcases q2 with q2 | ⟨l, l1, l2⟩
    · exact Or.inl q2
    · exact Or.inr ⟨l, by omega, l2⟩
  refine ep_Wd.mk ?_ ?_ ?_ ?_ ?_ ?_ ?_ ?_ ?_
  · simp (disch := omega) only [a1, a2, b1]; exact h.va
  · simp (disch := omega) only [a1, a2, b1]; exact fu
  · simp (disch := omega) only [a1, a2, b1]; exact h.st
  · simp (disch := omega) only [a1, a2, b1]; exact h.sp
  · simp (disch := omega) only [a1, a2, b1]; exact h.dp
  · simp (disch := omega) only [a1, a2, b1]; exact h.sz
  · simp (disch := omega) only [a1, a2, b1]; exact h.re
  · simp (disch := omega) only [a1, a2, b1]; exact h.gb
  · rw [b1, a1 _ (by omega) (by omega)]; exact ru
theorem ep_Vp_up {nl nl' : Nat} (h : nl ≤ nl') {a b : Int32} (q : ep_Vp nl a b) : ep_Vp nl' a b := by
  rcases q with ⟨q, n, n1, n2⟩ | q
  · exact Or.inl ⟨q, n, by omega, n2⟩
  · exact Or.inr q
theorem ep_Rw_up {V V' : Int32 → Int32 → Prop} {r m g many base : Nat} {C G : em_M} (h : ∀ a b, V a b → V' a b) (q : ep_Rw V r m g many base C G) : ep_Rw V' r m g many base C G := by
  obtain ⟨n, h1, h2, h3, h4⟩ := q
  exact ⟨n, h1, h2, h3, fun k hk => ⟨(h4 k hk).1, (h4 k hk).2.1, h _ _ (h4 k hk).2.2⟩⟩
/-- the whole, from LINES that have grown -/
theorem ep_I_gw {φ D φ' D' : Nat → Nat × Nat} {u u' nl nl' : Nat} {C G C' G' : em_M} (h : ep_I φ D u nl C G) (w : ep_Gw φ D φ' D' u u' nl nl' C G C' G') (ln : ep_Ln φ' D' u' nl' C' G') (tx : ep_Tx C' G') (a1 : ∀ o, ¬ (1 ≤ o ∧ o ≤ 9) → C'.1 o = C.1 o) (a2 : C'.2 = C.2) (b3 : G'.1 118 3 = G.1 118 3) (b1 : ∀ o, ¬ (o = 118 ∨ (122 ≤ o ∧ o ≤ 127)) → G'.1 o = G.1 o) (b2 : G'.2 = G.2) : ep_I φ' D' u' nl' C' G' := by
  have ll := w.ll
  have A : ∀ o, 10 ≤ o → C'.1 o = C.1 o := fun o ho => a1 o (by omega)
  refine ep_I.mk ln tx ?_ ?_ ?_ ?_ ?_ ?_ ?_
  · intro i hi
    exact ep_Tp_cg (A _ (by omega)) (by rw [a2]) (by rw [b1 _ (by omega)]) (by rw [b1 _ (by omega)]) (fun k _ _ => by rw [b2]) (h.tp i hi)
  · exact ep_Rw_cg (fun o _ _ => A o (by omega)) (by rw [b1 _ (by omega)]) (fun k _ _ => by rw [b1 _ (by omega)]) h.rs
  · exact ep_Rw_cg (fun o _ _ => A o (by omega)) (by rw [b1 _ (by omega)]) (fun k _ _ => by rw [b1 _ (by omega)]) (ep_Rw_up (fun _ _ q => ep_Vp_up ll q) h.rp)
  · exact ep_Rw_cg (fun o _ _ => A o (by omega)) (by rw [b1 _ (by omega)]) (fun k _ _ => by rw [b1 _ (by omega)]) h.rb
  · simp (disch := omega) only [A]; exact h.iz
  · exact ep_Wd_gw w (by omega) (fun o _ _ => A o (by omega)) a2 (b1 _ (by omega)) h.wd
  · obtain ⟨h1, h2, h3, h4⟩ := h.io
    refine ⟨?_, ?_, ?_, ?_⟩
    · rw [a1 0 (by omega), b3]; exact h1
    · simp (disch := omega) only [A]; exact h2
    · simp (disch := omega) only [A]; exact h3
    · rw [b3]
      intro q
      obtain ⟨p1, p2, p3, p4⟩ := h4 q
      exact ⟨ep_Rw_cg (fun o _ _ => A o (by omega)) (by rw [b1 _ (by omega)]) (fun k _ _ => by rw [b1 _ (by omega)]) p1, ep_Rw_cg (fun o _ _ => A o (by omega)) (by rw [b1 _ (by omega)]) (fun k _ _ => by rw [b1 _ (by omega)]) (ep_Rw_up (fun _ _ q => ep_Vp_up ll q) p2), ep_Rw_cg (fun o _ _ => A o (by omega)) (by rw [b1 _ (by omega)]) (fun k _ _ => by rw [b1 _ (by omega)]) p3, ep_Wd_gw w (by omega) (fun o _ _ => A o (by omega)) a2 (b1 _ (by omega)) p4⟩
