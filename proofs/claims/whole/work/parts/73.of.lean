/-! OF -/
theorem ep_D1 {φ D : Nat → Nat × Nat} {u nl : Nat} {C G : em_M} (ln : ep_Ln φ D u nl C G) {e : Nat} (he : e < u) : 1 ≤ (D e).1 := by
  obtain ⟨a1, a2, a3, a4, a5, a6, a7, a8, a9⟩ := (ln.dl e he).1
  rcases ln.nd e he with q | ⟨a, q⟩ | ⟨n, p, q⟩ | ⟨kd, sg, np, q⟩
  · rw [a1 (Or.inl q.hk)]; exact Nat.le_refl _
  · rw [a1 (Or.inr q.hk)]; exact Nat.le_refl _
  · have A := a2 (by
      rcases q.hk with ⟨z, -⟩ | ⟨z, -⟩
      · exact Or.inl z
      · exact Or.inr z)
    by_cases z : C.1 4 (3 * e + 1) = -1
    · rw [if_pos z] at A; rw [A]; show 1 ≤ 1 + _; omega
    · rw [if_neg z] at A; rw [A]; show 1 ≤ max (1 + _) _; omega
  · have K := q.hK
    have hk := q.hk
    have hh : kd = 0 ∨ kd = 1 ∨ kd = 2 ∨ kd = 4 ∨ kd = 5 ∨ kd = 6 ∨ kd = 7 ∨ kd = 8 ∨ kd = 13 := by unfold ep_K at K; omega
    rcases hh with rfl | rfl | rfl | rfl | rfl | rfl | rfl | rfl | rfl
    · rw [a6 hk]; show 1 ≤ 1 + _; omega
    · rw [a8 hk]; show 1 ≤ 1 + _; omega
    · rw [a7 hk]; show 1 ≤ 1 + _; omega
    · rw [a3 hk]; show 1 ≤ 1 + _; omega
    · rw [a4 (Or.inl hk)]; show 1 ≤ 1 + _; omega
    · rw [a4 (Or.inr (Or.inl hk))]; show 1 ≤ 1 + _; omega
    · rw [a4 (Or.inr (Or.inr hk))]; show 1 ≤ 1 + _; omega
    · rw [a9 hk]; show 1 ≤ 1 + _; omega
    · rw [a5 hk]; show 1 ≤ 1 + _; omega
/-- the deepest of the parts from k on -/
def ep_MM (xs : Nat → Nat) : Nat → Nat → Nat → Nat
  | _, mo, 0 => mo
  | k, mo, j + 1 => ep_MM xs (k + 1) (max mo (xs k)) j
theorem ep_dlp {E : em_M → Int32 → Int32} {S : em_M → Int32 → Prop} {G : em_M} {m n : Nat} {mm xs : Nat → Nat} (hm : m < 808) (n5 : n ≤ 5) (gn : G.1 124 m = nI n) (h : ∀ i, i < n → G.1 125 (5 * m + i) = nI (mm i) ∧ S G (nI (mm i)) ∧ E G (nI (mm i)) = nI (xs i) ∧ xs i ≤ 100) : ∀ j k fu mo, k + j = n → j < fu → mo ≤ 100 → es_X12_deepestB_4 E S fu G (nI m) (nI mo) (nI k) ∧ et_X12_deepestB_4 E fu G (nI m) (nI mo) (nI k) = nI (1 + ep_MM xs k mo j) := by
  intro j
  induction j with
  | zero =>
    intro k fu mo hk hf hmo
    obtain ⟨fu, rfl⟩ : ∃ f, fu = f + 1 := ⟨fu - 1, by omega⟩
    have le : nI n ≤ nI k := nI_le (by omega) (by omega)
    rw [es_X12_deepestB_4, et_X12_deepestB_4, nI_clamp (show m < 2 ^ 31 by omega), gn, if_pos le, ep_MM, show (1 : Int32) + nI mo = nI (1 + mo) from nI_add 1 mo]
    exact ⟨⟨vp_in_nI hm (by omega), fun _ => trivial, fun q => absurd le q⟩, rfl⟩
  | succ j ih =>
    intro k fu mo hk hf hmo
    obtain ⟨fu, rfl⟩ : ∃ f, fu = f + 1 := ⟨fu - 1, by omega⟩
    have le : ¬ nI n ≤ nI k := nI_ge (by omega) (by omega)
    obtain ⟨h1, h2, h3, h4⟩ := h k (by omega)
    obtain ⟨i1, i2⟩ := ih (k + 1) fu (max mo (xs k)) (by omega) (by omega) (by omega)
    rw [es_X12_deepestB_4, et_X12_deepestB_4, nI_clamp (show m < 2 ^ 31 by omega), gn, if_neg le, ep_MM, eq_x5, nI_add, nI_clamp (show 5 * m + k < 2 ^ 31 by omega), h1, h3, nI_1]
    dsimp only
    rw [eq_max (show mo < 2 ^ 31 by omega) (show xs k < 2 ^ 31 by omega)]
    refine ⟨⟨vp_in_nI hm (by omega), fun q => absurd q le, fun _ => ⟨vp_in_nI (by omega) (by omega), h2, ?_⟩⟩, i2⟩
    rintro _ rfl
    rw [eq_max (show mo < 2 ^ 31 by omega) (show xs k < 2 ^ 31 by omega)]
    rintro _ rfl
    exact i1
/-- the parts of a node that is no list -/
theorem ep_nd4p {φ D : Nat → Nat × Nat} {u nl : Nat} {C G : em_M} (ln : ep_Ln φ D u nl C G) {e kd sg np : Nat} (q : ep_Nd4 φ u C G e kd sg np) {k : Nat} (hk : k < np) : ep_pt C e k < u ∧ (φ (ep_pt C e k)).2 = 0 ∧ G.1 125 (5 * (φ e).1 + k) = nI (φ (ep_pt C e k)).1 := by
  obtain ⟨p, p1, p2, p3, p4⟩ := q.hp k hk
  have u8 : u ≤ 800 := by have := ln.hu; have := ln.n8; omega
  rw [ep_ptc p2 (by omega)]
  exact ⟨p1, p3, p4⟩
/-- depth and last calls of a node that is no list, by its parts -/
theorem ep_nd4D {φ D : Nat → Nat × Nat} {u : Nat} {C G : em_M} {e kd sg np : Nat} (q : ep_Nd4 φ u C G e kd sg np) (h : ep_Dl D C e) : ep_xy kd (fun k => (D (ep_pt C e k)).1) (fun k => (D (ep_pt C e k)).2) (D e).1 (D e).2 := by
  obtain ⟨a1, a2, a3, a4, a5, a6, a7, a8, a9⟩ := h
  have K := q.hK
  have hk := q.hk
  have hh : kd = 0 ∨ kd = 1 ∨ kd = 2 ∨ kd = 4 ∨ kd = 5 ∨ kd = 6 ∨ kd = 7 ∨ kd = 8 ∨ kd = 13 := by unfold ep_K at K; omega
  unfold ep_xy
  rcases hh with e | e | e | e | e | e | e | e | e
  · have w := a6 (by rw [hk, e]); exact Or.inl ⟨e, by rw [w], by rw [w]⟩
  · have w := a8 (by rw [hk, e]); exact Or.inr (Or.inl ⟨e, by rw [w], by rw [w]⟩)
  · have w := a7 (by rw [hk, e]); exact Or.inr (Or.inr (Or.inl ⟨e, by rw [w], by rw [w]⟩))
  · have w := a3 (by rw [hk, e]); exact Or.inr (Or.inr (Or.inr (Or.inl ⟨e, by rw [w], by rw [w]⟩)))
  · have w := a4 (Or.inl (by rw [hk, e])); exact Or.inr (Or.inr (Or.inr (Or.inr (Or.inl ⟨Or.inl e, by rw [w], by rw [w]⟩))))
  · have w := a4 (Or.inr (Or.inl (by rw [hk, e]))); exact Or.inr (Or.inr (Or.inr (Or.inr (Or.inl ⟨Or.inr (Or.inl e), by rw [w], by rw [w]⟩))))
  · have w := a4 (Or.inr (Or.inr (by rw [hk, e]))); exact Or.inr (Or.inr (Or.inr (Or.inr (Or.inl ⟨Or.inr (Or.inr e), by rw [w], by rw [w]⟩))))
  · have w := a9 (by rw [hk, e]); exact Or.inr (Or.inr (Or.inr (Or.inr (Or.inr (Or.inl ⟨e, by rw [w], by rw [w]⟩)))))
  · have w := a5 (by rw [hk, e]); exact Or.inr (Or.inr (Or.inr (Or.inr (Or.inr (Or.inr ⟨e, by rw [w], by rw [w]⟩)))))
/-- a node of a LIST: its part, and its REST -/
theorem ep_nd3D {φ D : Nat → Nat × Nat} {u nl : Nat} {C G : em_M} (ln : ep_Ln φ D u nl C G) {e n p : Nat} (he : e < u) (q : ep_Nd3 φ u C G e n p) : p < u ∧ (φ p).2 = 0 ∧ G.1 125 (5 * (φ e).1 + (φ e).2) = nI (φ p).1 ∧ (((φ e).2 + 1 = n ∧ D e = (1 + (D p).1, (D p).2)) ∨ ((φ e).2 + 1 < n ∧ ∃ r p', r < u ∧ φ r = ((φ e).1, (φ e).2 + 1) ∧ ep_Nd3 φ u C G r n p' ∧ D e = (max (1 + (D p).1) (D r).1, (D r).2))) := by
  have u8 : u ≤ 800 := by have := ln.hu; have := ln.n8; omega
  obtain ⟨a1, a2, a3, a4, a5, a6, a7, a8, a9⟩ := (ln.dl e he).1
  have hp := q.hp
  have on := q.ho
  have A := a2 (by
    rcases q.hk with ⟨z, -⟩ | ⟨z, -⟩
    · exact Or.inl z
    · exact Or.inr z)
  rw [ep_ptc (k := 0) q.h0 (by omega)] at A
  refine ⟨hp, q.hp0, q.hp1, ?_⟩
  by_cases z : (φ e).2 + 1 = n
  · rw [if_pos (q.hl z)] at A
    exact Or.inl ⟨z, A⟩
  · obtain ⟨r, r1, r2, r3⟩ := q.hr (by omega)
    have ne : ¬ C.1 4 (3 * e + 1) = -1 := fun y => by
      have := nI_pos (n := r) (by omega)
      rw [← r2, y] at this
      exact this (by decide)
    rw [if_neg ne, ep_ptc (k := 1) r2 (by omega)] at A
    refine Or.inr ⟨by omega, ?_⟩
    rcases ln.nd r r1 with w | ⟨a, w⟩ | ⟨n', p', w⟩ | ⟨kd, sg, np, w⟩
    · have := w.ho; rw [r3] at this; exact absurd this (by show ¬ (φ e).2 + 1 = 0; omega)
    · have := w.ho; rw [r3] at this; exact absurd this (by show ¬ (φ e).2 + 1 = 0; omega)
    · have e1 := w.hn
      rw [r3] at e1
      have e2 : nI n' = nI n := e1.symm.trans q.hn
      have nn : n' = n := (nI_eq (by have := w.hn5; omega) (by have := q.hn5; omega)).mp e2
      subst nn
      exact ⟨r, p', r1, r3, w, A⟩
    · have := w.ho; rw [r3] at this; exact absurd this (by show ¬ (φ e).2 + 1 = 0; omega)
/-- the loop over a LIST's parts, from a node of it on -/
theorem ep_dpl {φ D : Nat → Nat × Nat} {u nl d : Nat} {C G : em_M} (ln : ep_Ln φ D u nl C G) {E : em_M → Int32 → Int32} {S : em_M → Int32 → Prop} (H : ∀ p, p < u → (φ p).2 = 0 → (D p).1 ≤ d → S G (nI (φ p).1) ∧ E G (nI (φ p).1) = nI (D p).1) : ∀ j e n p, e < u → ep_Nd3 φ u C G e n p → (φ e).2 + j + 1 = n → (D e).1 ≤ d + 1 → ∀ fu mo, j + 1 < fu → mo ≤ 100 → es_X12_deepestB_4 E S fu G (nI (φ e).1) (nI mo) (nI (φ e).2) ∧ et_X12_deepestB_4 E fu G (nI (φ e).1) (nI mo) (nI (φ e).2) = nI (max (1 + mo) (D e).1) := by
  intro j
  induction j with
  | zero =>
    intro e n p he q hj hd fu mo hf hmo
    obtain ⟨fu, rfl⟩ : ∃ f, fu = f + 1 + 1 := ⟨fu - 2, by omega⟩
    have hm : (φ e).1 < 808 := by have := ln.hm e he; have := ln.n8; omega
    have n5 := q.hn5
    obtain ⟨p1, p2, p3, ⟨p4, p5⟩ | ⟨p4, -⟩⟩ := ep_nd3D ln he q
    · have d8 := (ln.dl p p1).2
      have e1 : (D e).1 = 1 + (D p).1 := by rw [p5]
      obtain ⟨h1, h2⟩ := H p p1 p2 (by omega)
      have gn := q.hn
      generalize (φ e).1 = m at *
      generalize (φ e).2 = k at *
      have le : ¬ nI n ≤ nI k := nI_ge (by omega) (by omega)
      have le' : nI n ≤ nI (k + 1) := nI_le (by omega) (by omega)
      rw [es_X12_deepestB_4, et_X12_deepestB_4, nI_clamp (show m < 2 ^ 31 by omega), gn, if_neg le, eq_x5, nI_add, nI_clamp (show 5 * m + k < 2 ^ 31 by omega), p3, h2, nI_1]
      dsimp only
      rw [eq_max (show mo < 2 ^ 31 by omega) (show (D p).1 < 2 ^ 31 by omega), et_X12_deepestB_4, nI_clamp (show m < 2 ^ 31 by omega), gn, if_pos le', show (1 : Int32) + nI (max mo (D p).1) = nI (1 + max mo (D p).1) from nI_add 1 _, e1]
      refine ⟨⟨vp_in_nI hm (by omega), fun y => absurd y le, fun _ => ⟨vp_in_nI (by omega) (by omega), h1, ?_⟩⟩, congrArg nI (by omega)⟩
      rintro _ rfl
      rintro _ rfl
      rw [es_X12_deepestB_4, nI_clamp (show m < 2 ^ 31 by omega), gn]
      exact ⟨vp_in_nI hm (by omega), fun _ => trivial, fun y => absurd le' y⟩
    · exact absurd p4 (by omega)
  | succ j ih =>
    intro e n p he q hj hd fu mo hf hmo
    obtain ⟨fu, rfl⟩ : ∃ f, fu = f + 1 := ⟨fu - 1, by omega⟩
    have hm : (φ e).1 < 808 := by have := ln.hm e he; have := ln.n8; omega
    have n5 := q.hn5
    obtain ⟨p1, p2, p3, ⟨p4, -⟩ | ⟨p4, r, p', r1, r2, r3, p5⟩⟩ := ep_nd3D ln he q
    · exact absurd p4 (by omega)
    · have d8 := (ln.dl p p1).2
      have e1 : (D e).1 = max (1 + (D p).1) (D r).1 := by rw [p5]
      obtain ⟨h1, h2⟩ := H p p1 p2 (by omega)
      have gn := q.hn
      have r21 : (φ r).1 = (φ e).1 := by rw [r2]
      have r22 : (φ r).2 = (φ e).2 + 1 := by rw [r2]
      obtain ⟨i1, i2⟩ := ih r n p' r1 r3 (by omega) (by omega) fu (max mo (D p).1) (by omega) (by omega)
      rw [r21, r22] at i1 i2
      have le : ¬ nI n ≤ nI (φ e).2 := nI_ge (by omega) (by omega)
      rw [es_X12_deepestB_4, et_X12_deepestB_4, nI_clamp (show (φ e).1 < 2 ^ 31 by omega), gn, if_neg le, eq_x5, nI_add, nI_clamp (show 5 * (φ e).1 + (φ e).2 < 2 ^ 31 by omega), p3, h2, nI_1]
      dsimp only
      rw [eq_max (show mo < 2 ^ 31 by omega) (show (D p).1 < 2 ^ 31 by omega), i2, e1]
      refine ⟨⟨vp_in_nI hm (by omega), fun y => absurd y le, fun _ => ⟨vp_in_nI (by omega) (by omega), h1, ?_⟩⟩, congrArg nI (by omega)⟩
      rintro _ rfl
      rw [eq_max (show mo < 2 ^ 31 by omega) (show (D p).1 < 2 ^ 31 by omega)]
      rintro _ rfl
      exact i1
theorem ep_dps {φ D : Nat → Nat × Nat} {u nl d : Nat} {C G : em_M} (ln : ep_Ln φ D u nl C G) {E : em_M → Int32 → Int32} {S : em_M → Int32 → Prop} (H : ∀ p, p < u → (φ p).2 = 0 → (D p).1 ≤ d → S G (nI (φ p).1) ∧ E G (nI (φ p).1) = nI (D p).1) {e : Nat} (he : e < u) (h0 : (φ e).2 = 0) (hd : (D e).1 ≤ d + 1) : es_X12_deepest E S G (nI (φ e).1) ∧ et_X12_deepestB E G (nI (φ e).1) = nI (D e).1 := by
  have hm : (φ e).1 < 808 := by have := ln.hm e he; have := ln.n8; omega
  have dl := (ln.dl e he).1
  rw [es_X12_deepest, et_X12_deepestB]
  rcases ln.nd e he with q | ⟨a, q⟩ | ⟨n, p, q⟩ | ⟨kd, sg, np, q⟩
  · have w := dl.1 (Or.inl q.hk)
    have i := ep_dlp (E := E) (S := S) (mm := fun _ => 0) (xs := fun _ => 0) hm (by omega) q.hn (fun i hi => absurd hi (by omega)) 0 0 6 0 (by omega) (by omega) (by omega)
    rw [nI_0, ep_MM] at i
    rw [w]; exact i
  · have w := dl.1 (Or.inr q.hk)
    have i := ep_dlp (E := E) (S := S) (mm := fun _ => 0) (xs := fun _ => 0) hm (by omega) q.hn (fun i hi => absurd hi (by omega)) 0 0 6 0 (by omega) (by omega) (by omega)
    rw [nI_0, ep_MM] at i
    rw [w]; exact i
  · have n5 := q.hn5
    have on := q.ho
    have D1 := ep_D1 ln he
    have i := ep_dpl ln H (n - 1) e n p he q (by omega) hd 6 0 (by omega) (by omega)
    rw [h0, nI_0, show max (1 + 0) (D e).1 = (D e).1 by omega] at i
    exact i
  · have K := q.hK
    have np3 : np ≤ 3 := by unfold ep_K at K; omega
    have xy := ep_nd4D q dl
    have npk : (kd = 0 → np = 2) ∧ (kd = 1 → np = 3) ∧ (kd = 2 → np = 2) ∧ (kd = 8 → np = 3) ∧ (kd = 4 ∨ kd = 5 ∨ kd = 6 ∨ kd = 7 ∨ kd = 13 → np = 1) := by unfold ep_K at K; omega
    unfold ep_xy at xy
    dsimp only at xy
    have lt : ∀ k, k < np → (D (ep_pt C e k)).1 + 1 ≤ (D e).1 := by
      intro k hk
      have hh : k = 0 ∨ k = 1 ∨ k = 2 := by omega
      rcases xy with ⟨z, x1, -⟩ | ⟨z, x1, -⟩ | ⟨z, x1, -⟩ | ⟨z, x1, -⟩ | ⟨z, x1, -⟩ | ⟨z, x1, -⟩ | ⟨z, x1, -⟩
      all_goals rcases hh with rfl | rfl | rfl
      all_goals omega
    have i := ep_dlp (E := E) (S := S) (mm := fun k => (φ (ep_pt C e k)).1) (xs := fun k => (D (ep_pt C e k)).1) hm (show np ≤ 5 by omega) q.hn (fun i hi => by
      obtain ⟨p1, p2, p3⟩ := ep_nd4p ln q hi
      have l := lt i hi
      obtain ⟨h1, h2⟩ := H _ p1 p2 (by omega)
      have d8 := (ln.dl _ p1).2
      exact ⟨p3, h1, h2, by omega⟩) np 0 6 0 (by omega) (by omega) (by omega)
    rw [nI_0] at i
    have e1 : 1 + ep_MM (fun k => (D (ep_pt C e k)).1) 0 0 np = (D e).1 := by
      rcases xy with ⟨z, x1, -⟩ | ⟨z, x1, -⟩ | ⟨z, x1, -⟩ | ⟨z, x1, -⟩ | ⟨z, x1, -⟩ | ⟨z, x1, -⟩ | ⟨z, x1, -⟩
      · rw [npk.1 z, ep_MM, ep_MM, ep_MM, x1]; simp only [Nat.zero_add, Nat.reduceAdd]; omega
      · rw [npk.2.1 z, ep_MM, ep_MM, ep_MM, ep_MM, x1]; simp only [Nat.zero_add, Nat.reduceAdd]; omega
      · rw [npk.2.2.1 z, ep_MM, ep_MM, ep_MM, x1]; simp only [Nat.zero_add, Nat.reduceAdd]; omega
      · rw [npk.2.2.2.2 (by omega), ep_MM, ep_MM, x1]; omega
      · rw [npk.2.2.2.2 (by omega), ep_MM, ep_MM, x1]; omega
      · rw [npk.2.2.2.1 z, ep_MM, ep_MM, ep_MM, ep_MM, x1]; simp only [Nat.zero_add, Nat.reduceAdd]; omega
      · rw [npk.2.2.2.2 (by omega), ep_MM, ep_MM, x1]; omega
    rw [e1] at i
    exact i
theorem ep_dpR {φ D : Nat → Nat × Nat} {u nl : Nat} {C G : em_M} (ln : ep_Ln φ D u nl C G) : ∀ d e, e < u → (φ e).2 = 0 → (D e).1 ≤ d → es_X12_deepestR d G (nI (φ e).1) ∧ et_X12_deepestR d G (nI (φ e).1) = nI (D e).1 := by
  intro d
  induction d with
  | zero => intro e he _ hd; exact absurd (ep_D1 ln he) (by omega)
  | succ d ih =>
    intro e he h0 hd
    rw [es_X12_deepestR, et_X12_deepestR]
    exact ep_dps ln ih he h0 hd
/-- the last part of a LIST -/
theorem ep_lsl {φ D : Nat → Nat × Nat} {u nl : Nat} {C G : em_M} (ln : ep_Ln φ D u nl C G) : ∀ j e n p, e < u → ep_Nd3 φ u C G e n p → (φ e).2 + j + 1 = n → ∃ z, z < u ∧ (φ z).2 = 0 ∧ G.1 125 (5 * (φ e).1 + (n - 1)) = nI (φ z).1 ∧ (D z).2 = (D e).2 ∧ (D z).1 + 1 ≤ (D e).1 := by
  intro j
  induction j with
  | zero =>
    intro e n p he q hj
    obtain ⟨p1, p2, p3, ⟨p4, p5⟩ | ⟨p4, -⟩⟩ := ep_nd3D ln he q
    · refine ⟨p, p1, p2, ?_, by rw [p5], by rw [p5]; show _ ≤ 1 + _; omega⟩
      rw [show n - 1 = (φ e).2 by omega]; exact p3
    · exact absurd p4 (by omega)
  | succ j ih =>
    intro e n p he q hj
    obtain ⟨p1, p2, p3, ⟨p4, -⟩ | ⟨p4, r, p', r1, r2, r3, p5⟩⟩ := ep_nd3D ln he q
    · exact absurd p4 (by omega)
    · obtain ⟨z, z1, z2, z3, z4, z5⟩ := ih r n p' r1 r3 (by rw [r2]; show (φ e).2 + 1 + j + 1 = n; omega)
      refine ⟨z, z1, z2, ?_, by rw [p5]; exact z4, by rw [p5]; show _ ≤ max _ _; omega⟩
      rw [r2] at z3; exact z3
theorem ep_lc0 {E : em_M → Int32 → Int32} {S : em_M → Int32 → Prop} {G : em_M} {m : Nat} {s : Int32} (hm : m < 808) (hs : G.1 122 m = s) (c : et_X12_isCall G s = 0) (n63 : ¬ s = 63) (n61 : ¬ s = 61) (n91 : ¬ s = 91) (n64 : ¬ s = 64) : es_X12_lastCalls E S G (nI m) ∧ et_X12_lastCallsB E G (nI m) = 0 := by
  rw [es_X12_lastCalls, et_X12_lastCallsB, nI_clamp (show m < 2 ^ 31 by omega), hs]
  dsimp only
  rw [c, if_pos rfl, if_neg n63, if_neg n61, if_neg n91, if_neg n64]
  refine ⟨⟨vp_in_nI hm (by omega), ?_⟩, rfl⟩
  rintro _ rfl
  exact ⟨fun _ => ⟨fun q => absurd q n63, fun _ => ⟨fun q => absurd q n61, fun _ => ⟨fun q => absurd q n91, fun _ => ⟨fun q => absurd q n64, fun _ => trivial⟩⟩⟩⟩, fun _ => trivial⟩
theorem ep_lcC {E : em_M → Int32 → Int32} {S : em_M → Int32 → Prop} {G : em_M} {m : Nat} {s : Int32} (hm : m < 808) (hs : G.1 122 m = s) (c : et_X12_isCall G s = 1) : es_X12_lastCalls E S G (nI m) ∧ et_X12_lastCallsB E G (nI m) = 1 := by
  have n1 : ¬ (1 : Int32) = 0 := by decide
  rw [es_X12_lastCalls, et_X12_lastCallsB, nI_clamp (show m < 2 ^ 31 by omega), hs]
  dsimp only
  rw [c, if_neg n1]
  refine ⟨⟨vp_in_nI hm (by omega), ?_⟩, rfl⟩
  rintro _ rfl
  exact ⟨fun q => absurd q n1, fun _ => trivial⟩
theorem ep_lcI {E : em_M → Int32 → Int32} {S : em_M → Int32 → Prop} {G : em_M} {m a b x y : Nat} (hm : m < 808) (hs : G.1 122 m = nI 63) (g1 : G.1 125 (5 * m + 1) = nI a) (g2 : G.1 125 (5 * m + 2) = nI b) (s1 : S G (nI a)) (e1 : E G (nI a) = nI x) (s2 : S G (nI b)) (e2 : E G (nI b) = nI y) : es_X12_lastCalls E S G (nI m) ∧ et_X12_lastCallsB E G (nI m) = nI (x + y) := by
  have c : et_X12_isCall G (nI 63) = 0 := by rw [et_X12_isCall, if_neg (show ¬ nI 63 = (70 : Int32) by decide), if_neg (show ¬ nI 63 = (71 : Int32) by decide), if_neg (show ¬ nI 63 = (72 : Int32) by decide)]
  have p63 : nI 63 = (63 : Int32) := rfl
  have t0 : ¬ ¬ (0 : Int32) = 0 := fun q => q rfl
  rw [es_X12_lastCalls, et_X12_lastCallsB, nI_clamp (show m < 2 ^ 31 by omega), hs]
  dsimp only
  rw [c, if_pos rfl, if_pos p63, eq_x5, nI_1, eq_p2, nI_clamp (show 5 * m + 1 < 2 ^ 31 by omega), nI_clamp (show 5 * m + 2 < 2 ^ 31 by omega), g1, g2, e1, e2, nI_add]
  refine ⟨⟨vp_in_nI hm (by omega), ?_⟩, rfl⟩
  rintro _ rfl
  exact ⟨fun _ => ⟨fun _ => ⟨vp_in_nI (by omega) (by omega), s1, fun _ _ => ⟨vp_in_nI (by omega) (by omega), s2, fun _ _ => trivial⟩⟩, fun q => absurd p63 q⟩, fun q => absurd q t0⟩
theorem ep_lcL {E : em_M → Int32 → Int32} {S : em_M → Int32 → Prop} {G : em_M} {m n a x sg : Nat} (hm : m < 808) (hs : G.1 122 m = nI sg) (hsg : sg = 61 ∨ sg = 91 ∨ sg = 64) (gn : G.1 124 m = nI n) (n1 : 1 ≤ n) (n5 : n ≤ 5) (g1 : G.1 125 (5 * m + (n - 1)) = nI a) (s1 : S G (nI a)) (e1 : E G (nI a) = nI x) : es_X12_lastCalls E S G (nI m) ∧ et_X12_lastCallsB E G (nI m) = nI x := by
  have N : ∀ k, k < 100 → sg ≠ k → ¬ nI sg = nI k := fun k hk q => by rw [nI_eq (by omega) (by omega)]; exact q
  have c : et_X12_isCall G (nI sg) = 0 := by rw [et_X12_isCall, if_neg (show ¬ nI sg = (70 : Int32) from N 70 (by omega) (by omega)), if_neg (show ¬ nI sg = (71 : Int32) from N 71 (by omega) (by omega)), if_neg (show ¬ nI sg = (72 : Int32) from N 72 (by omega) (by omega))]
  have n63 : ¬ nI sg = (63 : Int32) := N 63 (by omega) (by omega)
  have t0 : ¬ ¬ (0 : Int32) = 0 := fun q => q rfl
  have ix : ((5 : Int32) * nI m + nI n - 1) = nI (5 * m + (n - 1)) := by
    rw [eq_x5, nI_add, show 5 * m + n = (5 * m + (n - 1)) + 1 by omega, eq_q1]
  have v1 : vp_in (nI (5 * m + (n - 1))) 4040 := vp_in_nI (by omega) (by omega)
  have vm : vp_in (nI m) 808 := vp_in_nI hm (by omega)
  have T : ∀ r : Int32, E G (nI a) = r → True := fun _ _ => trivial
  rw [es_X12_lastCalls, et_X12_lastCallsB, nI_clamp (show m < 2 ^ 31 by omega), hs, gn, ix, nI_clamp (show 5 * m + (n - 1) < 2 ^ 31 by omega), g1]
  dsimp only
  rw [c, if_pos rfl, if_neg n63, e1]
  refine ⟨⟨vm, ?_⟩, ?_⟩
  · rintro _ rfl
    refine ⟨fun _ => ⟨fun q => absurd q n63, fun _ => ⟨fun _ => ⟨vm, v1, s1, fun _ _ => trivial⟩, fun _ => ⟨fun _ => ⟨vm, v1, s1, fun _ _ => trivial⟩, fun _ => ⟨fun _ => ⟨vm, v1, s1, fun _ _ => trivial⟩, fun _ => trivial⟩⟩⟩⟩, fun q => absurd q t0⟩
  · rcases hsg with rfl | rfl | rfl
    · rw [if_pos (show nI 61 = (61 : Int32) from rfl)]
    · rw [if_neg (show ¬ nI 91 = (61 : Int32) by decide), if_pos (show nI 91 = (91 : Int32) from rfl)]
    · rw [if_neg (show ¬ nI 64 = (61 : Int32) by decide), if_neg (show ¬ nI 64 = (91 : Int32) by decide), if_pos (show nI 64 = (64 : Int32) from rfl)]
theorem ep_lcs {φ D : Nat → Nat × Nat} {u nl d : Nat} {C G : em_M} (ln : ep_Ln φ D u nl C G) {E : em_M → Int32 → Int32} {S : em_M → Int32 → Prop} (H : ∀ p, p < u → (φ p).2 = 0 → (D p).1 ≤ d → S G (nI (φ p).1) ∧ E G (nI (φ p).1) = nI (D p).2) {e : Nat} (he : e < u) (h0 : (φ e).2 = 0) (hd : (D e).1 ≤ d + 1) : es_X12_lastCalls E S G (nI (φ e).1) ∧ et_X12_lastCallsB E G (nI (φ e).1) = nI (D e).2 := by
  have hm : (φ e).1 < 808 := by have := ln.hm e he; have := ln.n8; omega
  have dl := (ln.dl e he).1
  have N : ∀ a b, a < 128 → b < 128 → a ≠ b → ¬ nI a = nI b := fun a b h1 h2 q => by rw [nI_eq (by omega) (by omega)]; exact q
  have c0 : ∀ s, s < 128 → s ≠ 70 → s ≠ 71 → s ≠ 72 → et_X12_isCall G (nI s) = 0 := fun s h1 h2 h3 h4 => by
    rw [et_X12_isCall, if_neg (show ¬ nI s = (70 : Int32) from N s 70 h1 (by omega) h2), if_neg (show ¬ nI s = (71 : Int32) from N s 71 h1 (by omega) h3), if_neg (show ¬ nI s = (72 : Int32) from N s 72 h1 (by omega) h4)]
  rcases ln.nd e he with q | ⟨a, q⟩ | ⟨n, p, q⟩ | ⟨kd, sg, np, q⟩
  · rw [dl.1 (Or.inl q.hk)]
    exact ep_lc0 hm q.hs (c0 48 (by omega) (by omega) (by omega) (by omega)) (N 48 63 (by omega) (by omega) (by omega)) (N 48 61 (by omega) (by omega) (by omega)) (N 48 91 (by omega) (by omega) (by omega)) (N 48 64 (by omega) (by omega) (by omega))
  · rw [dl.1 (Or.inr q.hk)]
    exact ep_lc0 hm q.hs (c0 97 (by omega) (by omega) (by omega) (by omega)) (N 97 63 (by omega) (by omega) (by omega)) (N 97 61 (by omega) (by omega) (by omega)) (N 97 91 (by omega) (by omega) (by omega)) (N 97 64 (by omega) (by omega) (by omega))
  · have n5 := q.hn5
    have on := q.ho
    obtain ⟨z, z1, z2, z3, z4, z5⟩ := ep_lsl ln (n - 1) e n p he q (by omega)
    obtain ⟨h1, h2⟩ := H z z1 z2 (by omega)
    rw [z4] at h2
    exact ep_lcL hm q.hs (Or.inr (Or.inl rfl)) q.hn (by omega) n5 z3 h1 h2
  · have K := q.hK
    have np3 : np ≤ 3 := by unfold ep_K at K; omega
    have xy := ep_nd4D q dl
    have K' := K
    unfold ep_K at K'
    unfold ep_xy at xy
    dsimp only at xy
    have hp := fun k hk => ep_nd4p ln q (k := k) hk
    rcases xy with ⟨z, x1, y1⟩ | ⟨z, x1, y1⟩ | ⟨z, x1, y1⟩ | ⟨z, x1, y1⟩ | ⟨z, x1, y1⟩ | ⟨z, x1, y1⟩ | ⟨z, x1, y1⟩
    · rw [y1]
      exact ep_lc0 hm q.hs (c0 sg (by omega) (by omega) (by omega) (by omega)) (N sg 63 (by omega) (by omega) (by omega)) (N sg 61 (by omega) (by omega) (by omega)) (N sg 91 (by omega) (by omega) (by omega)) (N sg 64 (by omega) (by omega) (by omega))
    · have sg63 : sg = 63 := by omega
      obtain ⟨a1, a2, a3⟩ := hp 1 (by omega)
      obtain ⟨b1, b2, b3⟩ := hp 2 (by omega)
      obtain ⟨h1, h2⟩ := H _ a1 a2 (by omega)
      obtain ⟨h3, h4⟩ := H _ b1 b2 (by omega)
      rw [y1]
      exact ep_lcI hm (by rw [q.hs, sg63]) a3 b3 h1 h2 h3 h4
    · obtain ⟨a1, a2, a3⟩ := hp 1 (by omega)
      obtain ⟨h1, h2⟩ := H _ a1 a2 (by omega)
      have np2 : np = 2 := by omega
      rw [y1]
      exact ep_lcL hm q.hs (Or.inl (by omega)) q.hn (by omega) (by omega) (by rw [np2]; exact a3) h1 h2
    · have cc : et_X12_isCall G (nI sg) = 1 := by
        have hh : sg = 70 ∨ sg = 71 ∨ sg = 72 := by omega
        rw [et_X12_isCall]
        rcases hh with rfl | rfl | rfl
        · rw [if_pos (show nI 70 = (70 : Int32) from rfl)]
        · rw [if_neg (show ¬ nI 71 = (70 : Int32) by decide), if_pos (show nI 71 = (71 : Int32) from rfl)]
        · rw [if_neg (show ¬ nI 72 = (70 : Int32) by decide), if_neg (show ¬ nI 72 = (71 : Int32) by decide), if_pos (show nI 72 = (72 : Int32) from rfl)]
      rw [y1]
      exact ep_lcC hm q.hs cc
    · rw [y1]
      exact ep_lc0 hm q.hs (c0 sg (by omega) (by omega) (by omega) (by omega)) (N sg 63 (by omega) (by omega) (by omega)) (N sg 61 (by omega) (by omega) (by omega)) (N sg 91 (by omega) (by omega) (by omega)) (N sg 64 (by omega) (by omega) (by omega))
    · rw [y1]
      exact ep_lc0 hm q.hs (c0 sg (by omega) (by omega) (by omega) (by omega)) (N sg 63 (by omega) (by omega) (by omega)) (N sg 61 (by omega) (by omega) (by omega)) (N sg 91 (by omega) (by omega) (by omega)) (N sg 64 (by omega) (by omega) (by omega))
    · obtain ⟨a1, a2, a3⟩ := hp 0 (by omega)
      obtain ⟨h1, h2⟩ := H _ a1 a2 (by omega)
      have np1 : np = 1 := by omega
      rw [y1]
      exact ep_lcL hm q.hs (Or.inr (Or.inr (by omega))) q.hn (by omega) (by omega) (by rw [np1]; exact a3) h1 h2
theorem ep_lcR {φ D : Nat → Nat × Nat} {u nl : Nat} {C G : em_M} (ln : ep_Ln φ D u nl C G) : ∀ d e, e < u → (φ e).2 = 0 → (D e).1 ≤ d → es_X12_lastCallsR d G (nI (φ e).1) ∧ et_X12_lastCallsR d G (nI (φ e).1) = nI (D e).2 := by
  intro d
  induction d with
  | zero => intro e he _ hd; exact absurd (ep_D1 ln he) (by omega)
  | succ d ih =>
    intro e he h0 hd
    rw [es_X12_lastCallsR, et_X12_lastCallsR]
    exact ep_lcs ln ih he h0 hd
/-- the CATCHES of a LINE are counted -/
theorem ep_o66 {G : em_M} {l n : Nat} (hl : l < 8) (n1 : n ≤ 101) (h : G.1 126 l = nI n) : ∀ j k fu, k + j = n → j < fu → es_X12_of_66 fu G (nI l) (nI (ep_ct (G.1 122) (101 * l) k)) (nI k) ∧ et_X12_of_66 fu G (nI l) (nI (ep_ct (G.1 122) (101 * l) k)) (nI k) = nI (ep_ct (G.1 122) (101 * l) n) := by
  intro j
  induction j with
  | zero =>
    intro k fu hk hf
    obtain ⟨fu, rfl⟩ : ∃ f, fu = f + 1 := ⟨fu - 1, by omega⟩
    have le : nI n ≤ nI k := nI_le (by omega) (by omega)
    rw [es_X12_of_66, et_X12_of_66, nI_clamp (show l < 2 ^ 31 by omega), h, if_pos le, show k = n by omega]
    exact ⟨⟨vp_in_nI hl (by omega), fun _ => trivial, fun q => absurd (nI_le (Nat.le_refl _) (by omega)) q⟩, rfl⟩
  | succ j ih =>
    intro k fu hk hf
    obtain ⟨fu, rfl⟩ : ∃ f, fu = f + 1 := ⟨fu - 1, by omega⟩
    have le : ¬ nI n ≤ nI k := nI_ge (by omega) (by omega)
    obtain ⟨i1, i2⟩ := ih (k + 1) fu (by omega) (by omega)
    rw [ep_ct] at i1 i2
    rw [es_X12_of_66, et_X12_of_66, nI_clamp (show l < 2 ^ 31 by omega), h, if_neg le, eq_x101, nI_add, nI_clamp (show 101 * l + k < 2 ^ 31 by omega), nI_1, nI_1, eq_p0]
    have v1 : vp_in (nI l) 8 := vp_in_nI hl (by omega)
    have v2 : vp_in (nI (101 * l + k)) 808 := vp_in_nI (by omega) (by omega)
    by_cases q : G.1 122 (101 * l + k) = 64
    · have q' : G.1 122 (101 * l + k) = nI 64 := q
      rw [if_pos q'] at i1 i2
      rw [if_pos q]
      exact ⟨⟨v1, fun y => absurd y le, fun _ => ⟨v2, fun _ => i1, fun y => absurd q y⟩⟩, i2⟩
    · have q' : ¬ G.1 122 (101 * l + k) = nI 64 := q
      rw [if_neg q', Nat.add_zero] at i1 i2
      rw [if_neg q]
      exact ⟨⟨v1, fun y => absurd y le, fun _ => ⟨v2, fun y => absurd y q, fun _ => i1⟩⟩, i2⟩
theorem pm_of {φ D : Nat → Nat × Nat} {u nl : Nat} {C G : em_M} (h : ep_I φ D u nl C G) (line what : Int32) : es_X12_of G line what ∧ et_X11_of C line what = et_X12_of G line what := by
  have ll : et_X12_isLine G line = et_X2_has C line := eq_line h.ln line
  have win : et_X12_in G what.toInt64 (0 : Int64) (3 : Int64) = if what < 0 then 0 else if 3 < what then 0 else 1 := eq_in G what 0 3
  rw [es_X12_of, et_X11_of, et_X12_of, ll]
  dsimp only
  by_cases p : et_X2_has C line = 0
  · rw [if_pos p, if_pos p]
    exact ⟨fun r e => ⟨fun _ => trivial, fun q => absurd (e.symm.trans p) q⟩, rfl⟩
  rw [if_neg p, if_neg p]
  obtain ⟨l, hl, rfl⟩ := eq_lineN h.ln p
  have n8 := h.ln.n8
  by_cases w0 : what < 0
  · rw [if_pos w0] at win
    rw [if_pos w0, win, if_pos rfl]
    refine ⟨fun r e => ⟨fun _ => trivial, fun _ r3 e3 => ⟨fun _ => trivial, fun q => absurd e3.symm q⟩⟩, rfl⟩
  rw [if_neg w0] at win
  rw [if_neg w0]
  obtain ⟨j, hj, rfl⟩ := nI_of w0
  by_cases j4 : j < 4
  · have w4 : nI j < (4 : Int32) := nI_lt (b := 4) j4 (by omega)
    have w3 : ¬ (3 : Int32) < nI j := nI_nlt (a := 3) (by omega) (by omega)
    have n1 : ¬ (1 : Int32) = 0 := by decide
    rw [if_neg w3] at win
    have fc : et_X2_fact C (nI l) (nI j) = C.1 8 (4 * l + j) := by
      rw [et_X2_fact, eq_y4, nI_add, show l * 4 + j = 4 * l + j by omega]
      exact eq_atS _ (by omega) (by omega)
    rw [if_pos w4, win, if_neg n1, fc, eq_x101, nI_clamp (show l < 2 ^ 31 by omega)]
    obtain ⟨n, n1', n2, n3, n4⟩ := h.ln.fa l hl
    obtain ⟨e, e1, e2, e3, e4, e5⟩ := h.ln.ro l hl
    have e31 : (φ e).1 = 101 * l := by rw [e3]
    have d8 := (h.ln.dl e e1).2
    have R1 := ep_dpR h.ln 9 e e1 (by rw [e3]) (by omega)
    have R3 := ep_lcR h.ln 9 e e1 (by rw [e3]) (by omega)
    have R2 := ep_o66 (G := G) (l := l) (n := n) (by omega) n1' n2 n 0 102 (by omega) (by omega)
    rw [e31] at R1 R3
    rw [ep_ct, nI_0] at R2
    have v8 : vp_in (nI l) 8 := vp_in_nI (by omega) (by omega)
    refine ⟨fun r e => ⟨fun _ => trivial, fun _ r3 e3 => ⟨fun _ => trivial, fun _ => ⟨fun _ => ⟨v8, trivial⟩, fun _ => ⟨fun _ => ⟨R1.1, fun _ _ => trivial⟩, fun _ => ⟨fun _ => ⟨R3.1, fun _ _ => trivial⟩, fun _ => R2.1⟩⟩⟩⟩⟩, ?_⟩
    have hh : j = 0 ∨ j = 1 ∨ j = 2 ∨ j = 3 := by omega
    rcases hh with rfl | rfl | rfl | rfl
    · rw [if_pos (show nI 0 = (0 : Int32) from rfl), n2]; exact n3
    · rw [if_neg (show ¬ nI 1 = (0 : Int32) by decide), if_pos (show nI 1 = (1 : Int32) from rfl), R1.2]; exact e4
    · rw [if_neg (show ¬ nI 2 = (0 : Int32) by decide), if_neg (show ¬ nI 2 = (1 : Int32) by decide), if_neg (show ¬ nI 2 = (3 : Int32) by decide), R2.2]; exact n4
    · rw [if_neg (show ¬ nI 3 = (0 : Int32) by decide), if_neg (show ¬ nI 3 = (1 : Int32) by decide), if_pos (show nI 3 = (3 : Int32) from rfl), R3.2]; exact e5
  · have w4 : ¬ nI j < (4 : Int32) := nI_nlt (b := 4) (by omega) (by omega)
    have w3 : (3 : Int32) < nI j := nI_lt (a := 3) (by omega) (by omega)
    rw [if_pos w3] at win
    rw [if_neg w4, win, if_pos rfl]
    refine ⟨fun r e => ⟨fun _ => trivial, fun _ r3 e3 => ⟨fun _ => trivial, fun q => absurd e3.symm q⟩⟩, rfl⟩
theorem pl_of {M : em_M} (hI : ep_Inv M) (line : Int32) (what : Int32) {r1 : Int32} (e1 : et_X11_of M line what = r1) : es_X12_of M line what ∧ ∀ (r2 : Int32), et_X12_of M line what = r2 → r1 = r2 ∧ ep_Inv M :=
  ep_goP hI (fun M => et_X11_of M line what) (fun M => et_X12_of M line what) (fun M => es_X12_of M line what) (fun _ _ _ _ _ _ h => pm_of h line what) e1
