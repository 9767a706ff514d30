theorem ef_pI' (M : em_M) (o k : Nat) (v : Int32) {c : Nat} (h : c ≠ o) : (em_pI M o k v).1 c = M.1 c := em_pI_ne M k v h
theorem ef_pL' (M : em_M) (o k : Nat) (v : Int64) {c : Nat} (h : c ≠ o) : (em_pL M o k v).2 c = M.2 c := em_pL_ne M k v h
theorem ef_put1 {a n : Nat} {M : em_M} {i v : Int32} {c : Nat} (h : c ≠ a) : (et_X11_put a n M i v).1 c = M.1 c := by
  unfold et_X11_put
  dsimp only
  repeat' split
  all_goals first | rfl | (simp only [ef_pI' _ _ _ _ h])
theorem ef_put12 {a n : Nat} {M : em_M} {i v : Int32} : (et_X11_put a n M i v).2 = M.2 := by
  unfold et_X11_put
  dsimp only
  repeat' split
  all_goals rfl
theorem ef_putL {a n : Nat} {M : em_M} {i : Int32} {v : Int64} {c : Nat} (h : c ≠ a) : (et_X11_put_ a n M i v).2 c = M.2 c := by
  unfold et_X11_put_
  dsimp only
  repeat' split
  all_goals first | rfl | (simp only [ef_pL' _ _ _ _ h])
theorem ef_putL1 {a n : Nat} {M : em_M} {i : Int32} {v : Int64} : (et_X11_put_ a n M i v).1 = M.1 := by
  unfold et_X11_put_
  dsimp only
  repeat' split
  all_goals rfl
theorem ef_cI (M : em_M) (o o2 sp dp n : Nat) {c : Nat} (h : c ≠ o2) : (em_cI M o o2 sp dp n).1 c = M.1 c := by simp [em_cI, h]
theorem ef_cL (M : em_M) (o o2 sp dp n : Nat) {c : Nat} (h : c ≠ o2) : (em_cL M o o2 sp dp n).2 c = M.2 c := by simp [em_cL, h]
theorem ef1_X0_clear  (w : Nat) (M : em_M) {c : Nat} (h : c < w + 8 ∨ w + 16 < c) : (et_X0_clear w M).1 c = M.1 c := by
  obtain ⟨M2, eM2⟩ : ∃ z, em_pI M (w + 8) 0 (1 : Int32) = z := ⟨_, rfl⟩
  have fM2 : M2.1 c = M.1 c := by rw [← eM2]; exact ef_pI' _ _ _ _ (by omega)
  rw [show et_X0_clear w M = M2 from by simp only [et_X0_clear, eM2]]
  exact fM2
theorem ef2_X0_clear  (w : Nat) (M : em_M) {c : Nat} (h : c < w + 8 ∨ w + 16 < c) : (et_X0_clear w M).2 c = M.2 c := by
  obtain ⟨M2, eM2⟩ : ∃ z, em_pI M (w + 8) 0 (1 : Int32) = z := ⟨_, rfl⟩
  have fM2 : M2.2 c = M.2 c := by rw [← eM2]; exact rfl
  rw [show et_X0_clear w M = M2 from by simp only [et_X0_clear, eM2]]
  exact fM2
theorem ef1_X0_add  (w : Nat) (M : em_M) (chain : Int32) (sort : Int32) (behindWhich : Int32) (e : Int32) (scope : Int32) {c : Nat} (h : c < w + 8 ∨ w + 16 < c) : (et_X0_add w M chain sort behindWhich e scope).2.1 c = M.1 c := by
  obtain ⟨r13, er13⟩ : ∃ z, et_X11_at (w + 10) 301 M chain = z := ⟨_, rfl⟩
  by_cases c14 : (40 : Int32) < (r13 + (1 : Int32))
  · skip
    rw [show et_X0_add w M chain sort behindWhich e scope = ((0 : Int32), M) from by simp only [et_X0_add, er13, if_pos c14]]
  · skip
    by_cases c15 : (M.1 (w + 8) 0) < (301 : Int32)
    · skip
      obtain ⟨M16, eM16⟩ : ∃ z, em_pI M (w + 8) 0 ((M.1 (w + 8) 0) + (1 : Int32)) = z := ⟨_, rfl⟩
      have fM16 : M16.1 c = M.1 c := by rw [← eM16]; exact ef_pI' _ _ _ _ (by omega)
      obtain ⟨M17, eM17⟩ : ∃ z, et_X11_put (w + 9) 301 M16 (M.1 (w + 8) 0) chain = z := ⟨_, rfl⟩
      have fM17 : M17.1 c = M16.1 c := by rw [← eM17]; exact ef_put1 (by omega)
      obtain ⟨M18, eM18⟩ : ∃ z, et_X11_put (w + 10) 301 M17 (M.1 (w + 8) 0) (r13 + (1 : Int32)) = z := ⟨_, rfl⟩
      have fM18 : M18.1 c = M17.1 c := by rw [← eM18]; exact ef_put1 (by omega)
      obtain ⟨M19, eM19⟩ : ∃ z, et_X11_put (w + 11) 301 M18 (M.1 (w + 8) 0) sort = z := ⟨_, rfl⟩
      have fM19 : M19.1 c = M18.1 c := by rw [← eM19]; exact ef_put1 (by omega)
      obtain ⟨M20, eM20⟩ : ∃ z, et_X11_put (w + 12) 301 M19 (M.1 (w + 8) 0) behindWhich = z := ⟨_, rfl⟩
      have fM20 : M20.1 c = M19.1 c := by rw [← eM20]; exact ef_put1 (by omega)
      obtain ⟨M21, eM21⟩ : ∃ z, et_X11_put (w + 13) 301 M20 (M.1 (w + 8) 0) e = z := ⟨_, rfl⟩
      have fM21 : M21.1 c = M20.1 c := by rw [← eM21]; exact ef_put1 (by omega)
      obtain ⟨M22, eM22⟩ : ∃ z, et_X11_put (w + 14) 301 M21 (M.1 (w + 8) 0) scope = z := ⟨_, rfl⟩
      have fM22 : M22.1 c = M21.1 c := by rw [← eM22]; exact ef_put1 (by omega)
      obtain ⟨M23, eM23⟩ : ∃ z, et_X11_put (w + 15) 301 M22 (M.1 (w + 8) 0) (0 : Int32) = z := ⟨_, rfl⟩
      have fM23 : M23.1 c = M22.1 c := by rw [← eM23]; exact ef_put1 (by omega)
      obtain ⟨M24, eM24⟩ : ∃ z, et_X11_put_ (w + 16) 301 M23 (M.1 (w + 8) 0) (0 : Int64) = z := ⟨_, rfl⟩
      have fM24 : M24.1 c = M23.1 c := by rw [← eM24]; exact (congrFun ef_putL1 _)
      rw [show et_X0_add w M chain sort behindWhich e scope = ((M.1 (w + 8) 0), M24) from by simp only [et_X0_add, er13, if_neg c14, if_pos c15, eM16, eM17, eM18, eM19, eM20, eM21, eM22, eM23, eM24]]
      show M24.1 c = M.1 c
      exact (fM24).trans ((fM23).trans ((fM22).trans ((fM21).trans ((fM20).trans ((fM19).trans ((fM18).trans ((fM17).trans (fM16))))))))
    · skip
      rw [show et_X0_add w M chain sort behindWhich e scope = ((0 : Int32), M) from by simp only [et_X0_add, er13, if_neg c14, if_neg c15]]
theorem ef2_X0_add  (w : Nat) (M : em_M) (chain : Int32) (sort : Int32) (behindWhich : Int32) (e : Int32) (scope : Int32) {c : Nat} (h : c < w + 8 ∨ w + 16 < c) : (et_X0_add w M chain sort behindWhich e scope).2.2 c = M.2 c := by
  obtain ⟨r13, er13⟩ : ∃ z, et_X11_at (w + 10) 301 M chain = z := ⟨_, rfl⟩
  by_cases c14 : (40 : Int32) < (r13 + (1 : Int32))
  · skip
    rw [show et_X0_add w M chain sort behindWhich e scope = ((0 : Int32), M) from by simp only [et_X0_add, er13, if_pos c14]]
  · skip
    by_cases c15 : (M.1 (w + 8) 0) < (301 : Int32)
    · skip
      obtain ⟨M16, eM16⟩ : ∃ z, em_pI M (w + 8) 0 ((M.1 (w + 8) 0) + (1 : Int32)) = z := ⟨_, rfl⟩
      have fM16 : M16.2 c = M.2 c := by rw [← eM16]; exact rfl
      obtain ⟨M17, eM17⟩ : ∃ z, et_X11_put (w + 9) 301 M16 (M.1 (w + 8) 0) chain = z := ⟨_, rfl⟩
      have fM17 : M17.2 c = M16.2 c := by rw [← eM17]; exact (congrFun ef_put12 _)
      obtain ⟨M18, eM18⟩ : ∃ z, et_X11_put (w + 10) 301 M17 (M.1 (w + 8) 0) (r13 + (1 : Int32)) = z := ⟨_, rfl⟩
      have fM18 : M18.2 c = M17.2 c := by rw [← eM18]; exact (congrFun ef_put12 _)
      obtain ⟨M19, eM19⟩ : ∃ z, et_X11_put (w + 11) 301 M18 (M.1 (w + 8) 0) sort = z := ⟨_, rfl⟩
      have fM19 : M19.2 c = M18.2 c := by rw [← eM19]; exact (congrFun ef_put12 _)
      obtain ⟨M20, eM20⟩ : ∃ z, et_X11_put (w + 12) 301 M19 (M.1 (w + 8) 0) behindWhich = z := ⟨_, rfl⟩
      have fM20 : M20.2 c = M19.2 c := by rw [← eM20]; exact (congrFun ef_put12 _)
      obtain ⟨M21, eM21⟩ : ∃ z, et_X11_put (w + 13) 301 M20 (M.1 (w + 8) 0) e = z := ⟨_, rfl⟩
      have fM21 : M21.2 c = M20.2 c := by rw [← eM21]; exact (congrFun ef_put12 _)
      obtain ⟨M22, eM22⟩ : ∃ z, et_X11_put (w + 14) 301 M21 (M.1 (w + 8) 0) scope = z := ⟨_, rfl⟩
      have fM22 : M22.2 c = M21.2 c := by rw [← eM22]; exact (congrFun ef_put12 _)
      obtain ⟨M23, eM23⟩ : ∃ z, et_X11_put (w + 15) 301 M22 (M.1 (w + 8) 0) (0 : Int32) = z := ⟨_, rfl⟩
      have fM23 : M23.2 c = M22.2 c := by rw [← eM23]; exact (congrFun ef_put12 _)
      obtain ⟨M24, eM24⟩ : ∃ z, et_X11_put_ (w + 16) 301 M23 (M.1 (w + 8) 0) (0 : Int64) = z := ⟨_, rfl⟩
      have fM24 : M24.2 c = M23.2 c := by rw [← eM24]; exact ef_putL (by omega)
      rw [show et_X0_add w M chain sort behindWhich e scope = ((M.1 (w + 8) 0), M24) from by simp only [et_X0_add, er13, if_neg c14, if_pos c15, eM16, eM17, eM18, eM19, eM20, eM21, eM22, eM23, eM24]]
      show M24.2 c = M.2 c
      exact (fM24).trans ((fM23).trans ((fM22).trans ((fM21).trans ((fM20).trans ((fM19).trans ((fM18).trans ((fM17).trans (fM16))))))))
    · skip
      rw [show et_X0_add w M chain sort behindWhich e scope = ((0 : Int32), M) from by simp only [et_X0_add, er13, if_neg c14, if_neg c15]]
theorem ef1_X0_keep  (w : Nat) (M : em_M) (frame : Int32) (thing : Int64) (escape : Int32) {c : Nat} (h : c < w + 8 ∨ w + 16 < c) : (et_X0_keep w M frame thing escape).1 c = M.1 c := by
  obtain ⟨M3, eM3⟩ : ∃ z, et_X11_put_ (w + 16) 301 M frame thing = z := ⟨_, rfl⟩
  have fM3 : M3.1 c = M.1 c := by rw [← eM3]; exact (congrFun ef_putL1 _)
  obtain ⟨M4, eM4⟩ : ∃ z, et_X11_put (w + 15) 301 M3 frame escape = z := ⟨_, rfl⟩
  have fM4 : M4.1 c = M3.1 c := by rw [← eM4]; exact ef_put1 (by omega)
  rw [show et_X0_keep w M frame thing escape = M4 from by simp only [et_X0_keep, eM3, eM4]]
  exact (fM4).trans (fM3)
theorem ef2_X0_keep  (w : Nat) (M : em_M) (frame : Int32) (thing : Int64) (escape : Int32) {c : Nat} (h : c < w + 8 ∨ w + 16 < c) : (et_X0_keep w M frame thing escape).2 c = M.2 c := by
  obtain ⟨M3, eM3⟩ : ∃ z, et_X11_put_ (w + 16) 301 M frame thing = z := ⟨_, rfl⟩
  have fM3 : M3.2 c = M.2 c := by rw [← eM3]; exact ef_putL (by omega)
  obtain ⟨M4, eM4⟩ : ∃ z, et_X11_put (w + 15) 301 M3 frame escape = z := ⟨_, rfl⟩
  have fM4 : M4.2 c = M3.2 c := by rw [← eM4]; exact (congrFun ef_put12 _)
  rw [show et_X0_keep w M frame thing escape = M4 from by simp only [et_X0_keep, eM3, eM4]]
  exact (fM4).trans (fM3)
theorem ef1_X0_copyFrom  (w v : Nat) (M : em_M) {c : Nat} (h : c < w + 8 ∨ w + 16 < c) : (et_X0_copyFrom w v M).1 c = M.1 c := by
  obtain ⟨M10, eM10⟩ : ∃ z, em_pI M (w + 8) 0 (M.1 (v + 8) 0) = z := ⟨_, rfl⟩
  have fM10 : M10.1 c = M.1 c := by rw [← eM10]; exact ef_pI' _ _ _ _ (by omega)
  obtain ⟨M11, eM11⟩ : ∃ z, et_X11_copyRow (v + 9) 301 (w + 9) 301 M10 = z := ⟨_, rfl⟩
  have fM11 : M11.1 c = M10.1 c := by rw [← eM11]; exact ef_cpI _ _ _ _ _ (by omega)
  obtain ⟨M12, eM12⟩ : ∃ z, et_X11_copyRow (v + 10) 301 (w + 10) 301 M11 = z := ⟨_, rfl⟩
  have fM12 : M12.1 c = M11.1 c := by rw [← eM12]; exact ef_cpI _ _ _ _ _ (by omega)
  obtain ⟨M13, eM13⟩ : ∃ z, et_X11_copyRow (v + 11) 301 (w + 11) 301 M12 = z := ⟨_, rfl⟩
  have fM13 : M13.1 c = M12.1 c := by rw [← eM13]; exact ef_cpI _ _ _ _ _ (by omega)
  obtain ⟨M14, eM14⟩ : ∃ z, et_X11_copyRow (v + 12) 301 (w + 12) 301 M13 = z := ⟨_, rfl⟩
  have fM14 : M14.1 c = M13.1 c := by rw [← eM14]; exact ef_cpI _ _ _ _ _ (by omega)
  obtain ⟨M15, eM15⟩ : ∃ z, et_X11_copyRow (v + 13) 301 (w + 13) 301 M14 = z := ⟨_, rfl⟩
  have fM15 : M15.1 c = M14.1 c := by rw [← eM15]; exact ef_cpI _ _ _ _ _ (by omega)
  obtain ⟨M16, eM16⟩ : ∃ z, et_X11_copyRow (v + 14) 301 (w + 14) 301 M15 = z := ⟨_, rfl⟩
  have fM16 : M16.1 c = M15.1 c := by rw [← eM16]; exact ef_cpI _ _ _ _ _ (by omega)
  obtain ⟨M17, eM17⟩ : ∃ z, et_X11_copyRow (v + 15) 301 (w + 15) 301 M16 = z := ⟨_, rfl⟩
  have fM17 : M17.1 c = M16.1 c := by rw [← eM17]; exact ef_cpI _ _ _ _ _ (by omega)
  obtain ⟨M18, eM18⟩ : ∃ z, et_X11_copyRow_ (v + 16) 301 (w + 16) 301 M17 = z := ⟨_, rfl⟩
  have fM18 : M18.1 c = M17.1 c := by rw [← eM18]; exact rfl
  rw [show et_X0_copyFrom w v M = M18 from by simp only [et_X0_copyFrom, eM10, eM11, eM12, eM13, eM14, eM15, eM16, eM17, eM18]]
  exact (fM18).trans ((fM17).trans ((fM16).trans ((fM15).trans ((fM14).trans ((fM13).trans ((fM12).trans ((fM11).trans (fM10))))))))
theorem ef2_X0_copyFrom  (w v : Nat) (M : em_M) {c : Nat} (h : c < w + 8 ∨ w + 16 < c) : (et_X0_copyFrom w v M).2 c = M.2 c := by
  obtain ⟨M10, eM10⟩ : ∃ z, em_pI M (w + 8) 0 (M.1 (v + 8) 0) = z := ⟨_, rfl⟩
  have fM10 : M10.2 c = M.2 c := by rw [← eM10]; exact rfl
  obtain ⟨M11, eM11⟩ : ∃ z, et_X11_copyRow (v + 9) 301 (w + 9) 301 M10 = z := ⟨_, rfl⟩
  have fM11 : M11.2 c = M10.2 c := by rw [← eM11]; exact rfl
  obtain ⟨M12, eM12⟩ : ∃ z, et_X11_copyRow (v + 10) 301 (w + 10) 301 M11 = z := ⟨_, rfl⟩
  have fM12 : M12.2 c = M11.2 c := by rw [← eM12]; exact rfl
  obtain ⟨M13, eM13⟩ : ∃ z, et_X11_copyRow (v + 11) 301 (w + 11) 301 M12 = z := ⟨_, rfl⟩
  have fM13 : M13.2 c = M12.2 c := by rw [← eM13]; exact rfl
  obtain ⟨M14, eM14⟩ : ∃ z, et_X11_copyRow (v + 12) 301 (w + 12) 301 M13 = z := ⟨_, rfl⟩
  have fM14 : M14.2 c = M13.2 c := by rw [← eM14]; exact rfl
  obtain ⟨M15, eM15⟩ : ∃ z, et_X11_copyRow (v + 13) 301 (w + 13) 301 M14 = z := ⟨_, rfl⟩
  have fM15 : M15.2 c = M14.2 c := by rw [← eM15]; exact rfl
  obtain ⟨M16, eM16⟩ : ∃ z, et_X11_copyRow (v + 14) 301 (w + 14) 301 M15 = z := ⟨_, rfl⟩
  have fM16 : M16.2 c = M15.2 c := by rw [← eM16]; exact rfl
  obtain ⟨M17, eM17⟩ : ∃ z, et_X11_copyRow (v + 15) 301 (w + 15) 301 M16 = z := ⟨_, rfl⟩
  have fM17 : M17.2 c = M16.2 c := by rw [← eM17]; exact rfl
  obtain ⟨M18, eM18⟩ : ∃ z, et_X11_copyRow_ (v + 16) 301 (w + 16) 301 M17 = z := ⟨_, rfl⟩
  have fM18 : M18.2 c = M17.2 c := by rw [← eM18]; exact ef_cpL _ _ _ _ _ (by omega)
  rw [show et_X0_copyFrom w v M = M18 from by simp only [et_X0_copyFrom, eM10, eM11, eM12, eM13, eM14, eM15, eM16, eM17, eM18]]
  exact (fM18).trans ((fM17).trans ((fM16).trans ((fM15).trans ((fM14).trans ((fM13).trans ((fM12).trans ((fM11).trans (fM10))))))))
theorem ef1_X9_clear  (w : Nat) (M : em_M) {c : Nat} (h : c < w + 17 ∨ w + 21 < c) : (et_X9_clear w M).1 c = M.1 c := by
  obtain ⟨M2, eM2⟩ : ∃ z, em_pI M (w + 17) 0 (1 : Int32) = z := ⟨_, rfl⟩
  have fM2 : M2.1 c = M.1 c := by rw [← eM2]; exact ef_pI' _ _ _ _ (by omega)
  rw [show et_X9_clear w M = M2 from by simp only [et_X9_clear, eM2]]
  exact fM2
theorem ef2_X9_clear  (w : Nat) (M : em_M) {c : Nat} (h : c < w + 17 ∨ w + 21 < c) : (et_X9_clear w M).2 c = M.2 c := by
  obtain ⟨M2, eM2⟩ : ∃ z, em_pI M (w + 17) 0 (1 : Int32) = z := ⟨_, rfl⟩
  have fM2 : M2.2 c = M.2 c := by rw [← eM2]; exact rfl
  rw [show et_X9_clear w M = M2 from by simp only [et_X9_clear, eM2]]
  exact fM2
theorem ef1_X9_add  (w : Nat) (M : em_M) (row : Int32) (e : Int32) (scope : Int32) {c : Nat} (h : c < w + 17 ∨ w + 21 < c) : (et_X9_add w M row e scope).2.1 c = M.1 c := by
  by_cases c8 : (M.1 (w + 17) 0) < (301 : Int32)
  · skip
    obtain ⟨M9, eM9⟩ : ∃ z, em_pI M (w + 17) 0 ((M.1 (w + 17) 0) + (1 : Int32)) = z := ⟨_, rfl⟩
    have fM9 : M9.1 c = M.1 c := by rw [← eM9]; exact ef_pI' _ _ _ _ (by omega)
    obtain ⟨M10, eM10⟩ : ∃ z, et_X11_put (w + 18) 301 M9 (M.1 (w + 17) 0) row = z := ⟨_, rfl⟩
    have fM10 : M10.1 c = M9.1 c := by rw [← eM10]; exact ef_put1 (by omega)
    obtain ⟨r11, er11⟩ : ∃ z, et_X9_height w M10 row = z := ⟨_, rfl⟩
    obtain ⟨M12, eM12⟩ : ∃ z, et_X11_put (w + 19) 301 M10 (M.1 (w + 17) 0) (r11 + (1 : Int32)) = z := ⟨_, rfl⟩
    have fM12 : M12.1 c = M10.1 c := by rw [← eM12]; exact ef_put1 (by omega)
    obtain ⟨M13, eM13⟩ : ∃ z, et_X11_put (w + 20) 301 M12 (M.1 (w + 17) 0) e = z := ⟨_, rfl⟩
    have fM13 : M13.1 c = M12.1 c := by rw [← eM13]; exact ef_put1 (by omega)
    obtain ⟨M14, eM14⟩ : ∃ z, et_X11_put (w + 21) 301 M13 (M.1 (w + 17) 0) scope = z := ⟨_, rfl⟩
    have fM14 : M14.1 c = M13.1 c := by rw [← eM14]; exact ef_put1 (by omega)
    rw [show et_X9_add w M row e scope = ((M.1 (w + 17) 0), M14) from by simp only [et_X9_add, if_pos c8, eM9, eM10, er11, eM12, eM13, eM14]]
    show M14.1 c = M.1 c
    exact (fM14).trans ((fM13).trans ((fM12).trans ((fM10).trans (fM9))))
  · skip
    rw [show et_X9_add w M row e scope = (row, M) from by simp only [et_X9_add, if_neg c8]]
theorem ef2_X9_add  (w : Nat) (M : em_M) (row : Int32) (e : Int32) (scope : Int32) {c : Nat} (h : c < w + 17 ∨ w + 21 < c) : (et_X9_add w M row e scope).2.2 c = M.2 c := by
  by_cases c8 : (M.1 (w + 17) 0) < (301 : Int32)
  · skip
    obtain ⟨M9, eM9⟩ : ∃ z, em_pI M (w + 17) 0 ((M.1 (w + 17) 0) + (1 : Int32)) = z := ⟨_, rfl⟩
    have fM9 : M9.2 c = M.2 c := by rw [← eM9]; exact rfl
    obtain ⟨M10, eM10⟩ : ∃ z, et_X11_put (w + 18) 301 M9 (M.1 (w + 17) 0) row = z := ⟨_, rfl⟩
    have fM10 : M10.2 c = M9.2 c := by rw [← eM10]; exact (congrFun ef_put12 _)
    obtain ⟨r11, er11⟩ : ∃ z, et_X9_height w M10 row = z := ⟨_, rfl⟩
    obtain ⟨M12, eM12⟩ : ∃ z, et_X11_put (w + 19) 301 M10 (M.1 (w + 17) 0) (r11 + (1 : Int32)) = z := ⟨_, rfl⟩
    have fM12 : M12.2 c = M10.2 c := by rw [← eM12]; exact (congrFun ef_put12 _)
    obtain ⟨M13, eM13⟩ : ∃ z, et_X11_put (w + 20) 301 M12 (M.1 (w + 17) 0) e = z := ⟨_, rfl⟩
    have fM13 : M13.2 c = M12.2 c := by rw [← eM13]; exact (congrFun ef_put12 _)
    obtain ⟨M14, eM14⟩ : ∃ z, et_X11_put (w + 21) 301 M13 (M.1 (w + 17) 0) scope = z := ⟨_, rfl⟩
    have fM14 : M14.2 c = M13.2 c := by rw [← eM14]; exact (congrFun ef_put12 _)
    rw [show et_X9_add w M row e scope = ((M.1 (w + 17) 0), M14) from by simp only [et_X9_add, if_pos c8, eM9, eM10, er11, eM12, eM13, eM14]]
    show M14.2 c = M.2 c
    exact (fM14).trans ((fM13).trans ((fM12).trans ((fM10).trans (fM9))))
  · skip
    rw [show et_X9_add w M row e scope = (row, M) from by simp only [et_X9_add, if_neg c8]]
theorem ef1_X9_copyFrom  (w v : Nat) (M : em_M) {c : Nat} (h : c < w + 17 ∨ w + 21 < c) : (et_X9_copyFrom w v M).1 c = M.1 c := by
  obtain ⟨M6, eM6⟩ : ∃ z, em_pI M (w + 17) 0 (M.1 (v + 17) 0) = z := ⟨_, rfl⟩
  have fM6 : M6.1 c = M.1 c := by rw [← eM6]; exact ef_pI' _ _ _ _ (by omega)
  obtain ⟨M7, eM7⟩ : ∃ z, et_X11_copyRow (v + 18) 301 (w + 18) 301 M6 = z := ⟨_, rfl⟩
  have fM7 : M7.1 c = M6.1 c := by rw [← eM7]; exact ef_cpI _ _ _ _ _ (by omega)
  obtain ⟨M8, eM8⟩ : ∃ z, et_X11_copyRow (v + 19) 301 (w + 19) 301 M7 = z := ⟨_, rfl⟩
  have fM8 : M8.1 c = M7.1 c := by rw [← eM8]; exact ef_cpI _ _ _ _ _ (by omega)
  obtain ⟨M9, eM9⟩ : ∃ z, et_X11_copyRow (v + 20) 301 (w + 20) 301 M8 = z := ⟨_, rfl⟩
  have fM9 : M9.1 c = M8.1 c := by rw [← eM9]; exact ef_cpI _ _ _ _ _ (by omega)
  obtain ⟨M10, eM10⟩ : ∃ z, et_X11_copyRow (v + 21) 301 (w + 21) 301 M9 = z := ⟨_, rfl⟩
  have fM10 : M10.1 c = M9.1 c := by rw [← eM10]; exact ef_cpI _ _ _ _ _ (by omega)
  rw [show et_X9_copyFrom w v M = M10 from by simp only [et_X9_copyFrom, eM6, eM7, eM8, eM9, eM10]]
  exact (fM10).trans ((fM9).trans ((fM8).trans ((fM7).trans (fM6))))
theorem ef2_X9_copyFrom  (w v : Nat) (M : em_M) {c : Nat} (h : c < w + 17 ∨ w + 21 < c) : (et_X9_copyFrom w v M).2 c = M.2 c := by
  obtain ⟨M6, eM6⟩ : ∃ z, em_pI M (w + 17) 0 (M.1 (v + 17) 0) = z := ⟨_, rfl⟩
  have fM6 : M6.2 c = M.2 c := by rw [← eM6]; exact rfl
  obtain ⟨M7, eM7⟩ : ∃ z, et_X11_copyRow (v + 18) 301 (w + 18) 301 M6 = z := ⟨_, rfl⟩
  have fM7 : M7.2 c = M6.2 c := by rw [← eM7]; exact rfl
  obtain ⟨M8, eM8⟩ : ∃ z, et_X11_copyRow (v + 19) 301 (w + 19) 301 M7 = z := ⟨_, rfl⟩
  have fM8 : M8.2 c = M7.2 c := by rw [← eM8]; exact rfl
  obtain ⟨M9, eM9⟩ : ∃ z, et_X11_copyRow (v + 20) 301 (w + 20) 301 M8 = z := ⟨_, rfl⟩
  have fM9 : M9.2 c = M8.2 c := by rw [← eM9]; exact rfl
  obtain ⟨M10, eM10⟩ : ∃ z, et_X11_copyRow (v + 21) 301 (w + 21) 301 M9 = z := ⟨_, rfl⟩
  have fM10 : M10.2 c = M9.2 c := by rw [← eM10]; exact rfl
  rw [show et_X9_copyFrom w v M = M10 from by simp only [et_X9_copyFrom, eM6, eM7, eM8, eM9, eM10]]
  exact (fM10).trans ((fM9).trans ((fM8).trans ((fM7).trans (fM6))))
theorem ef1_X7_clear  (w : Nat) (M : em_M) {c : Nat} (h : c < w + 6 ∨ w + 7 < c) : (et_X7_clear w M).1 c = M.1 c := by
  obtain ⟨M6, eM6⟩ : ∃ z, em_pI M (w + 6) 0 (1 : Int32) = z := ⟨_, rfl⟩
  have fM6 : M6.1 c = M.1 c := by rw [← eM6]; exact ef_pI' _ _ _ _ (by omega)
  obtain ⟨M7, eM7⟩ : ∃ z, et_X11_put_ (w + 7) 1204 M6 (0 : Int32) (-9223372036854775808 : Int64) = z := ⟨_, rfl⟩
  have fM7 : M7.1 c = M6.1 c := by rw [← eM7]; exact (congrFun ef_putL1 _)
  obtain ⟨M8, eM8⟩ : ∃ z, et_X11_put_ (w + 7) 1204 M7 (1 : Int32) (-9223372036854775808 : Int64) = z := ⟨_, rfl⟩
  have fM8 : M8.1 c = M7.1 c := by rw [← eM8]; exact (congrFun ef_putL1 _)
  obtain ⟨M9, eM9⟩ : ∃ z, et_X11_put_ (w + 7) 1204 M8 (2 : Int32) (-9223372036854775808 : Int64) = z := ⟨_, rfl⟩
  have fM9 : M9.1 c = M8.1 c := by rw [← eM9]; exact (congrFun ef_putL1 _)
  obtain ⟨M10, eM10⟩ : ∃ z, et_X11_put_ (w + 7) 1204 M9 (3 : Int32) (-9223372036854775808 : Int64) = z := ⟨_, rfl⟩
  have fM10 : M10.1 c = M9.1 c := by rw [← eM10]; exact (congrFun ef_putL1 _)
  rw [show et_X7_clear w M = M10 from by simp only [et_X7_clear, eM6, eM7, eM8, eM9, eM10]]
  exact (fM10).trans ((fM9).trans ((fM8).trans ((fM7).trans (fM6))))
theorem ef2_X7_clear  (w : Nat) (M : em_M) {c : Nat} (h : c < w + 6 ∨ w + 7 < c) : (et_X7_clear w M).2 c = M.2 c := by
  obtain ⟨M6, eM6⟩ : ∃ z, em_pI M (w + 6) 0 (1 : Int32) = z := ⟨_, rfl⟩
  have fM6 : M6.2 c = M.2 c := by rw [← eM6]; exact rfl
  obtain ⟨M7, eM7⟩ : ∃ z, et_X11_put_ (w + 7) 1204 M6 (0 : Int32) (-9223372036854775808 : Int64) = z := ⟨_, rfl⟩
  have fM7 : M7.2 c = M6.2 c := by rw [← eM7]; exact ef_putL (by omega)
  obtain ⟨M8, eM8⟩ : ∃ z, et_X11_put_ (w + 7) 1204 M7 (1 : Int32) (-9223372036854775808 : Int64) = z := ⟨_, rfl⟩
  have fM8 : M8.2 c = M7.2 c := by rw [← eM8]; exact ef_putL (by omega)
  obtain ⟨M9, eM9⟩ : ∃ z, et_X11_put_ (w + 7) 1204 M8 (2 : Int32) (-9223372036854775808 : Int64) = z := ⟨_, rfl⟩
  have fM9 : M9.2 c = M8.2 c := by rw [← eM9]; exact ef_putL (by omega)
  obtain ⟨M10, eM10⟩ : ∃ z, et_X11_put_ (w + 7) 1204 M9 (3 : Int32) (-9223372036854775808 : Int64) = z := ⟨_, rfl⟩
  have fM10 : M10.2 c = M9.2 c := by rw [← eM10]; exact ef_putL (by omega)
  rw [show et_X7_clear w M = M10 from by simp only [et_X7_clear, eM6, eM7, eM8, eM9, eM10]]
  exact (fM10).trans ((fM9).trans ((fM8).trans ((fM7).trans (fM6))))
theorem ef1_X7_bind_31_4  (w : Nat)  (M : em_M) (x1 : Int32) (x2 : Int32) (x3 : Int64) (x5 : Int32) {c : Nat} (h : c < w + 6 ∨ w + 7 < c) : (et_X7_bind_31_4 w M x1 x2 x3 x5).2.1 c = M.1 c := by
  rw [show et_X7_bind_31_4 w M x1 x2 x3 x5 = (x5, M) from by simp only [et_X7_bind_31_4]]
theorem ef2_X7_bind_31_4  (w : Nat)  (M : em_M) (x1 : Int32) (x2 : Int32) (x3 : Int64) (x5 : Int32) {c : Nat} (h : c < w + 6 ∨ w + 7 < c) : (et_X7_bind_31_4 w M x1 x2 x3 x5).2.2 c = M.2 c := by
  rw [show et_X7_bind_31_4 w M x1 x2 x3 x5 = (x5, M) from by simp only [et_X7_bind_31_4]]
theorem ef1_X7_bind_65_3  (w : Nat)  (M : em_M) (x1 : Int32) (x2 : Int32) (x3 : Int64) (x5 : Int32) (s0 : Int64) (s1 : Int32) {c : Nat} (h : c < w + 6 ∨ w + 7 < c) : (et_X7_bind_65_3 w M x1 x2 x3 x5 s0 s1).2.1 c = M.1 c := by
  obtain ⟨M28, eM28⟩ : ∃ z, et_X11_put_ (w + 7) 1204 M s1 s0 = z := ⟨_, rfl⟩
  have fM28 : M28.1 c = M.1 c := by rw [← eM28]; exact (congrFun ef_putL1 _)
  rw [show et_X7_bind_65_3 w M x1 x2 x3 x5 s0 s1 = et_X7_bind_31_4 w M28 x1 x2 x3 x5 from by simp only [et_X7_bind_65_3, eM28]]
  exact ((ef1_X7_bind_31_4 _ _ _ _ _ _ (by omega))).trans (fM28)
theorem ef2_X7_bind_65_3  (w : Nat)  (M : em_M) (x1 : Int32) (x2 : Int32) (x3 : Int64) (x5 : Int32) (s0 : Int64) (s1 : Int32) {c : Nat} (h : c < w + 6 ∨ w + 7 < c) : (et_X7_bind_65_3 w M x1 x2 x3 x5 s0 s1).2.2 c = M.2 c := by
  obtain ⟨M28, eM28⟩ : ∃ z, et_X11_put_ (w + 7) 1204 M s1 s0 = z := ⟨_, rfl⟩
  have fM28 : M28.2 c = M.2 c := by rw [← eM28]; exact ef_putL (by omega)
  rw [show et_X7_bind_65_3 w M x1 x2 x3 x5 s0 s1 = et_X7_bind_31_4 w M28 x1 x2 x3 x5 from by simp only [et_X7_bind_65_3, eM28]]
  exact ((ef2_X7_bind_31_4 _ _ _ _ _ _ (by omega))).trans (fM28)
theorem ef1_X7_bind_31_3  (w : Nat)  (M : em_M) (x1 : Int32) (x2 : Int32) (x3 : Int64) (x5 : Int32) {c : Nat} (h : c < w + 6 ∨ w + 7 < c) : (et_X7_bind_31_3 w M x1 x2 x3 x5).2.1 c = M.1 c := by
  by_cases c26 : (3 : Int32) = x2
  · skip
    rw [show et_X7_bind_31_3 w M x1 x2 x3 x5 = et_X7_bind_65_3 w M x1 x2 x3 x5 x3 ((x5 * (4 : Int32)) + (3 : Int32)) from by simp only [et_X7_bind_31_3, if_pos c26]]
    exact (ef1_X7_bind_65_3 _ _ _ _ _ _ _ _ (by omega))
  · skip
    obtain ⟨r27, er27⟩ : ∃ z, et_X7_thing w M x1 (3 : Int32) = z := ⟨_, rfl⟩
    rw [show et_X7_bind_31_3 w M x1 x2 x3 x5 = et_X7_bind_65_3 w M x1 x2 x3 x5 r27 ((x5 * (4 : Int32)) + (3 : Int32)) from by simp only [et_X7_bind_31_3, if_neg c26, er27]]
    exact (ef1_X7_bind_65_3 _ _ _ _ _ _ _ _ (by omega))
theorem ef2_X7_bind_31_3  (w : Nat)  (M : em_M) (x1 : Int32) (x2 : Int32) (x3 : Int64) (x5 : Int32) {c : Nat} (h : c < w + 6 ∨ w + 7 < c) : (et_X7_bind_31_3 w M x1 x2 x3 x5).2.2 c = M.2 c := by
  by_cases c26 : (3 : Int32) = x2
  · skip
    rw [show et_X7_bind_31_3 w M x1 x2 x3 x5 = et_X7_bind_65_3 w M x1 x2 x3 x5 x3 ((x5 * (4 : Int32)) + (3 : Int32)) from by simp only [et_X7_bind_31_3, if_pos c26]]
    exact (ef2_X7_bind_65_3 _ _ _ _ _ _ _ _ (by omega))
  · skip
    obtain ⟨r27, er27⟩ : ∃ z, et_X7_thing w M x1 (3 : Int32) = z := ⟨_, rfl⟩
    rw [show et_X7_bind_31_3 w M x1 x2 x3 x5 = et_X7_bind_65_3 w M x1 x2 x3 x5 r27 ((x5 * (4 : Int32)) + (3 : Int32)) from by simp only [et_X7_bind_31_3, if_neg c26, er27]]
    exact (ef2_X7_bind_65_3 _ _ _ _ _ _ _ _ (by omega))
theorem ef1_X7_bind_65_2  (w : Nat)  (M : em_M) (x1 : Int32) (x2 : Int32) (x3 : Int64) (x5 : Int32) (s0 : Int64) (s1 : Int32) {c : Nat} (h : c < w + 6 ∨ w + 7 < c) : (et_X7_bind_65_2 w M x1 x2 x3 x5 s0 s1).2.1 c = M.1 c := by
  obtain ⟨M25, eM25⟩ : ∃ z, et_X11_put_ (w + 7) 1204 M s1 s0 = z := ⟨_, rfl⟩
  have fM25 : M25.1 c = M.1 c := by rw [← eM25]; exact (congrFun ef_putL1 _)
  rw [show et_X7_bind_65_2 w M x1 x2 x3 x5 s0 s1 = et_X7_bind_31_3 w M25 x1 x2 x3 x5 from by simp only [et_X7_bind_65_2, eM25]]
  exact ((ef1_X7_bind_31_3 _ _ _ _ _ _ (by omega))).trans (fM25)
theorem ef2_X7_bind_65_2  (w : Nat)  (M : em_M) (x1 : Int32) (x2 : Int32) (x3 : Int64) (x5 : Int32) (s0 : Int64) (s1 : Int32) {c : Nat} (h : c < w + 6 ∨ w + 7 < c) : (et_X7_bind_65_2 w M x1 x2 x3 x5 s0 s1).2.2 c = M.2 c := by
  obtain ⟨M25, eM25⟩ : ∃ z, et_X11_put_ (w + 7) 1204 M s1 s0 = z := ⟨_, rfl⟩
  have fM25 : M25.2 c = M.2 c := by rw [← eM25]; exact ef_putL (by omega)
  rw [show et_X7_bind_65_2 w M x1 x2 x3 x5 s0 s1 = et_X7_bind_31_3 w M25 x1 x2 x3 x5 from by simp only [et_X7_bind_65_2, eM25]]
  exact ((ef2_X7_bind_31_3 _ _ _ _ _ _ (by omega))).trans (fM25)
theorem ef1_X7_bind_31_2  (w : Nat)  (M : em_M) (x1 : Int32) (x2 : Int32) (x3 : Int64) (x5 : Int32) {c : Nat} (h : c < w + 6 ∨ w + 7 < c) : (et_X7_bind_31_2 w M x1 x2 x3 x5).2.1 c = M.1 c := by
  by_cases c23 : (2 : Int32) = x2
  · skip
    rw [show et_X7_bind_31_2 w M x1 x2 x3 x5 = et_X7_bind_65_2 w M x1 x2 x3 x5 x3 ((x5 * (4 : Int32)) + (2 : Int32)) from by simp only [et_X7_bind_31_2, if_pos c23]]
    exact (ef1_X7_bind_65_2 _ _ _ _ _ _ _ _ (by omega))
  · skip
    obtain ⟨r24, er24⟩ : ∃ z, et_X7_thing w M x1 (2 : Int32) = z := ⟨_, rfl⟩
    rw [show et_X7_bind_31_2 w M x1 x2 x3 x5 = et_X7_bind_65_2 w M x1 x2 x3 x5 r24 ((x5 * (4 : Int32)) + (2 : Int32)) from by simp only [et_X7_bind_31_2, if_neg c23, er24]]
    exact (ef1_X7_bind_65_2 _ _ _ _ _ _ _ _ (by omega))
theorem ef2_X7_bind_31_2  (w : Nat)  (M : em_M) (x1 : Int32) (x2 : Int32) (x3 : Int64) (x5 : Int32) {c : Nat} (h : c < w + 6 ∨ w + 7 < c) : (et_X7_bind_31_2 w M x1 x2 x3 x5).2.2 c = M.2 c := by
  by_cases c23 : (2 : Int32) = x2
  · skip
    rw [show et_X7_bind_31_2 w M x1 x2 x3 x5 = et_X7_bind_65_2 w M x1 x2 x3 x5 x3 ((x5 * (4 : Int32)) + (2 : Int32)) from by simp only [et_X7_bind_31_2, if_pos c23]]
    exact (ef2_X7_bind_65_2 _ _ _ _ _ _ _ _ (by omega))
  · skip
    obtain ⟨r24, er24⟩ : ∃ z, et_X7_thing w M x1 (2 : Int32) = z := ⟨_, rfl⟩
    rw [show et_X7_bind_31_2 w M x1 x2 x3 x5 = et_X7_bind_65_2 w M x1 x2 x3 x5 r24 ((x5 * (4 : Int32)) + (2 : Int32)) from by simp only [et_X7_bind_31_2, if_neg c23, er24]]
    exact (ef2_X7_bind_65_2 _ _ _ _ _ _ _ _ (by omega))
theorem ef1_X7_bind_65_1  (w : Nat)  (M : em_M) (x1 : Int32) (x2 : Int32) (x3 : Int64) (x5 : Int32) (s0 : Int64) (s1 : Int32) {c : Nat} (h : c < w + 6 ∨ w + 7 < c) : (et_X7_bind_65_1 w M x1 x2 x3 x5 s0 s1).2.1 c = M.1 c := by
  obtain ⟨M22, eM22⟩ : ∃ z, et_X11_put_ (w + 7) 1204 M s1 s0 = z := ⟨_, rfl⟩
  have fM22 : M22.1 c = M.1 c := by rw [← eM22]; exact (congrFun ef_putL1 _)
  rw [show et_X7_bind_65_1 w M x1 x2 x3 x5 s0 s1 = et_X7_bind_31_2 w M22 x1 x2 x3 x5 from by simp only [et_X7_bind_65_1, eM22]]
  exact ((ef1_X7_bind_31_2 _ _ _ _ _ _ (by omega))).trans (fM22)
theorem ef2_X7_bind_65_1  (w : Nat)  (M : em_M) (x1 : Int32) (x2 : Int32) (x3 : Int64) (x5 : Int32) (s0 : Int64) (s1 : Int32) {c : Nat} (h : c < w + 6 ∨ w + 7 < c) : (et_X7_bind_65_1 w M x1 x2 x3 x5 s0 s1).2.2 c = M.2 c := by
  obtain ⟨M22, eM22⟩ : ∃ z, et_X11_put_ (w + 7) 1204 M s1 s0 = z := ⟨_, rfl⟩
  have fM22 : M22.2 c = M.2 c := by rw [← eM22]; exact ef_putL (by omega)
  rw [show et_X7_bind_65_1 w M x1 x2 x3 x5 s0 s1 = et_X7_bind_31_2 w M22 x1 x2 x3 x5 from by simp only [et_X7_bind_65_1, eM22]]
  exact ((ef2_X7_bind_31_2 _ _ _ _ _ _ (by omega))).trans (fM22)
theorem ef1_X7_bind_31_1  (w : Nat)  (M : em_M) (x1 : Int32) (x2 : Int32) (x3 : Int64) (x5 : Int32) {c : Nat} (h : c < w + 6 ∨ w + 7 < c) : (et_X7_bind_31_1 w M x1 x2 x3 x5).2.1 c = M.1 c := by
  by_cases c20 : (1 : Int32) = x2
  · skip
    rw [show et_X7_bind_31_1 w M x1 x2 x3 x5 = et_X7_bind_65_1 w M x1 x2 x3 x5 x3 ((x5 * (4 : Int32)) + (1 : Int32)) from by simp only [et_X7_bind_31_1, if_pos c20]]
    exact (ef1_X7_bind_65_1 _ _ _ _ _ _ _ _ (by omega))
  · skip
    obtain ⟨r21, er21⟩ : ∃ z, et_X7_thing w M x1 (1 : Int32) = z := ⟨_, rfl⟩
    rw [show et_X7_bind_31_1 w M x1 x2 x3 x5 = et_X7_bind_65_1 w M x1 x2 x3 x5 r21 ((x5 * (4 : Int32)) + (1 : Int32)) from by simp only [et_X7_bind_31_1, if_neg c20, er21]]
    exact (ef1_X7_bind_65_1 _ _ _ _ _ _ _ _ (by omega))
theorem ef2_X7_bind_31_1  (w : Nat)  (M : em_M) (x1 : Int32) (x2 : Int32) (x3 : Int64) (x5 : Int32) {c : Nat} (h : c < w + 6 ∨ w + 7 < c) : (et_X7_bind_31_1 w M x1 x2 x3 x5).2.2 c = M.2 c := by
  by_cases c20 : (1 : Int32) = x2
  · skip
    rw [show et_X7_bind_31_1 w M x1 x2 x3 x5 = et_X7_bind_65_1 w M x1 x2 x3 x5 x3 ((x5 * (4 : Int32)) + (1 : Int32)) from by simp only [et_X7_bind_31_1, if_pos c20]]
    exact (ef2_X7_bind_65_1 _ _ _ _ _ _ _ _ (by omega))
  · skip
    obtain ⟨r21, er21⟩ : ∃ z, et_X7_thing w M x1 (1 : Int32) = z := ⟨_, rfl⟩
    rw [show et_X7_bind_31_1 w M x1 x2 x3 x5 = et_X7_bind_65_1 w M x1 x2 x3 x5 r21 ((x5 * (4 : Int32)) + (1 : Int32)) from by simp only [et_X7_bind_31_1, if_neg c20, er21]]
    exact (ef2_X7_bind_65_1 _ _ _ _ _ _ _ _ (by omega))
theorem ef1_X7_bind_65_0  (w : Nat)  (M : em_M) (x1 : Int32) (x2 : Int32) (x3 : Int64) (x5 : Int32) (s0 : Int64) (s1 : Int32) {c : Nat} (h : c < w + 6 ∨ w + 7 < c) : (et_X7_bind_65_0 w M x1 x2 x3 x5 s0 s1).2.1 c = M.1 c := by
  obtain ⟨M19, eM19⟩ : ∃ z, et_X11_put_ (w + 7) 1204 M s1 s0 = z := ⟨_, rfl⟩
  have fM19 : M19.1 c = M.1 c := by rw [← eM19]; exact (congrFun ef_putL1 _)
  rw [show et_X7_bind_65_0 w M x1 x2 x3 x5 s0 s1 = et_X7_bind_31_1 w M19 x1 x2 x3 x5 from by simp only [et_X7_bind_65_0, eM19]]
  exact ((ef1_X7_bind_31_1 _ _ _ _ _ _ (by omega))).trans (fM19)
theorem ef2_X7_bind_65_0  (w : Nat)  (M : em_M) (x1 : Int32) (x2 : Int32) (x3 : Int64) (x5 : Int32) (s0 : Int64) (s1 : Int32) {c : Nat} (h : c < w + 6 ∨ w + 7 < c) : (et_X7_bind_65_0 w M x1 x2 x3 x5 s0 s1).2.2 c = M.2 c := by
  obtain ⟨M19, eM19⟩ : ∃ z, et_X11_put_ (w + 7) 1204 M s1 s0 = z := ⟨_, rfl⟩
  have fM19 : M19.2 c = M.2 c := by rw [← eM19]; exact ef_putL (by omega)
  rw [show et_X7_bind_65_0 w M x1 x2 x3 x5 s0 s1 = et_X7_bind_31_1 w M19 x1 x2 x3 x5 from by simp only [et_X7_bind_65_0, eM19]]
  exact ((ef2_X7_bind_31_1 _ _ _ _ _ _ (by omega))).trans (fM19)
theorem ef1_X7_bind_31_0  (w : Nat)  (M : em_M) (x1 : Int32) (x2 : Int32) (x3 : Int64) (x5 : Int32) {c : Nat} (h : c < w + 6 ∨ w + 7 < c) : (et_X7_bind_31_0 w M x1 x2 x3 x5).2.1 c = M.1 c := by
  by_cases c17 : (0 : Int32) = x2
  · skip
    rw [show et_X7_bind_31_0 w M x1 x2 x3 x5 = et_X7_bind_65_0 w M x1 x2 x3 x5 x3 ((x5 * (4 : Int32)) + (0 : Int32)) from by simp only [et_X7_bind_31_0, if_pos c17]]
    exact (ef1_X7_bind_65_0 _ _ _ _ _ _ _ _ (by omega))
  · skip
    obtain ⟨r18, er18⟩ : ∃ z, et_X7_thing w M x1 (0 : Int32) = z := ⟨_, rfl⟩
    rw [show et_X7_bind_31_0 w M x1 x2 x3 x5 = et_X7_bind_65_0 w M x1 x2 x3 x5 r18 ((x5 * (4 : Int32)) + (0 : Int32)) from by simp only [et_X7_bind_31_0, if_neg c17, er18]]
    exact (ef1_X7_bind_65_0 _ _ _ _ _ _ _ _ (by omega))
theorem ef2_X7_bind_31_0  (w : Nat)  (M : em_M) (x1 : Int32) (x2 : Int32) (x3 : Int64) (x5 : Int32) {c : Nat} (h : c < w + 6 ∨ w + 7 < c) : (et_X7_bind_31_0 w M x1 x2 x3 x5).2.2 c = M.2 c := by
  by_cases c17 : (0 : Int32) = x2
  · skip
    rw [show et_X7_bind_31_0 w M x1 x2 x3 x5 = et_X7_bind_65_0 w M x1 x2 x3 x5 x3 ((x5 * (4 : Int32)) + (0 : Int32)) from by simp only [et_X7_bind_31_0, if_pos c17]]
    exact (ef2_X7_bind_65_0 _ _ _ _ _ _ _ _ (by omega))
  · skip
    obtain ⟨r18, er18⟩ : ∃ z, et_X7_thing w M x1 (0 : Int32) = z := ⟨_, rfl⟩
    rw [show et_X7_bind_31_0 w M x1 x2 x3 x5 = et_X7_bind_65_0 w M x1 x2 x3 x5 r18 ((x5 * (4 : Int32)) + (0 : Int32)) from by simp only [et_X7_bind_31_0, if_neg c17, er18]]
    exact (ef2_X7_bind_65_0 _ _ _ _ _ _ _ _ (by omega))
theorem ef1_X7_bind  (w : Nat) (M : em_M) (scope : Int32) (name : Int32) (thing : Int64) {c : Nat} (h : c < w + 6 ∨ w + 7 < c) : (et_X7_bind w M scope name thing).2.1 c = M.1 c := by
  by_cases c15 : (M.1 (w + 6) 0) < (301 : Int32)
  · skip
    obtain ⟨M16, eM16⟩ : ∃ z, em_pI M (w + 6) 0 ((M.1 (w + 6) 0) + (1 : Int32)) = z := ⟨_, rfl⟩
    have fM16 : M16.1 c = M.1 c := by rw [← eM16]; exact ef_pI' _ _ _ _ (by omega)
    rw [show et_X7_bind w M scope name thing = et_X7_bind_31_0 w M16 scope name thing (M.1 (w + 6) 0) from by simp only [et_X7_bind, if_pos c15, eM16]]
    exact ((ef1_X7_bind_31_0 _ _ _ _ _ _ (by omega))).trans (fM16)
  · skip
    rw [show et_X7_bind w M scope name thing = (scope, M) from by simp only [et_X7_bind, if_neg c15]]
theorem ef2_X7_bind  (w : Nat) (M : em_M) (scope : Int32) (name : Int32) (thing : Int64) {c : Nat} (h : c < w + 6 ∨ w + 7 < c) : (et_X7_bind w M scope name thing).2.2 c = M.2 c := by
  by_cases c15 : (M.1 (w + 6) 0) < (301 : Int32)
  · skip
    obtain ⟨M16, eM16⟩ : ∃ z, em_pI M (w + 6) 0 ((M.1 (w + 6) 0) + (1 : Int32)) = z := ⟨_, rfl⟩
    have fM16 : M16.2 c = M.2 c := by rw [← eM16]; exact rfl
    rw [show et_X7_bind w M scope name thing = et_X7_bind_31_0 w M16 scope name thing (M.1 (w + 6) 0) from by simp only [et_X7_bind, if_pos c15, eM16]]
    exact ((ef2_X7_bind_31_0 _ _ _ _ _ _ (by omega))).trans (fM16)
  · skip
    rw [show et_X7_bind w M scope name thing = (scope, M) from by simp only [et_X7_bind, if_neg c15]]
theorem ef1_X7_copyFrom  (w v : Nat) (M : em_M) {c : Nat} (h : c < w + 6 ∨ w + 7 < c) : (et_X7_copyFrom w v M).1 c = M.1 c := by
  obtain ⟨M3, eM3⟩ : ∃ z, em_pI M (w + 6) 0 (M.1 (v + 6) 0) = z := ⟨_, rfl⟩
  have fM3 : M3.1 c = M.1 c := by rw [← eM3]; exact ef_pI' _ _ _ _ (by omega)
  obtain ⟨M4, eM4⟩ : ∃ z, et_X11_copyRow_ (v + 7) 1204 (w + 7) 1204 M3 = z := ⟨_, rfl⟩
  have fM4 : M4.1 c = M3.1 c := by rw [← eM4]; exact rfl
  rw [show et_X7_copyFrom w v M = M4 from by simp only [et_X7_copyFrom, eM3, eM4]]
  exact (fM4).trans (fM3)
theorem ef2_X7_copyFrom  (w v : Nat) (M : em_M) {c : Nat} (h : c < w + 6 ∨ w + 7 < c) : (et_X7_copyFrom w v M).2 c = M.2 c := by
  obtain ⟨M3, eM3⟩ : ∃ z, em_pI M (w + 6) 0 (M.1 (v + 6) 0) = z := ⟨_, rfl⟩
  have fM3 : M3.2 c = M.2 c := by rw [← eM3]; exact rfl
  obtain ⟨M4, eM4⟩ : ∃ z, et_X11_copyRow_ (v + 7) 1204 (w + 7) 1204 M3 = z := ⟨_, rfl⟩
  have fM4 : M4.2 c = M3.2 c := by rw [← eM4]; exact ef_cpL _ _ _ _ _ (by omega)
  rw [show et_X7_copyFrom w v M = M4 from by simp only [et_X7_copyFrom, eM3, eM4]]
  exact (fM4).trans (fM3)
theorem ef1_X10_copyFrom  (w v : Nat) (M : em_M) {c : Nat} (h : c < w ∨ w + 2 < c) : (et_X10_copyFrom w v M).1 c = M.1 c := by
  obtain ⟨M3, eM3⟩ : ∃ z, et_X11_copyRow (v + 1) 4 (w + 1) 4 M = z := ⟨_, rfl⟩
  have fM3 : M3.1 c = M.1 c := by rw [← eM3]; exact ef_cpI _ _ _ _ _ (by omega)
  obtain ⟨M4, eM4⟩ : ∃ z, et_X11_copyRow (v + 2) 3 (w + 2) 3 M3 = z := ⟨_, rfl⟩
  have fM4 : M4.1 c = M3.1 c := by rw [← eM4]; exact ef_cpI _ _ _ _ _ (by omega)
  rw [show et_X10_copyFrom w v M = M4 from by simp only [et_X10_copyFrom, eM3, eM4]]
  exact (fM4).trans (fM3)
theorem ef2_X10_copyFrom  (w v : Nat) (M : em_M) {c : Nat} (h : c < w ∨ w + 2 < c) : (et_X10_copyFrom w v M).2 c = M.2 c := by
  obtain ⟨M3, eM3⟩ : ∃ z, et_X11_copyRow (v + 1) 4 (w + 1) 4 M = z := ⟨_, rfl⟩
  have fM3 : M3.2 c = M.2 c := by rw [← eM3]; exact rfl
  obtain ⟨M4, eM4⟩ : ∃ z, et_X11_copyRow (v + 2) 3 (w + 2) 3 M3 = z := ⟨_, rfl⟩
  have fM4 : M4.2 c = M3.2 c := by rw [← eM4]; exact rfl
  rw [show et_X10_copyFrom w v M = M4 from by simp only [et_X10_copyFrom, eM3, eM4]]
  exact (fM4).trans (fM3)
theorem ef1_X4_clear  (o : Nat) (M : em_M) {c : Nat} (h : c < o ∨ o + 1 < c) : (et_X4_clear o M).1 c = M.1 c := by
  obtain ⟨M6, eM6⟩ : ∃ z, em_pI M o 0 (-5 : Int32) = z := ⟨_, rfl⟩
  have fM6 : M6.1 c = M.1 c := by rw [← eM6]; exact ef_pI' _ _ _ _ (by omega)
  obtain ⟨M7, eM7⟩ : ∃ z, em_pI M6 o 1 (0 : Int32) = z := ⟨_, rfl⟩
  have fM7 : M7.1 c = M6.1 c := by rw [← eM7]; exact ef_pI' _ _ _ _ (by omega)
  obtain ⟨M8, eM8⟩ : ∃ z, em_pI M7 o 2 (0 : Int32) = z := ⟨_, rfl⟩
  have fM8 : M8.1 c = M7.1 c := by rw [← eM8]; exact ef_pI' _ _ _ _ (by omega)
  obtain ⟨M9, eM9⟩ : ∃ z, em_pI M8 o 3 (0 : Int32) = z := ⟨_, rfl⟩
  have fM9 : M9.1 c = M8.1 c := by rw [← eM9]; exact ef_pI' _ _ _ _ (by omega)
  obtain ⟨M10, eM10⟩ : ∃ z, em_pL M9 o 5 (0 : Int64) = z := ⟨_, rfl⟩
  have fM10 : M10.1 c = M9.1 c := by rw [← eM10]; exact rfl
  rw [show et_X4_clear o M = M10 from by simp only [et_X4_clear, eM6, eM7, eM8, eM9, eM10]]
  exact (fM10).trans ((fM9).trans ((fM8).trans ((fM7).trans (fM6))))
theorem ef2_X4_clear  (o : Nat) (M : em_M) {c : Nat} (h : c < o ∨ o + 1 < c) : (et_X4_clear o M).2 c = M.2 c := by
  obtain ⟨M6, eM6⟩ : ∃ z, em_pI M o 0 (-5 : Int32) = z := ⟨_, rfl⟩
  have fM6 : M6.2 c = M.2 c := by rw [← eM6]; exact rfl
  obtain ⟨M7, eM7⟩ : ∃ z, em_pI M6 o 1 (0 : Int32) = z := ⟨_, rfl⟩
  have fM7 : M7.2 c = M6.2 c := by rw [← eM7]; exact rfl
  obtain ⟨M8, eM8⟩ : ∃ z, em_pI M7 o 2 (0 : Int32) = z := ⟨_, rfl⟩
  have fM8 : M8.2 c = M7.2 c := by rw [← eM8]; exact rfl
  obtain ⟨M9, eM9⟩ : ∃ z, em_pI M8 o 3 (0 : Int32) = z := ⟨_, rfl⟩
  have fM9 : M9.2 c = M8.2 c := by rw [← eM9]; exact rfl
  obtain ⟨M10, eM10⟩ : ∃ z, em_pL M9 o 5 (0 : Int64) = z := ⟨_, rfl⟩
  have fM10 : M10.2 c = M9.2 c := by rw [← eM10]; exact ef_pL' _ _ _ _ (by omega)
  rw [show et_X4_clear o M = M10 from by simp only [et_X4_clear, eM6, eM7, eM8, eM9, eM10]]
  exact (fM10).trans ((fM9).trans ((fM8).trans ((fM7).trans (fM6))))
theorem ef1_X4_over  (o : Nat) (M : em_M) (thing : Int64) {c : Nat} (h : c < o ∨ o + 1 < c) : (et_X4_over o M thing).1 c = M.1 c := by
  obtain ⟨M3, eM3⟩ : ∃ z, em_pI M o 0 (0 : Int32) = z := ⟨_, rfl⟩
  have fM3 : M3.1 c = M.1 c := by rw [← eM3]; exact ef_pI' _ _ _ _ (by omega)
  obtain ⟨M4, eM4⟩ : ∃ z, em_pL M3 o 5 thing = z := ⟨_, rfl⟩
  have fM4 : M4.1 c = M3.1 c := by rw [← eM4]; exact rfl
  rw [show et_X4_over o M thing = M4 from by simp only [et_X4_over, eM3, eM4]]
  exact (fM4).trans (fM3)
theorem ef2_X4_over  (o : Nat) (M : em_M) (thing : Int64) {c : Nat} (h : c < o ∨ o + 1 < c) : (et_X4_over o M thing).2 c = M.2 c := by
  obtain ⟨M3, eM3⟩ : ∃ z, em_pI M o 0 (0 : Int32) = z := ⟨_, rfl⟩
  have fM3 : M3.2 c = M.2 c := by rw [← eM3]; exact rfl
  obtain ⟨M4, eM4⟩ : ∃ z, em_pL M3 o 5 thing = z := ⟨_, rfl⟩
  have fM4 : M4.2 c = M3.2 c := by rw [← eM4]; exact ef_pL' _ _ _ _ (by omega)
  rw [show et_X4_over o M thing = M4 from by simp only [et_X4_over, eM3, eM4]]
  exact (fM4).trans (fM3)
theorem ef1_X4_write  (o : Nat) (M : em_M) (v : Int32) {c : Nat} (h : c < o ∨ o + 1 < c) : (et_X4_write o M v).1 c = M.1 c := by
  by_cases c4 : (40 : Int32) ≤ (M.1 o 3)
  · skip
    rw [show et_X4_write o M v = M from by simp only [et_X4_write, if_pos c4]]
  · skip
    obtain ⟨M5, eM5⟩ : ∃ z, et_X11_put (o + 1) 40 M (M.1 o 3) v = z := ⟨_, rfl⟩
    have fM5 : M5.1 c = M.1 c := by rw [← eM5]; exact ef_put1 (by omega)
    obtain ⟨M6, eM6⟩ : ∃ z, em_pI M5 o 3 ((M5.1 o 3) + (1 : Int32)) = z := ⟨_, rfl⟩
    have fM6 : M6.1 c = M5.1 c := by rw [← eM6]; exact ef_pI' _ _ _ _ (by omega)
    rw [show et_X4_write o M v = M6 from by simp only [et_X4_write, if_neg c4, eM5, eM6]]
    exact (fM6).trans (fM5)
theorem ef2_X4_write  (o : Nat) (M : em_M) (v : Int32) {c : Nat} (h : c < o ∨ o + 1 < c) : (et_X4_write o M v).2 c = M.2 c := by
  by_cases c4 : (40 : Int32) ≤ (M.1 o 3)
  · skip
    rw [show et_X4_write o M v = M from by simp only [et_X4_write, if_pos c4]]
  · skip
    obtain ⟨M5, eM5⟩ : ∃ z, et_X11_put (o + 1) 40 M (M.1 o 3) v = z := ⟨_, rfl⟩
    have fM5 : M5.2 c = M.2 c := by rw [← eM5]; exact (congrFun ef_put12 _)
    obtain ⟨M6, eM6⟩ : ∃ z, em_pI M5 o 3 ((M5.1 o 3) + (1 : Int32)) = z := ⟨_, rfl⟩
    have fM6 : M6.2 c = M5.2 c := by rw [← eM6]; exact rfl
    rw [show et_X4_write o M v = M6 from by simp only [et_X4_write, if_neg c4, eM5, eM6]]
    exact (fM6).trans (fM5)
theorem ef1_X4_copyFrom  (o u : Nat) (M : em_M) {c : Nat} (h : c < o ∨ o + 1 < c) : (et_X4_copyFrom o u M).1 c = M.1 c := by
  obtain ⟨M7, eM7⟩ : ∃ z, em_pI M o 0 (M.1 u 0) = z := ⟨_, rfl⟩
  have fM7 : M7.1 c = M.1 c := by rw [← eM7]; exact ef_pI' _ _ _ _ (by omega)
  obtain ⟨M8, eM8⟩ : ∃ z, em_pI M7 o 1 (M7.1 u 1) = z := ⟨_, rfl⟩
  have fM8 : M8.1 c = M7.1 c := by rw [← eM8]; exact ef_pI' _ _ _ _ (by omega)
  obtain ⟨M9, eM9⟩ : ∃ z, em_pI M8 o 2 (M8.1 u 2) = z := ⟨_, rfl⟩
  have fM9 : M9.1 c = M8.1 c := by rw [← eM9]; exact ef_pI' _ _ _ _ (by omega)
  obtain ⟨M10, eM10⟩ : ∃ z, em_pI M9 o 3 (M9.1 u 3) = z := ⟨_, rfl⟩
  have fM10 : M10.1 c = M9.1 c := by rw [← eM10]; exact ef_pI' _ _ _ _ (by omega)
  obtain ⟨M11, eM11⟩ : ∃ z, em_pL M10 o 5 (M10.2 u 5) = z := ⟨_, rfl⟩
  have fM11 : M11.1 c = M10.1 c := by rw [← eM11]; exact rfl
  obtain ⟨M12, eM12⟩ : ∃ z, et_X11_copyRow (u + 1) 40 (o + 1) 40 M11 = z := ⟨_, rfl⟩
  have fM12 : M12.1 c = M11.1 c := by rw [← eM12]; exact ef_cpI _ _ _ _ _ (by omega)
  rw [show et_X4_copyFrom o u M = M12 from by simp only [et_X4_copyFrom, eM7, eM8, eM9, eM10, eM11, eM12]]
  exact (fM12).trans ((fM11).trans ((fM10).trans ((fM9).trans ((fM8).trans (fM7)))))
theorem ef2_X4_copyFrom  (o u : Nat) (M : em_M) {c : Nat} (h : c < o ∨ o + 1 < c) : (et_X4_copyFrom o u M).2 c = M.2 c := by
  obtain ⟨M7, eM7⟩ : ∃ z, em_pI M o 0 (M.1 u 0) = z := ⟨_, rfl⟩
  have fM7 : M7.2 c = M.2 c := by rw [← eM7]; exact rfl
  obtain ⟨M8, eM8⟩ : ∃ z, em_pI M7 o 1 (M7.1 u 1) = z := ⟨_, rfl⟩
  have fM8 : M8.2 c = M7.2 c := by rw [← eM8]; exact rfl
  obtain ⟨M9, eM9⟩ : ∃ z, em_pI M8 o 2 (M8.1 u 2) = z := ⟨_, rfl⟩
  have fM9 : M9.2 c = M8.2 c := by rw [← eM9]; exact rfl
  obtain ⟨M10, eM10⟩ : ∃ z, em_pI M9 o 3 (M9.1 u 3) = z := ⟨_, rfl⟩
  have fM10 : M10.2 c = M9.2 c := by rw [← eM10]; exact rfl
  obtain ⟨M11, eM11⟩ : ∃ z, em_pL M10 o 5 (M10.2 u 5) = z := ⟨_, rfl⟩
  have fM11 : M11.2 c = M10.2 c := by rw [← eM11]; exact ef_pL' _ _ _ _ (by omega)
  obtain ⟨M12, eM12⟩ : ∃ z, et_X11_copyRow (u + 1) 40 (o + 1) 40 M11 = z := ⟨_, rfl⟩
  have fM12 : M12.2 c = M11.2 c := by rw [← eM12]; exact rfl
  rw [show et_X4_copyFrom o u M = M12 from by simp only [et_X4_copyFrom, eM7, eM8, eM9, eM10, eM11, eM12]]
  exact (fM12).trans ((fM11).trans ((fM10).trans ((fM9).trans ((fM8).trans (fM7)))))
theorem ef1_X6_empty  (r : Nat) (M : em_M) {c : Nat} (h : c < r ∨ r + 2 < c) : (et_X6_empty r M).2.1 c = M.1 c := by
  obtain ⟨M2, eM2⟩ : ∃ z, em_pI M r 0 (0 : Int32) = z := ⟨_, rfl⟩
  have fM2 : M2.1 c = M.1 c := by rw [← eM2]; exact ef_pI' _ _ _ _ (by omega)
  rw [show et_X6_empty r M = ((M2.1 r 0), M2) from by simp only [et_X6_empty, eM2]]
  show M2.1 c = M.1 c
  exact fM2
theorem ef2_X6_empty  (r : Nat) (M : em_M) {c : Nat} (h : c < r ∨ r + 2 < c) : (et_X6_empty r M).2.2 c = M.2 c := by
  obtain ⟨M2, eM2⟩ : ∃ z, em_pI M r 0 (0 : Int32) = z := ⟨_, rfl⟩
  have fM2 : M2.2 c = M.2 c := by rw [← eM2]; exact rfl
  rw [show et_X6_empty r M = ((M2.1 r 0), M2) from by simp only [et_X6_empty, eM2]]
  show M2.2 c = M.2 c
  exact fM2
theorem ef1_X6_add  (r : Nat) (M : em_M) (first : Int32) (second : Int32) {c : Nat} (h : c < r ∨ r + 2 < c) : (et_X6_add r M first second).2.1 c = M.1 c := by
  by_cases c5 : (M.1 r 0) < (M.1 r 3)
  · skip
    obtain ⟨M6, eM6⟩ : ∃ z, et_X11_put (r + 1) 10 M (M.1 r 0) first = z := ⟨_, rfl⟩
    have fM6 : M6.1 c = M.1 c := by rw [← eM6]; exact ef_put1 (by omega)
    obtain ⟨M7, eM7⟩ : ∃ z, et_X11_put (r + 2) 10 M6 (M6.1 r 0) second = z := ⟨_, rfl⟩
    have fM7 : M7.1 c = M6.1 c := by rw [← eM7]; exact ef_put1 (by omega)
    obtain ⟨M8, eM8⟩ : ∃ z, em_pI M7 r 0 ((M7.1 r 0) + (1 : Int32)) = z := ⟨_, rfl⟩
    have fM8 : M8.1 c = M7.1 c := by rw [← eM8]; exact ef_pI' _ _ _ _ (by omega)
    rw [show et_X6_add r M first second = ((M8.1 r 0), M8) from by simp only [et_X6_add, if_pos c5, eM6, eM7, eM8]]
    show M8.1 c = M.1 c
    exact (fM8).trans ((fM7).trans (fM6))
  · skip
    rw [show et_X6_add r M first second = ((-4 : Int32), M) from by simp only [et_X6_add, if_neg c5]]
theorem ef2_X6_add  (r : Nat) (M : em_M) (first : Int32) (second : Int32) {c : Nat} (h : c < r ∨ r + 2 < c) : (et_X6_add r M first second).2.2 c = M.2 c := by
  by_cases c5 : (M.1 r 0) < (M.1 r 3)
  · skip
    obtain ⟨M6, eM6⟩ : ∃ z, et_X11_put (r + 1) 10 M (M.1 r 0) first = z := ⟨_, rfl⟩
    have fM6 : M6.2 c = M.2 c := by rw [← eM6]; exact (congrFun ef_put12 _)
    obtain ⟨M7, eM7⟩ : ∃ z, et_X11_put (r + 2) 10 M6 (M6.1 r 0) second = z := ⟨_, rfl⟩
    have fM7 : M7.2 c = M6.2 c := by rw [← eM7]; exact (congrFun ef_put12 _)
    obtain ⟨M8, eM8⟩ : ∃ z, em_pI M7 r 0 ((M7.1 r 0) + (1 : Int32)) = z := ⟨_, rfl⟩
    have fM8 : M8.2 c = M7.2 c := by rw [← eM8]; exact rfl
    rw [show et_X6_add r M first second = ((M8.1 r 0), M8) from by simp only [et_X6_add, if_pos c5, eM6, eM7, eM8]]
    show M8.2 c = M.2 c
    exact (fM8).trans ((fM7).trans (fM6))
  · skip
    rw [show et_X6_add r M first second = ((-4 : Int32), M) from by simp only [et_X6_add, if_neg c5]]
theorem ef1_X6_copyFrom  (r q : Nat) (M : em_M) {c : Nat} (h : c < r ∨ r + 2 < c) : (et_X6_copyFrom r q M).1 c = M.1 c := by
  obtain ⟨M4, eM4⟩ : ∃ z, em_pI M r 0 (M.1 q 0) = z := ⟨_, rfl⟩
  have fM4 : M4.1 c = M.1 c := by rw [← eM4]; exact ef_pI' _ _ _ _ (by omega)
  obtain ⟨M5, eM5⟩ : ∃ z, et_X11_copyRow (q + 1) 10 (r + 1) 10 M4 = z := ⟨_, rfl⟩
  have fM5 : M5.1 c = M4.1 c := by rw [← eM5]; exact ef_cpI _ _ _ _ _ (by omega)
  obtain ⟨M6, eM6⟩ : ∃ z, et_X11_copyRow (q + 2) 10 (r + 2) 10 M5 = z := ⟨_, rfl⟩
  have fM6 : M6.1 c = M5.1 c := by rw [← eM6]; exact ef_cpI _ _ _ _ _ (by omega)
  rw [show et_X6_copyFrom r q M = M6 from by simp only [et_X6_copyFrom, eM4, eM5, eM6]]
  exact (fM6).trans ((fM5).trans (fM4))
theorem ef2_X6_copyFrom  (r q : Nat) (M : em_M) {c : Nat} (h : c < r ∨ r + 2 < c) : (et_X6_copyFrom r q M).2 c = M.2 c := by
  obtain ⟨M4, eM4⟩ : ∃ z, em_pI M r 0 (M.1 q 0) = z := ⟨_, rfl⟩
  have fM4 : M4.2 c = M.2 c := by rw [← eM4]; exact rfl
  obtain ⟨M5, eM5⟩ : ∃ z, et_X11_copyRow (q + 1) 10 (r + 1) 10 M4 = z := ⟨_, rfl⟩
  have fM5 : M5.2 c = M4.2 c := by rw [← eM5]; exact rfl
  obtain ⟨M6, eM6⟩ : ∃ z, et_X11_copyRow (q + 2) 10 (r + 2) 10 M5 = z := ⟨_, rfl⟩
  have fM6 : M6.2 c = M5.2 c := by rw [← eM6]; exact rfl
  rw [show et_X6_copyFrom r q M = M6 from by simp only [et_X6_copyFrom, eM4, eM5, eM6]]
  exact (fM6).trans ((fM5).trans (fM4))
theorem ef1_X2_link  (M : em_M) (e : Int32) (k : Int32) (part : Int32) {c : Nat} (h : c < 1 ∨ 8 < c) : (et_X2_link M e k part).1 c = M.1 c := by
  obtain ⟨M2, eM2⟩ : ∃ z, et_X11_put 4 2400 M ((e * (3 : Int32)) + k) part = z := ⟨_, rfl⟩
  have fM2 : M2.1 c = M.1 c := by rw [← eM2]; exact ef_put1 (by omega)
  rw [show et_X2_link M e k part = M2 from by simp only [et_X2_link, eM2]]
  exact fM2
theorem ef2_X2_link  (M : em_M) (e : Int32) (k : Int32) (part : Int32) {c : Nat} (h : c < 1 ∨ 8 < c) : (et_X2_link M e k part).2 c = M.2 c := by
  obtain ⟨M2, eM2⟩ : ∃ z, et_X11_put 4 2400 M ((e * (3 : Int32)) + k) part = z := ⟨_, rfl⟩
  have fM2 : M2.2 c = M.2 c := by rw [← eM2]; exact (congrFun ef_put12 _)
  rw [show et_X2_link M e k part = M2 from by simp only [et_X2_link, eM2]]
  exact fM2
theorem ef1_X2_add  (M : em_M) (kind : Int32) (mark : Int32) {c : Nat} (h : c < 1 ∨ 8 < c) : (et_X2_add M kind mark).2.1 c = M.1 c := by
  by_cases c8 : (M.1 1 1) < (800 : Int32)
  · skip
    obtain ⟨M9, eM9⟩ : ∃ z, em_pI M 1 1 ((M.1 1 1) + (1 : Int32)) = z := ⟨_, rfl⟩
    have fM9 : M9.1 c = M.1 c := by rw [← eM9]; exact ef_pI' _ _ _ _ (by omega)
    obtain ⟨M10, eM10⟩ : ∃ z, et_X11_put 2 800 M9 (M.1 1 1) kind = z := ⟨_, rfl⟩
    have fM10 : M10.1 c = M9.1 c := by rw [← eM10]; exact ef_put1 (by omega)
    obtain ⟨M11, eM11⟩ : ∃ z, et_X11_put 3 800 M10 (M.1 1 1) mark = z := ⟨_, rfl⟩
    have fM11 : M11.1 c = M10.1 c := by rw [← eM11]; exact ef_put1 (by omega)
    obtain ⟨M12, eM12⟩ : ∃ z, et_X2_link M11 (M.1 1 1) (0 : Int32) (-1 : Int32) = z := ⟨_, rfl⟩
    have fM12 : M12.1 c = M11.1 c := by rw [← eM12]; exact ef1_X2_link _ _ _ _ (by omega)
    obtain ⟨M13, eM13⟩ : ∃ z, et_X2_link M12 (M.1 1 1) (1 : Int32) (-1 : Int32) = z := ⟨_, rfl⟩
    have fM13 : M13.1 c = M12.1 c := by rw [← eM13]; exact ef1_X2_link _ _ _ _ (by omega)
    obtain ⟨M14, eM14⟩ : ∃ z, et_X2_link M13 (M.1 1 1) (2 : Int32) (-1 : Int32) = z := ⟨_, rfl⟩
    have fM14 : M14.1 c = M13.1 c := by rw [← eM14]; exact ef1_X2_link _ _ _ _ (by omega)
    rw [show et_X2_add M kind mark = ((M.1 1 1), M14) from by simp only [et_X2_add, if_pos c8, eM9, eM10, eM11, eM12, eM13, eM14]]
    show M14.1 c = M.1 c
    exact (fM14).trans ((fM13).trans ((fM12).trans ((fM11).trans ((fM10).trans (fM9)))))
  · skip
    rw [show et_X2_add M kind mark = ((-1 : Int32), M) from by simp only [et_X2_add, if_neg c8]]
theorem ef2_X2_add  (M : em_M) (kind : Int32) (mark : Int32) {c : Nat} (h : c < 1 ∨ 8 < c) : (et_X2_add M kind mark).2.2 c = M.2 c := by
  by_cases c8 : (M.1 1 1) < (800 : Int32)
  · skip
    obtain ⟨M9, eM9⟩ : ∃ z, em_pI M 1 1 ((M.1 1 1) + (1 : Int32)) = z := ⟨_, rfl⟩
    have fM9 : M9.2 c = M.2 c := by rw [← eM9]; exact rfl
    obtain ⟨M10, eM10⟩ : ∃ z, et_X11_put 2 800 M9 (M.1 1 1) kind = z := ⟨_, rfl⟩
    have fM10 : M10.2 c = M9.2 c := by rw [← eM10]; exact (congrFun ef_put12 _)
    obtain ⟨M11, eM11⟩ : ∃ z, et_X11_put 3 800 M10 (M.1 1 1) mark = z := ⟨_, rfl⟩
    have fM11 : M11.2 c = M10.2 c := by rw [← eM11]; exact (congrFun ef_put12 _)
    obtain ⟨M12, eM12⟩ : ∃ z, et_X2_link M11 (M.1 1 1) (0 : Int32) (-1 : Int32) = z := ⟨_, rfl⟩
    have fM12 : M12.2 c = M11.2 c := by rw [← eM12]; exact ef2_X2_link _ _ _ _ (by omega)
    obtain ⟨M13, eM13⟩ : ∃ z, et_X2_link M12 (M.1 1 1) (1 : Int32) (-1 : Int32) = z := ⟨_, rfl⟩
    have fM13 : M13.2 c = M12.2 c := by rw [← eM13]; exact ef2_X2_link _ _ _ _ (by omega)
    obtain ⟨M14, eM14⟩ : ∃ z, et_X2_link M13 (M.1 1 1) (2 : Int32) (-1 : Int32) = z := ⟨_, rfl⟩
    have fM14 : M14.2 c = M13.2 c := by rw [← eM14]; exact ef2_X2_link _ _ _ _ (by omega)
    rw [show et_X2_add M kind mark = ((M.1 1 1), M14) from by simp only [et_X2_add, if_pos c8, eM9, eM10, eM11, eM12, eM13, eM14]]
    show M14.2 c = M.2 c
    exact (fM14).trans ((fM13).trans ((fM12).trans ((fM11).trans ((fM10).trans (fM9)))))
  · skip
    rw [show et_X2_add M kind mark = ((-1 : Int32), M) from by simp only [et_X2_add, if_neg c8]]
theorem ef1_X2_handDown_2_3   (M : em_M) (x1 : Int32) {c : Nat} (h : c < 1 ∨ 8 < c) : (et_X2_handDown_2_3 M x1).1 c = M.1 c := by
  rw [show et_X2_handDown_2_3 M x1 = M from by simp only [et_X2_handDown_2_3]]
theorem ef2_X2_handDown_2_3   (M : em_M) (x1 : Int32) {c : Nat} (h : c < 1 ∨ 8 < c) : (et_X2_handDown_2_3 M x1).2 c = M.2 c := by
  rw [show et_X2_handDown_2_3 M x1 = M from by simp only [et_X2_handDown_2_3]]
theorem ef1_X2_handDown_83_2   (M : em_M) (x1 : Int32) {c : Nat} (h : c < 1 ∨ 8 < c) : (et_X2_handDown_83_2 M x1).1 c = M.1 c := by
  rw [show et_X2_handDown_83_2 M x1 = et_X2_handDown_2_3 M x1 from by simp only [et_X2_handDown_83_2]]
  exact (ef1_X2_handDown_2_3 _ _ (by omega))
theorem ef2_X2_handDown_83_2   (M : em_M) (x1 : Int32) {c : Nat} (h : c < 1 ∨ 8 < c) : (et_X2_handDown_83_2 M x1).2 c = M.2 c := by
  rw [show et_X2_handDown_83_2 M x1 = et_X2_handDown_2_3 M x1 from by simp only [et_X2_handDown_83_2]]
  exact (ef2_X2_handDown_2_3 _ _ (by omega))
theorem ef1_X2_handDown_80_2   (M : em_M) (x1 : Int32) (x3 : Int32) (s0 : Int32) (s1 : Int32) {c : Nat} (h : c < 1 ∨ 8 < c) : (et_X2_handDown_80_2 M x1 x3 s0 s1).1 c = M.1 c := by
  obtain ⟨M46, eM46⟩ : ∃ z, et_X11_put 6 800 M s1 s0 = z := ⟨_, rfl⟩
  have fM46 : M46.1 c = M.1 c := by rw [← eM46]; exact ef_put1 (by omega)
  rw [show et_X2_handDown_80_2 M x1 x3 s0 s1 = et_X2_handDown_83_2 M46 x1 from by simp only [et_X2_handDown_80_2, eM46]]
  exact ((ef1_X2_handDown_83_2 _ _ (by omega))).trans (fM46)
theorem ef2_X2_handDown_80_2   (M : em_M) (x1 : Int32) (x3 : Int32) (s0 : Int32) (s1 : Int32) {c : Nat} (h : c < 1 ∨ 8 < c) : (et_X2_handDown_80_2 M x1 x3 s0 s1).2 c = M.2 c := by
  obtain ⟨M46, eM46⟩ : ∃ z, et_X11_put 6 800 M s1 s0 = z := ⟨_, rfl⟩
  have fM46 : M46.2 c = M.2 c := by rw [← eM46]; exact (congrFun ef_put12 _)
  rw [show et_X2_handDown_80_2 M x1 x3 s0 s1 = et_X2_handDown_83_2 M46 x1 from by simp only [et_X2_handDown_80_2, eM46]]
  exact ((ef2_X2_handDown_83_2 _ _ (by omega))).trans (fM46)
theorem ef1_X2_handDown_46_2   (M : em_M) (x1 : Int32) (x3 : Int32) (s0 : Int32) (s1 : Int32) (s2 : Int32) {c : Nat} (h : c < 1 ∨ 8 < c) : (et_X2_handDown_46_2 M x1 x3 s0 s1 s2).1 c = M.1 c := by
  obtain ⟨M43, eM43⟩ : ∃ z, et_X11_put 5 800 M s2 (s1 + s0) = z := ⟨_, rfl⟩
  have fM43 : M43.1 c = M.1 c := by rw [← eM43]; exact ef_put1 (by omega)
  obtain ⟨r44, er44⟩ : ∃ z, et_X11_at 6 800 M43 x1 = z := ⟨_, rfl⟩
  by_cases c45 : r44 = 0
  · skip
    rw [show et_X2_handDown_46_2 M x1 x3 s0 s1 s2 = et_X2_handDown_80_2 M43 x1 x3 (0 : Int32) x3 from by simp only [et_X2_handDown_46_2, eM43, er44, if_pos c45]]
    exact ((ef1_X2_handDown_80_2 _ _ _ _ _ (by omega))).trans (fM43)
  · skip
    obtain ⟨r47, er47⟩ : ∃ z, et_X2_isLast M43 x1 (2 : Int32) = z := ⟨_, rfl⟩
    by_cases c48 : r47 = 0
    · skip
      rw [show et_X2_handDown_46_2 M x1 x3 s0 s1 s2 = et_X2_handDown_80_2 M43 x1 x3 (0 : Int32) x3 from by simp only [et_X2_handDown_46_2, eM43, er44, if_neg c45, er47, if_pos c48]]
      exact ((ef1_X2_handDown_80_2 _ _ _ _ _ (by omega))).trans (fM43)
    · skip
      rw [show et_X2_handDown_46_2 M x1 x3 s0 s1 s2 = et_X2_handDown_80_2 M43 x1 x3 (1 : Int32) x3 from by simp only [et_X2_handDown_46_2, eM43, er44, if_neg c45, er47, if_neg c48]]
      exact ((ef1_X2_handDown_80_2 _ _ _ _ _ (by omega))).trans (fM43)
theorem ef2_X2_handDown_46_2   (M : em_M) (x1 : Int32) (x3 : Int32) (s0 : Int32) (s1 : Int32) (s2 : Int32) {c : Nat} (h : c < 1 ∨ 8 < c) : (et_X2_handDown_46_2 M x1 x3 s0 s1 s2).2 c = M.2 c := by
  obtain ⟨M43, eM43⟩ : ∃ z, et_X11_put 5 800 M s2 (s1 + s0) = z := ⟨_, rfl⟩
  have fM43 : M43.2 c = M.2 c := by rw [← eM43]; exact (congrFun ef_put12 _)
  obtain ⟨r44, er44⟩ : ∃ z, et_X11_at 6 800 M43 x1 = z := ⟨_, rfl⟩
  by_cases c45 : r44 = 0
  · skip
    rw [show et_X2_handDown_46_2 M x1 x3 s0 s1 s2 = et_X2_handDown_80_2 M43 x1 x3 (0 : Int32) x3 from by simp only [et_X2_handDown_46_2, eM43, er44, if_pos c45]]
    exact ((ef2_X2_handDown_80_2 _ _ _ _ _ (by omega))).trans (fM43)
  · skip
    obtain ⟨r47, er47⟩ : ∃ z, et_X2_isLast M43 x1 (2 : Int32) = z := ⟨_, rfl⟩
    by_cases c48 : r47 = 0
    · skip
      rw [show et_X2_handDown_46_2 M x1 x3 s0 s1 s2 = et_X2_handDown_80_2 M43 x1 x3 (0 : Int32) x3 from by simp only [et_X2_handDown_46_2, eM43, er44, if_neg c45, er47, if_pos c48]]
      exact ((ef2_X2_handDown_80_2 _ _ _ _ _ (by omega))).trans (fM43)
    · skip
      rw [show et_X2_handDown_46_2 M x1 x3 s0 s1 s2 = et_X2_handDown_80_2 M43 x1 x3 (1 : Int32) x3 from by simp only [et_X2_handDown_46_2, eM43, er44, if_neg c45, er47, if_neg c48]]
      exact ((ef2_X2_handDown_80_2 _ _ _ _ _ (by omega))).trans (fM43)
theorem ef1_X2_handDown_2_2   (M : em_M) (x1 : Int32) {c : Nat} (h : c < 1 ∨ 8 < c) : (et_X2_handDown_2_2 M x1).1 c = M.1 c := by
  obtain ⟨r38, er38⟩ : ∃ z, et_X2_part M x1 (2 : Int32) = z := ⟨_, rfl⟩
  by_cases c39 : r38 < 0
  · skip
    rw [show et_X2_handDown_2_2 M x1 = et_X2_handDown_83_2 M x1 from by simp only [et_X2_handDown_2_2, er38, if_pos c39]]
    exact (ef1_X2_handDown_83_2 _ _ (by omega))
  · skip
    obtain ⟨r40, er40⟩ : ∃ z, et_X11_at 5 800 M x1 = z := ⟨_, rfl⟩
    obtain ⟨r41, er41⟩ : ∃ z, et_X2_kind M r38 = z := ⟨_, rfl⟩
    by_cases c42 : r41 = (14 : Int32)
    · skip
      rw [show et_X2_handDown_2_2 M x1 = et_X2_handDown_46_2 M x1 r38 (0 : Int32) r40 r38 from by simp only [et_X2_handDown_2_2, er38, if_neg c39, er40, er41, if_pos c42]]
      exact (ef1_X2_handDown_46_2 _ _ _ _ _ _ (by omega))
    · skip
      rw [show et_X2_handDown_2_2 M x1 = et_X2_handDown_46_2 M x1 r38 (1 : Int32) r40 r38 from by simp only [et_X2_handDown_2_2, er38, if_neg c39, er40, er41, if_neg c42]]
      exact (ef1_X2_handDown_46_2 _ _ _ _ _ _ (by omega))
theorem ef2_X2_handDown_2_2   (M : em_M) (x1 : Int32) {c : Nat} (h : c < 1 ∨ 8 < c) : (et_X2_handDown_2_2 M x1).2 c = M.2 c := by
  obtain ⟨r38, er38⟩ : ∃ z, et_X2_part M x1 (2 : Int32) = z := ⟨_, rfl⟩
  by_cases c39 : r38 < 0
  · skip
    rw [show et_X2_handDown_2_2 M x1 = et_X2_handDown_83_2 M x1 from by simp only [et_X2_handDown_2_2, er38, if_pos c39]]
    exact (ef2_X2_handDown_83_2 _ _ (by omega))
  · skip
    obtain ⟨r40, er40⟩ : ∃ z, et_X11_at 5 800 M x1 = z := ⟨_, rfl⟩
    obtain ⟨r41, er41⟩ : ∃ z, et_X2_kind M r38 = z := ⟨_, rfl⟩
    by_cases c42 : r41 = (14 : Int32)
    · skip
      rw [show et_X2_handDown_2_2 M x1 = et_X2_handDown_46_2 M x1 r38 (0 : Int32) r40 r38 from by simp only [et_X2_handDown_2_2, er38, if_neg c39, er40, er41, if_pos c42]]
      exact (ef2_X2_handDown_46_2 _ _ _ _ _ _ (by omega))
    · skip
      rw [show et_X2_handDown_2_2 M x1 = et_X2_handDown_46_2 M x1 r38 (1 : Int32) r40 r38 from by simp only [et_X2_handDown_2_2, er38, if_neg c39, er40, er41, if_neg c42]]
      exact (ef2_X2_handDown_46_2 _ _ _ _ _ _ (by omega))
theorem ef1_X2_handDown_83_1   (M : em_M) (x1 : Int32) {c : Nat} (h : c < 1 ∨ 8 < c) : (et_X2_handDown_83_1 M x1).1 c = M.1 c := by
  rw [show et_X2_handDown_83_1 M x1 = et_X2_handDown_2_2 M x1 from by simp only [et_X2_handDown_83_1]]
  exact (ef1_X2_handDown_2_2 _ _ (by omega))
theorem ef2_X2_handDown_83_1   (M : em_M) (x1 : Int32) {c : Nat} (h : c < 1 ∨ 8 < c) : (et_X2_handDown_83_1 M x1).2 c = M.2 c := by
  rw [show et_X2_handDown_83_1 M x1 = et_X2_handDown_2_2 M x1 from by simp only [et_X2_handDown_83_1]]
  exact (ef2_X2_handDown_2_2 _ _ (by omega))
theorem ef1_X2_handDown_80_1   (M : em_M) (x1 : Int32) (x3 : Int32) (s0 : Int32) (s1 : Int32) {c : Nat} (h : c < 1 ∨ 8 < c) : (et_X2_handDown_80_1 M x1 x3 s0 s1).1 c = M.1 c := by
  obtain ⟨M55, eM55⟩ : ∃ z, et_X11_put 6 800 M s1 s0 = z := ⟨_, rfl⟩
  have fM55 : M55.1 c = M.1 c := by rw [← eM55]; exact ef_put1 (by omega)
  rw [show et_X2_handDown_80_1 M x1 x3 s0 s1 = et_X2_handDown_83_1 M55 x1 from by simp only [et_X2_handDown_80_1, eM55]]
  exact ((ef1_X2_handDown_83_1 _ _ (by omega))).trans (fM55)
theorem ef2_X2_handDown_80_1   (M : em_M) (x1 : Int32) (x3 : Int32) (s0 : Int32) (s1 : Int32) {c : Nat} (h : c < 1 ∨ 8 < c) : (et_X2_handDown_80_1 M x1 x3 s0 s1).2 c = M.2 c := by
  obtain ⟨M55, eM55⟩ : ∃ z, et_X11_put 6 800 M s1 s0 = z := ⟨_, rfl⟩
  have fM55 : M55.2 c = M.2 c := by rw [← eM55]; exact (congrFun ef_put12 _)
  rw [show et_X2_handDown_80_1 M x1 x3 s0 s1 = et_X2_handDown_83_1 M55 x1 from by simp only [et_X2_handDown_80_1, eM55]]
  exact ((ef2_X2_handDown_83_1 _ _ (by omega))).trans (fM55)
theorem ef1_X2_handDown_46_1   (M : em_M) (x1 : Int32) (x3 : Int32) (s0 : Int32) (s1 : Int32) (s2 : Int32) {c : Nat} (h : c < 1 ∨ 8 < c) : (et_X2_handDown_46_1 M x1 x3 s0 s1 s2).1 c = M.1 c := by
  obtain ⟨M52, eM52⟩ : ∃ z, et_X11_put 5 800 M s2 (s1 + s0) = z := ⟨_, rfl⟩
  have fM52 : M52.1 c = M.1 c := by rw [← eM52]; exact ef_put1 (by omega)
  obtain ⟨r53, er53⟩ : ∃ z, et_X11_at 6 800 M52 x1 = z := ⟨_, rfl⟩
  by_cases c54 : r53 = 0
  · skip
    rw [show et_X2_handDown_46_1 M x1 x3 s0 s1 s2 = et_X2_handDown_80_1 M52 x1 x3 (0 : Int32) x3 from by simp only [et_X2_handDown_46_1, eM52, er53, if_pos c54]]
    exact ((ef1_X2_handDown_80_1 _ _ _ _ _ (by omega))).trans (fM52)
  · skip
    obtain ⟨r56, er56⟩ : ∃ z, et_X2_isLast M52 x1 (1 : Int32) = z := ⟨_, rfl⟩
    by_cases c57 : r56 = 0
    · skip
      rw [show et_X2_handDown_46_1 M x1 x3 s0 s1 s2 = et_X2_handDown_80_1 M52 x1 x3 (0 : Int32) x3 from by simp only [et_X2_handDown_46_1, eM52, er53, if_neg c54, er56, if_pos c57]]
      exact ((ef1_X2_handDown_80_1 _ _ _ _ _ (by omega))).trans (fM52)
    · skip
      rw [show et_X2_handDown_46_1 M x1 x3 s0 s1 s2 = et_X2_handDown_80_1 M52 x1 x3 (1 : Int32) x3 from by simp only [et_X2_handDown_46_1, eM52, er53, if_neg c54, er56, if_neg c57]]
      exact ((ef1_X2_handDown_80_1 _ _ _ _ _ (by omega))).trans (fM52)
theorem ef2_X2_handDown_46_1   (M : em_M) (x1 : Int32) (x3 : Int32) (s0 : Int32) (s1 : Int32) (s2 : Int32) {c : Nat} (h : c < 1 ∨ 8 < c) : (et_X2_handDown_46_1 M x1 x3 s0 s1 s2).2 c = M.2 c := by
  obtain ⟨M52, eM52⟩ : ∃ z, et_X11_put 5 800 M s2 (s1 + s0) = z := ⟨_, rfl⟩
  have fM52 : M52.2 c = M.2 c := by rw [← eM52]; exact (congrFun ef_put12 _)
  obtain ⟨r53, er53⟩ : ∃ z, et_X11_at 6 800 M52 x1 = z := ⟨_, rfl⟩
  by_cases c54 : r53 = 0
  · skip
    rw [show et_X2_handDown_46_1 M x1 x3 s0 s1 s2 = et_X2_handDown_80_1 M52 x1 x3 (0 : Int32) x3 from by simp only [et_X2_handDown_46_1, eM52, er53, if_pos c54]]
    exact ((ef2_X2_handDown_80_1 _ _ _ _ _ (by omega))).trans (fM52)
  · skip
    obtain ⟨r56, er56⟩ : ∃ z, et_X2_isLast M52 x1 (1 : Int32) = z := ⟨_, rfl⟩
    by_cases c57 : r56 = 0
    · skip
      rw [show et_X2_handDown_46_1 M x1 x3 s0 s1 s2 = et_X2_handDown_80_1 M52 x1 x3 (0 : Int32) x3 from by simp only [et_X2_handDown_46_1, eM52, er53, if_neg c54, er56, if_pos c57]]
      exact ((ef2_X2_handDown_80_1 _ _ _ _ _ (by omega))).trans (fM52)
    · skip
      rw [show et_X2_handDown_46_1 M x1 x3 s0 s1 s2 = et_X2_handDown_80_1 M52 x1 x3 (1 : Int32) x3 from by simp only [et_X2_handDown_46_1, eM52, er53, if_neg c54, er56, if_neg c57]]
      exact ((ef2_X2_handDown_80_1 _ _ _ _ _ (by omega))).trans (fM52)
theorem ef1_X2_handDown_2_1   (M : em_M) (x1 : Int32) {c : Nat} (h : c < 1 ∨ 8 < c) : (et_X2_handDown_2_1 M x1).1 c = M.1 c := by
  obtain ⟨r36, er36⟩ : ∃ z, et_X2_part M x1 (1 : Int32) = z := ⟨_, rfl⟩
  by_cases c37 : r36 < 0
  · skip
    rw [show et_X2_handDown_2_1 M x1 = et_X2_handDown_83_1 M x1 from by simp only [et_X2_handDown_2_1, er36, if_pos c37]]
    exact (ef1_X2_handDown_83_1 _ _ (by omega))
  · skip
    obtain ⟨r49, er49⟩ : ∃ z, et_X11_at 5 800 M x1 = z := ⟨_, rfl⟩
    obtain ⟨r50, er50⟩ : ∃ z, et_X2_kind M r36 = z := ⟨_, rfl⟩
    by_cases c51 : r50 = (14 : Int32)
    · skip
      rw [show et_X2_handDown_2_1 M x1 = et_X2_handDown_46_1 M x1 r36 (0 : Int32) r49 r36 from by simp only [et_X2_handDown_2_1, er36, if_neg c37, er49, er50, if_pos c51]]
      exact (ef1_X2_handDown_46_1 _ _ _ _ _ _ (by omega))
    · skip
      rw [show et_X2_handDown_2_1 M x1 = et_X2_handDown_46_1 M x1 r36 (1 : Int32) r49 r36 from by simp only [et_X2_handDown_2_1, er36, if_neg c37, er49, er50, if_neg c51]]
      exact (ef1_X2_handDown_46_1 _ _ _ _ _ _ (by omega))
theorem ef2_X2_handDown_2_1   (M : em_M) (x1 : Int32) {c : Nat} (h : c < 1 ∨ 8 < c) : (et_X2_handDown_2_1 M x1).2 c = M.2 c := by
  obtain ⟨r36, er36⟩ : ∃ z, et_X2_part M x1 (1 : Int32) = z := ⟨_, rfl⟩
  by_cases c37 : r36 < 0
  · skip
    rw [show et_X2_handDown_2_1 M x1 = et_X2_handDown_83_1 M x1 from by simp only [et_X2_handDown_2_1, er36, if_pos c37]]
    exact (ef2_X2_handDown_83_1 _ _ (by omega))
  · skip
    obtain ⟨r49, er49⟩ : ∃ z, et_X11_at 5 800 M x1 = z := ⟨_, rfl⟩
    obtain ⟨r50, er50⟩ : ∃ z, et_X2_kind M r36 = z := ⟨_, rfl⟩
    by_cases c51 : r50 = (14 : Int32)
    · skip
      rw [show et_X2_handDown_2_1 M x1 = et_X2_handDown_46_1 M x1 r36 (0 : Int32) r49 r36 from by simp only [et_X2_handDown_2_1, er36, if_neg c37, er49, er50, if_pos c51]]
      exact (ef2_X2_handDown_46_1 _ _ _ _ _ _ (by omega))
    · skip
      rw [show et_X2_handDown_2_1 M x1 = et_X2_handDown_46_1 M x1 r36 (1 : Int32) r49 r36 from by simp only [et_X2_handDown_2_1, er36, if_neg c37, er49, er50, if_neg c51]]
      exact (ef2_X2_handDown_46_1 _ _ _ _ _ _ (by omega))
theorem ef1_X2_handDown_83_0   (M : em_M) (x1 : Int32) {c : Nat} (h : c < 1 ∨ 8 < c) : (et_X2_handDown_83_0 M x1).1 c = M.1 c := by
  rw [show et_X2_handDown_83_0 M x1 = et_X2_handDown_2_1 M x1 from by simp only [et_X2_handDown_83_0]]
  exact (ef1_X2_handDown_2_1 _ _ (by omega))
theorem ef2_X2_handDown_83_0   (M : em_M) (x1 : Int32) {c : Nat} (h : c < 1 ∨ 8 < c) : (et_X2_handDown_83_0 M x1).2 c = M.2 c := by
  rw [show et_X2_handDown_83_0 M x1 = et_X2_handDown_2_1 M x1 from by simp only [et_X2_handDown_83_0]]
  exact (ef2_X2_handDown_2_1 _ _ (by omega))
theorem ef1_X2_handDown_80_0   (M : em_M) (x1 : Int32) (x3 : Int32) (s0 : Int32) (s1 : Int32) {c : Nat} (h : c < 1 ∨ 8 < c) : (et_X2_handDown_80_0 M x1 x3 s0 s1).1 c = M.1 c := by
  obtain ⟨M64, eM64⟩ : ∃ z, et_X11_put 6 800 M s1 s0 = z := ⟨_, rfl⟩
  have fM64 : M64.1 c = M.1 c := by rw [← eM64]; exact ef_put1 (by omega)
  rw [show et_X2_handDown_80_0 M x1 x3 s0 s1 = et_X2_handDown_83_0 M64 x1 from by simp only [et_X2_handDown_80_0, eM64]]
  exact ((ef1_X2_handDown_83_0 _ _ (by omega))).trans (fM64)
theorem ef2_X2_handDown_80_0   (M : em_M) (x1 : Int32) (x3 : Int32) (s0 : Int32) (s1 : Int32) {c : Nat} (h : c < 1 ∨ 8 < c) : (et_X2_handDown_80_0 M x1 x3 s0 s1).2 c = M.2 c := by
  obtain ⟨M64, eM64⟩ : ∃ z, et_X11_put 6 800 M s1 s0 = z := ⟨_, rfl⟩
  have fM64 : M64.2 c = M.2 c := by rw [← eM64]; exact (congrFun ef_put12 _)
  rw [show et_X2_handDown_80_0 M x1 x3 s0 s1 = et_X2_handDown_83_0 M64 x1 from by simp only [et_X2_handDown_80_0, eM64]]
  exact ((ef2_X2_handDown_83_0 _ _ (by omega))).trans (fM64)
theorem ef1_X2_handDown_46_0   (M : em_M) (x1 : Int32) (x3 : Int32) (s0 : Int32) (s1 : Int32) (s2 : Int32) {c : Nat} (h : c < 1 ∨ 8 < c) : (et_X2_handDown_46_0 M x1 x3 s0 s1 s2).1 c = M.1 c := by
  obtain ⟨M61, eM61⟩ : ∃ z, et_X11_put 5 800 M s2 (s1 + s0) = z := ⟨_, rfl⟩
  have fM61 : M61.1 c = M.1 c := by rw [← eM61]; exact ef_put1 (by omega)
  obtain ⟨r62, er62⟩ : ∃ z, et_X11_at 6 800 M61 x1 = z := ⟨_, rfl⟩
  by_cases c63 : r62 = 0
  · skip
    rw [show et_X2_handDown_46_0 M x1 x3 s0 s1 s2 = et_X2_handDown_80_0 M61 x1 x3 (0 : Int32) x3 from by simp only [et_X2_handDown_46_0, eM61, er62, if_pos c63]]
    exact ((ef1_X2_handDown_80_0 _ _ _ _ _ (by omega))).trans (fM61)
  · skip
    obtain ⟨r65, er65⟩ : ∃ z, et_X2_isLast M61 x1 (0 : Int32) = z := ⟨_, rfl⟩
    by_cases c66 : r65 = 0
    · skip
      rw [show et_X2_handDown_46_0 M x1 x3 s0 s1 s2 = et_X2_handDown_80_0 M61 x1 x3 (0 : Int32) x3 from by simp only [et_X2_handDown_46_0, eM61, er62, if_neg c63, er65, if_pos c66]]
      exact ((ef1_X2_handDown_80_0 _ _ _ _ _ (by omega))).trans (fM61)
    · skip
      rw [show et_X2_handDown_46_0 M x1 x3 s0 s1 s2 = et_X2_handDown_80_0 M61 x1 x3 (1 : Int32) x3 from by simp only [et_X2_handDown_46_0, eM61, er62, if_neg c63, er65, if_neg c66]]
      exact ((ef1_X2_handDown_80_0 _ _ _ _ _ (by omega))).trans (fM61)
theorem ef2_X2_handDown_46_0   (M : em_M) (x1 : Int32) (x3 : Int32) (s0 : Int32) (s1 : Int32) (s2 : Int32) {c : Nat} (h : c < 1 ∨ 8 < c) : (et_X2_handDown_46_0 M x1 x3 s0 s1 s2).2 c = M.2 c := by
  obtain ⟨M61, eM61⟩ : ∃ z, et_X11_put 5 800 M s2 (s1 + s0) = z := ⟨_, rfl⟩
  have fM61 : M61.2 c = M.2 c := by rw [← eM61]; exact (congrFun ef_put12 _)
  obtain ⟨r62, er62⟩ : ∃ z, et_X11_at 6 800 M61 x1 = z := ⟨_, rfl⟩
  by_cases c63 : r62 = 0
  · skip
    rw [show et_X2_handDown_46_0 M x1 x3 s0 s1 s2 = et_X2_handDown_80_0 M61 x1 x3 (0 : Int32) x3 from by simp only [et_X2_handDown_46_0, eM61, er62, if_pos c63]]
    exact ((ef2_X2_handDown_80_0 _ _ _ _ _ (by omega))).trans (fM61)
  · skip
    obtain ⟨r65, er65⟩ : ∃ z, et_X2_isLast M61 x1 (0 : Int32) = z := ⟨_, rfl⟩
    by_cases c66 : r65 = 0
    · skip
      rw [show et_X2_handDown_46_0 M x1 x3 s0 s1 s2 = et_X2_handDown_80_0 M61 x1 x3 (0 : Int32) x3 from by simp only [et_X2_handDown_46_0, eM61, er62, if_neg c63, er65, if_pos c66]]
      exact ((ef2_X2_handDown_80_0 _ _ _ _ _ (by omega))).trans (fM61)
    · skip
      rw [show et_X2_handDown_46_0 M x1 x3 s0 s1 s2 = et_X2_handDown_80_0 M61 x1 x3 (1 : Int32) x3 from by simp only [et_X2_handDown_46_0, eM61, er62, if_neg c63, er65, if_neg c66]]
      exact ((ef2_X2_handDown_80_0 _ _ _ _ _ (by omega))).trans (fM61)
theorem ef1_X2_handDown_2_0   (M : em_M) (x1 : Int32) {c : Nat} (h : c < 1 ∨ 8 < c) : (et_X2_handDown_2_0 M x1).1 c = M.1 c := by
  obtain ⟨r34, er34⟩ : ∃ z, et_X2_part M x1 (0 : Int32) = z := ⟨_, rfl⟩
  by_cases c35 : r34 < 0
  · skip
    rw [show et_X2_handDown_2_0 M x1 = et_X2_handDown_83_0 M x1 from by simp only [et_X2_handDown_2_0, er34, if_pos c35]]
    exact (ef1_X2_handDown_83_0 _ _ (by omega))
  · skip
    obtain ⟨r58, er58⟩ : ∃ z, et_X11_at 5 800 M x1 = z := ⟨_, rfl⟩
    obtain ⟨r59, er59⟩ : ∃ z, et_X2_kind M r34 = z := ⟨_, rfl⟩
    by_cases c60 : r59 = (14 : Int32)
    · skip
      rw [show et_X2_handDown_2_0 M x1 = et_X2_handDown_46_0 M x1 r34 (0 : Int32) r58 r34 from by simp only [et_X2_handDown_2_0, er34, if_neg c35, er58, er59, if_pos c60]]
      exact (ef1_X2_handDown_46_0 _ _ _ _ _ _ (by omega))
    · skip
      rw [show et_X2_handDown_2_0 M x1 = et_X2_handDown_46_0 M x1 r34 (1 : Int32) r58 r34 from by simp only [et_X2_handDown_2_0, er34, if_neg c35, er58, er59, if_neg c60]]
      exact (ef1_X2_handDown_46_0 _ _ _ _ _ _ (by omega))
theorem ef2_X2_handDown_2_0   (M : em_M) (x1 : Int32) {c : Nat} (h : c < 1 ∨ 8 < c) : (et_X2_handDown_2_0 M x1).2 c = M.2 c := by
  obtain ⟨r34, er34⟩ : ∃ z, et_X2_part M x1 (0 : Int32) = z := ⟨_, rfl⟩
  by_cases c35 : r34 < 0
  · skip
    rw [show et_X2_handDown_2_0 M x1 = et_X2_handDown_83_0 M x1 from by simp only [et_X2_handDown_2_0, er34, if_pos c35]]
    exact (ef2_X2_handDown_83_0 _ _ (by omega))
  · skip
    obtain ⟨r58, er58⟩ : ∃ z, et_X11_at 5 800 M x1 = z := ⟨_, rfl⟩
    obtain ⟨r59, er59⟩ : ∃ z, et_X2_kind M r34 = z := ⟨_, rfl⟩
    by_cases c60 : r59 = (14 : Int32)
    · skip
      rw [show et_X2_handDown_2_0 M x1 = et_X2_handDown_46_0 M x1 r34 (0 : Int32) r58 r34 from by simp only [et_X2_handDown_2_0, er34, if_neg c35, er58, er59, if_pos c60]]
      exact (ef2_X2_handDown_46_0 _ _ _ _ _ _ (by omega))
    · skip
      rw [show et_X2_handDown_2_0 M x1 = et_X2_handDown_46_0 M x1 r34 (1 : Int32) r58 r34 from by simp only [et_X2_handDown_2_0, er34, if_neg c35, er58, er59, if_neg c60]]
      exact (ef2_X2_handDown_46_0 _ _ _ _ _ _ (by omega))
theorem ef1_X2_handDown  (M : em_M) (e : Int32) {c : Nat} (h : c < 1 ∨ 8 < c) : (et_X2_handDown M e).1 c = M.1 c := by
  rw [show et_X2_handDown M e = et_X2_handDown_2_0 M e from by simp only [et_X2_handDown]]
  exact (ef1_X2_handDown_2_0 _ _ (by omega))
theorem ef2_X2_handDown  (M : em_M) (e : Int32) {c : Nat} (h : c < 1 ∨ 8 < c) : (et_X2_handDown M e).2 c = M.2 c := by
  rw [show et_X2_handDown M e = et_X2_handDown_2_0 M e from by simp only [et_X2_handDown]]
  exact (ef2_X2_handDown_2_0 _ _ (by omega))
theorem ef1_X2_countIn_144   (M : em_M) (x1 : Int32) (x2 : Int32) (x3 : Int32) (x4 : Int32) (s0 : Int32) (s1 : Int32) (s2 : Int32) {c : Nat} (h : c < 1 ∨ 8 < c) : (et_X2_countIn_144 M x1 x2 x3 x4 s0 s1 s2).1 c = M.1 c := by
  obtain ⟨M29, eM29⟩ : ∃ z, et_X11_put 8 32 M s2 (s1 + s0) = z := ⟨_, rfl⟩
  have fM29 : M29.1 c = M.1 c := by rw [← eM29]; exact ef_put1 (by omega)
  rw [show et_X2_countIn_144 M x1 x2 x3 x4 s0 s1 s2 = M29 from by simp only [et_X2_countIn_144, eM29]]
  exact fM29
theorem ef2_X2_countIn_144   (M : em_M) (x1 : Int32) (x2 : Int32) (x3 : Int32) (x4 : Int32) (s0 : Int32) (s1 : Int32) (s2 : Int32) {c : Nat} (h : c < 1 ∨ 8 < c) : (et_X2_countIn_144 M x1 x2 x3 x4 s0 s1 s2).2 c = M.2 c := by
  obtain ⟨M29, eM29⟩ : ∃ z, et_X11_put 8 32 M s2 (s1 + s0) = z := ⟨_, rfl⟩
  have fM29 : M29.2 c = M.2 c := by rw [← eM29]; exact (congrFun ef_put12 _)
  rw [show et_X2_countIn_144 M x1 x2 x3 x4 s0 s1 s2 = M29 from by simp only [et_X2_countIn_144, eM29]]
  exact fM29
theorem ef1_X2_countIn_104   (M : em_M) (x1 : Int32) (x2 : Int32) (x3 : Int32) (x4 : Int32) (s0 : Int32) (s1 : Int32) (s2 : Int32) {c : Nat} (h : c < 1 ∨ 8 < c) : (et_X2_countIn_104 M x1 x2 x3 x4 s0 s1 s2).1 c = M.1 c := by
  obtain ⟨M26, eM26⟩ : ∃ z, et_X11_put 8 32 M s2 (s1 + s0) = z := ⟨_, rfl⟩
  have fM26 : M26.1 c = M.1 c := by rw [← eM26]; exact ef_put1 (by omega)
  obtain ⟨r27, er27⟩ : ∃ z, et_X11_at 8 32 M26 (x4 + (3 : Int32)) = z := ⟨_, rfl⟩
  by_cases c28 : x3 = (4 : Int32)
  · skip
    obtain ⟨r30, er30⟩ : ∃ z, et_X11_at 6 800 M26 x2 = z := ⟨_, rfl⟩
    rw [show et_X2_countIn_104 M x1 x2 x3 x4 s0 s1 s2 = et_X2_countIn_144 M26 x1 x2 x3 x4 r30 r27 (x4 + (3 : Int32)) from by simp only [et_X2_countIn_104, eM26, er27, if_pos c28, er30]]
    exact ((ef1_X2_countIn_144 _ _ _ _ _ _ _ _ (by omega))).trans (fM26)
  · skip
    rw [show et_X2_countIn_104 M x1 x2 x3 x4 s0 s1 s2 = et_X2_countIn_144 M26 x1 x2 x3 x4 (0 : Int32) r27 (x4 + (3 : Int32)) from by simp only [et_X2_countIn_104, eM26, er27, if_neg c28]]
    exact ((ef1_X2_countIn_144 _ _ _ _ _ _ _ _ (by omega))).trans (fM26)
theorem ef2_X2_countIn_104   (M : em_M) (x1 : Int32) (x2 : Int32) (x3 : Int32) (x4 : Int32) (s0 : Int32) (s1 : Int32) (s2 : Int32) {c : Nat} (h : c < 1 ∨ 8 < c) : (et_X2_countIn_104 M x1 x2 x3 x4 s0 s1 s2).2 c = M.2 c := by
  obtain ⟨M26, eM26⟩ : ∃ z, et_X11_put 8 32 M s2 (s1 + s0) = z := ⟨_, rfl⟩
  have fM26 : M26.2 c = M.2 c := by rw [← eM26]; exact (congrFun ef_put12 _)
  obtain ⟨r27, er27⟩ : ∃ z, et_X11_at 8 32 M26 (x4 + (3 : Int32)) = z := ⟨_, rfl⟩
  by_cases c28 : x3 = (4 : Int32)
  · skip
    obtain ⟨r30, er30⟩ : ∃ z, et_X11_at 6 800 M26 x2 = z := ⟨_, rfl⟩
    rw [show et_X2_countIn_104 M x1 x2 x3 x4 s0 s1 s2 = et_X2_countIn_144 M26 x1 x2 x3 x4 r30 r27 (x4 + (3 : Int32)) from by simp only [et_X2_countIn_104, eM26, er27, if_pos c28, er30]]
    exact ((ef2_X2_countIn_144 _ _ _ _ _ _ _ _ (by omega))).trans (fM26)
  · skip
    rw [show et_X2_countIn_104 M x1 x2 x3 x4 s0 s1 s2 = et_X2_countIn_144 M26 x1 x2 x3 x4 (0 : Int32) r27 (x4 + (3 : Int32)) from by simp only [et_X2_countIn_104, eM26, er27, if_neg c28]]
    exact ((ef2_X2_countIn_144 _ _ _ _ _ _ _ _ (by omega))).trans (fM26)
theorem ef1_X2_countIn_37   (M : em_M) (x1 : Int32) (x2 : Int32) (x3 : Int32) (x4 : Int32) (s0 : Int32) (s1 : Int32) (s2 : Int32) {c : Nat} (h : c < 1 ∨ 8 < c) : (et_X2_countIn_37 M x1 x2 x3 x4 s0 s1 s2).1 c = M.1 c := by
  obtain ⟨M19, eM19⟩ : ∃ z, et_X11_put 8 32 M s2 (s1 + s0) = z := ⟨_, rfl⟩
  have fM19 : M19.1 c = M.1 c := by rw [← eM19]; exact ef_put1 (by omega)
  obtain ⟨r20, er20⟩ : ∃ z, et_X11_at 8 32 M19 (x4 + (1 : Int32)) = z := ⟨_, rfl⟩
  obtain ⟨r21, er21⟩ : ∃ z, et_X11_at 5 800 M19 x2 = z := ⟨_, rfl⟩
  obtain ⟨r22, er22⟩ : ∃ z, (if r20 < r21 then r21 else r20) = z := ⟨_, rfl⟩
  obtain ⟨M23, eM23⟩ : ∃ z, et_X11_put 8 32 M19 (x4 + (1 : Int32)) r22 = z := ⟨_, rfl⟩
  have fM23 : M23.1 c = M19.1 c := by rw [← eM23]; exact ef_put1 (by omega)
  obtain ⟨r24, er24⟩ : ∃ z, et_X11_at 8 32 M23 (x4 + (2 : Int32)) = z := ⟨_, rfl⟩
  by_cases c25 : x3 = (13 : Int32)
  · skip
    rw [show et_X2_countIn_37 M x1 x2 x3 x4 s0 s1 s2 = et_X2_countIn_104 M23 x1 x2 x3 x4 (1 : Int32) r24 (x4 + (2 : Int32)) from by simp only [et_X2_countIn_37, eM19, er20, er21, er22, eM23, er24, if_pos c25]]
    exact ((ef1_X2_countIn_104 _ _ _ _ _ _ _ _ (by omega))).trans ((fM23).trans (fM19))
  · skip
    rw [show et_X2_countIn_37 M x1 x2 x3 x4 s0 s1 s2 = et_X2_countIn_104 M23 x1 x2 x3 x4 (0 : Int32) r24 (x4 + (2 : Int32)) from by simp only [et_X2_countIn_37, eM19, er20, er21, er22, eM23, er24, if_neg c25]]
    exact ((ef1_X2_countIn_104 _ _ _ _ _ _ _ _ (by omega))).trans ((fM23).trans (fM19))
theorem ef2_X2_countIn_37   (M : em_M) (x1 : Int32) (x2 : Int32) (x3 : Int32) (x4 : Int32) (s0 : Int32) (s1 : Int32) (s2 : Int32) {c : Nat} (h : c < 1 ∨ 8 < c) : (et_X2_countIn_37 M x1 x2 x3 x4 s0 s1 s2).2 c = M.2 c := by
  obtain ⟨M19, eM19⟩ : ∃ z, et_X11_put 8 32 M s2 (s1 + s0) = z := ⟨_, rfl⟩
  have fM19 : M19.2 c = M.2 c := by rw [← eM19]; exact (congrFun ef_put12 _)
  obtain ⟨r20, er20⟩ : ∃ z, et_X11_at 8 32 M19 (x4 + (1 : Int32)) = z := ⟨_, rfl⟩
  obtain ⟨r21, er21⟩ : ∃ z, et_X11_at 5 800 M19 x2 = z := ⟨_, rfl⟩
  obtain ⟨r22, er22⟩ : ∃ z, (if r20 < r21 then r21 else r20) = z := ⟨_, rfl⟩
  obtain ⟨M23, eM23⟩ : ∃ z, et_X11_put 8 32 M19 (x4 + (1 : Int32)) r22 = z := ⟨_, rfl⟩
  have fM23 : M23.2 c = M19.2 c := by rw [← eM23]; exact (congrFun ef_put12 _)
  obtain ⟨r24, er24⟩ : ∃ z, et_X11_at 8 32 M23 (x4 + (2 : Int32)) = z := ⟨_, rfl⟩
  by_cases c25 : x3 = (13 : Int32)
  · skip
    rw [show et_X2_countIn_37 M x1 x2 x3 x4 s0 s1 s2 = et_X2_countIn_104 M23 x1 x2 x3 x4 (1 : Int32) r24 (x4 + (2 : Int32)) from by simp only [et_X2_countIn_37, eM19, er20, er21, er22, eM23, er24, if_pos c25]]
    exact ((ef2_X2_countIn_104 _ _ _ _ _ _ _ _ (by omega))).trans ((fM23).trans (fM19))
  · skip
    rw [show et_X2_countIn_37 M x1 x2 x3 x4 s0 s1 s2 = et_X2_countIn_104 M23 x1 x2 x3 x4 (0 : Int32) r24 (x4 + (2 : Int32)) from by simp only [et_X2_countIn_37, eM19, er20, er21, er22, eM23, er24, if_neg c25]]
    exact ((ef2_X2_countIn_104 _ _ _ _ _ _ _ _ (by omega))).trans ((fM23).trans (fM19))
theorem ef1_X2_countIn  (M : em_M) (line : Int32) (e : Int32) {c : Nat} (h : c < 1 ∨ 8 < c) : (et_X2_countIn M line e).1 c = M.1 c := by
  obtain ⟨r16, er16⟩ : ∃ z, et_X2_kind M e = z := ⟨_, rfl⟩
  obtain ⟨r17, er17⟩ : ∃ z, et_X11_at 8 32 M (line * (4 : Int32)) = z := ⟨_, rfl⟩
  by_cases c18 : r16 = (14 : Int32)
  · skip
    rw [show et_X2_countIn M line e = et_X2_countIn_37 M line e r16 (line * (4 : Int32)) (0 : Int32) r17 (line * (4 : Int32)) from by simp only [et_X2_countIn, er16, er17, if_pos c18]]
    exact (ef1_X2_countIn_37 _ _ _ _ _ _ _ _ (by omega))
  · skip
    rw [show et_X2_countIn M line e = et_X2_countIn_37 M line e r16 (line * (4 : Int32)) (1 : Int32) r17 (line * (4 : Int32)) from by simp only [et_X2_countIn, er16, er17, if_neg c18]]
    exact (ef1_X2_countIn_37 _ _ _ _ _ _ _ _ (by omega))
theorem ef2_X2_countIn  (M : em_M) (line : Int32) (e : Int32) {c : Nat} (h : c < 1 ∨ 8 < c) : (et_X2_countIn M line e).2 c = M.2 c := by
  obtain ⟨r16, er16⟩ : ∃ z, et_X2_kind M e = z := ⟨_, rfl⟩
  obtain ⟨r17, er17⟩ : ∃ z, et_X11_at 8 32 M (line * (4 : Int32)) = z := ⟨_, rfl⟩
  by_cases c18 : r16 = (14 : Int32)
  · skip
    rw [show et_X2_countIn M line e = et_X2_countIn_37 M line e r16 (line * (4 : Int32)) (0 : Int32) r17 (line * (4 : Int32)) from by simp only [et_X2_countIn, er16, er17, if_pos c18]]
    exact (ef2_X2_countIn_37 _ _ _ _ _ _ _ _ (by omega))
  · skip
    rw [show et_X2_countIn M line e = et_X2_countIn_37 M line e r16 (line * (4 : Int32)) (1 : Int32) r17 (line * (4 : Int32)) from by simp only [et_X2_countIn, er16, er17, if_neg c18]]
    exact (ef2_X2_countIn_37 _ _ _ _ _ _ _ _ (by omega))
theorem ef1_X5_append  (M : em_M) (sign : Int32) {c : Nat} (h : c < 1 ∨ 10 < c) : (et_X5_append M sign).2.1 c = M.1 c := by
  by_cases c4 : (M.1 9 0) < (100 : Int32)
  · skip
    obtain ⟨M5, eM5⟩ : ∃ z, et_X11_put 10 100 M (M.1 9 0) sign = z := ⟨_, rfl⟩
    have fM5 : M5.1 c = M.1 c := by rw [← eM5]; exact ef_put1 (by omega)
    obtain ⟨M6, eM6⟩ : ∃ z, em_pI M5 9 0 ((M5.1 9 0) + (1 : Int32)) = z := ⟨_, rfl⟩
    have fM6 : M6.1 c = M5.1 c := by rw [← eM6]; exact ef_pI' _ _ _ _ (by omega)
    rw [show et_X5_append M sign = ((M6.1 9 0), M6) from by simp only [et_X5_append, if_pos c4, eM5, eM6]]
    show M6.1 c = M.1 c
    exact (fM6).trans (fM5)
  · skip
    rw [show et_X5_append M sign = ((-4 : Int32), M) from by simp only [et_X5_append, if_neg c4]]
theorem ef2_X5_append  (M : em_M) (sign : Int32) {c : Nat} (h : c < 1 ∨ 10 < c) : (et_X5_append M sign).2.2 c = M.2 c := by
  by_cases c4 : (M.1 9 0) < (100 : Int32)
  · skip
    obtain ⟨M5, eM5⟩ : ∃ z, et_X11_put 10 100 M (M.1 9 0) sign = z := ⟨_, rfl⟩
    have fM5 : M5.2 c = M.2 c := by rw [← eM5]; exact (congrFun ef_put12 _)
    obtain ⟨M6, eM6⟩ : ∃ z, em_pI M5 9 0 ((M5.1 9 0) + (1 : Int32)) = z := ⟨_, rfl⟩
    have fM6 : M6.2 c = M5.2 c := by rw [← eM6]; exact rfl
    rw [show et_X5_append M sign = ((M6.1 9 0), M6) from by simp only [et_X5_append, if_pos c4, eM5, eM6]]
    show M6.2 c = M.2 c
    exact (fM6).trans (fM5)
  · skip
    rw [show et_X5_append M sign = ((-4 : Int32), M) from by simp only [et_X5_append, if_neg c4]]
theorem ef1_X5_passed  (M : em_M) (due : Int32) {c : Nat} (h : c < 1 ∨ 10 < c) : (et_X5_passed M due).2.1 c = M.1 c := by
  obtain ⟨r4, er4⟩ : ∃ z, et_X5_sign M = z := ⟨_, rfl⟩
  by_cases c5 : r4 = due
  · skip
    obtain ⟨M6, eM6⟩ : ∃ z, em_pI M 9 1 ((M.1 9 1) + (1 : Int32)) = z := ⟨_, rfl⟩
    have fM6 : M6.1 c = M.1 c := by rw [← eM6]; exact ef_pI' _ _ _ _ (by omega)
    rw [show et_X5_passed M due = ((1 : Int32), M6) from by simp only [et_X5_passed, er4, if_pos c5, eM6]]
    show M6.1 c = M.1 c
    exact fM6
  · skip
    rw [show et_X5_passed M due = ((0 : Int32), M) from by simp only [et_X5_passed, er4, if_neg c5]]
theorem ef2_X5_passed  (M : em_M) (due : Int32) {c : Nat} (h : c < 1 ∨ 10 < c) : (et_X5_passed M due).2.2 c = M.2 c := by
  obtain ⟨r4, er4⟩ : ∃ z, et_X5_sign M = z := ⟨_, rfl⟩
  by_cases c5 : r4 = due
  · skip
    obtain ⟨M6, eM6⟩ : ∃ z, em_pI M 9 1 ((M.1 9 1) + (1 : Int32)) = z := ⟨_, rfl⟩
    have fM6 : M6.2 c = M.2 c := by rw [← eM6]; exact rfl
    rw [show et_X5_passed M due = ((1 : Int32), M6) from by simp only [et_X5_passed, er4, if_pos c5, eM6]]
    show M6.2 c = M.2 c
    exact fM6
  · skip
    rw [show et_X5_passed M due = ((0 : Int32), M) from by simp only [et_X5_passed, er4, if_neg c5]]
theorem ef1_X5_digits  (M : em_M) {c : Nat} (h : c < 1 ∨ 10 < c) : (et_X5_digits M).2.1 c = M.1 c := by
  obtain ⟨r25, er25⟩ : ∃ z, et_X5_sign M = z := ⟨_, rfl⟩
  obtain ⟨r26, er26⟩ : ∃ z, et_X5_isDigit M r25 = z := ⟨_, rfl⟩
  by_cases c27 : r26 = 0
  · skip
    obtain ⟨r28, M29, eM29⟩ : ∃ y z, et_X2_add M (11 : Int32) (0 : Int32) = (y, z) := ⟨_, _, rfl⟩
    have fM29 : M29.1 c = M.1 c := by
      have q : (et_X2_add M (11 : Int32) (0 : Int32)).2.1 c = M.1 c := ef1_X2_add _ _ _ (by omega)
      rw [eM29] at q
      exact q
    rw [show et_X5_digits M = (r28, M29) from by simp only [et_X5_digits, er25, er26, if_pos c27, eM29]]
    show M29.1 c = M.1 c
    exact fM29
  · skip
    obtain ⟨M31, eM31⟩ : ∃ z, em_pI M 9 1 ((M.1 9 1) + (1 : Int32)) = z := ⟨_, rfl⟩
    have fM31 : M31.1 c = M.1 c := by rw [← eM31]; exact ef_pI' _ _ _ _ (by omega)
    obtain ⟨r32, er32⟩ : ∃ z, et_X5_sign M31 = z := ⟨_, rfl⟩
    obtain ⟨r33, er33⟩ : ∃ z, et_X5_isDigit M31 r32 = z := ⟨_, rfl⟩
    by_cases c34 : r33 = 0
    · skip
      obtain ⟨r35, M36, eM36⟩ : ∃ y z, et_X2_add M31 (11 : Int32) ((((0 : Int32) * (10 : Int32)) + r25) - (48 : Int32)) = (y, z) := ⟨_, _, rfl⟩
      have fM36 : M36.1 c = M31.1 c := by
        have q : (et_X2_add M31 (11 : Int32) ((((0 : Int32) * (10 : Int32)) + r25) - (48 : Int32))).2.1 c = M31.1 c := ef1_X2_add _ _ _ (by omega)
        rw [eM36] at q
        exact q
      rw [show et_X5_digits M = (r35, M36) from by simp only [et_X5_digits, er25, er26, if_neg c27, eM31, er32, er33, if_pos c34, eM36]]
      show M36.1 c = M.1 c
      exact (fM36).trans (fM31)
    · skip
      obtain ⟨M38, eM38⟩ : ∃ z, em_pI M31 9 1 ((M31.1 9 1) + (1 : Int32)) = z := ⟨_, rfl⟩
      have fM38 : M38.1 c = M31.1 c := by rw [← eM38]; exact ef_pI' _ _ _ _ (by omega)
      obtain ⟨r39, er39⟩ : ∃ z, et_X5_sign M38 = z := ⟨_, rfl⟩
      obtain ⟨r40, er40⟩ : ∃ z, et_X5_isDigit M38 r39 = z := ⟨_, rfl⟩
      by_cases c41 : r40 = 0
      · skip
        obtain ⟨r42, M43, eM43⟩ : ∃ y z, et_X2_add M38 (11 : Int32) (((((((0 : Int32) * (10 : Int32)) + r25) - (48 : Int32)) * (10 : Int32)) + r32) - (48 : Int32)) = (y, z) := ⟨_, _, rfl⟩
        have fM43 : M43.1 c = M38.1 c := by
          have q : (et_X2_add M38 (11 : Int32) (((((((0 : Int32) * (10 : Int32)) + r25) - (48 : Int32)) * (10 : Int32)) + r32) - (48 : Int32))).2.1 c = M38.1 c := ef1_X2_add _ _ _ (by omega)
          rw [eM43] at q
          exact q
        rw [show et_X5_digits M = (r42, M43) from by simp only [et_X5_digits, er25, er26, if_neg c27, eM31, er32, er33, if_neg c34, eM38, er39, er40, if_pos c41, eM43]]
        show M43.1 c = M.1 c
        exact (fM43).trans ((fM38).trans (fM31))
      · skip
        obtain ⟨M45, eM45⟩ : ∃ z, em_pI M38 9 1 ((M38.1 9 1) + (1 : Int32)) = z := ⟨_, rfl⟩
        have fM45 : M45.1 c = M38.1 c := by rw [← eM45]; exact ef_pI' _ _ _ _ (by omega)
        obtain ⟨r46, M47, eM47⟩ : ∃ y z, et_X2_add M45 (11 : Int32) ((((((((((0 : Int32) * (10 : Int32)) + r25) - (48 : Int32)) * (10 : Int32)) + r32) - (48 : Int32)) * (10 : Int32)) + r39) - (48 : Int32)) = (y, z) := ⟨_, _, rfl⟩
        have fM47 : M47.1 c = M45.1 c := by
          have q : (et_X2_add M45 (11 : Int32) ((((((((((0 : Int32) * (10 : Int32)) + r25) - (48 : Int32)) * (10 : Int32)) + r32) - (48 : Int32)) * (10 : Int32)) + r39) - (48 : Int32))).2.1 c = M45.1 c := ef1_X2_add _ _ _ (by omega)
          rw [eM47] at q
          exact q
        rw [show et_X5_digits M = (r46, M47) from by simp only [et_X5_digits, er25, er26, if_neg c27, eM31, er32, er33, if_neg c34, eM38, er39, er40, if_neg c41, eM45, eM47]]
        show M47.1 c = M.1 c
        exact (fM47).trans ((fM45).trans ((fM38).trans (fM31)))
theorem ef2_X5_digits  (M : em_M) {c : Nat} (h : c < 1 ∨ 10 < c) : (et_X5_digits M).2.2 c = M.2 c := by
  obtain ⟨r25, er25⟩ : ∃ z, et_X5_sign M = z := ⟨_, rfl⟩
  obtain ⟨r26, er26⟩ : ∃ z, et_X5_isDigit M r25 = z := ⟨_, rfl⟩
  by_cases c27 : r26 = 0
  · skip
    obtain ⟨r28, M29, eM29⟩ : ∃ y z, et_X2_add M (11 : Int32) (0 : Int32) = (y, z) := ⟨_, _, rfl⟩
    have fM29 : M29.2 c = M.2 c := by
      have q : (et_X2_add M (11 : Int32) (0 : Int32)).2.2 c = M.2 c := ef2_X2_add _ _ _ (by omega)
      rw [eM29] at q
      exact q
    rw [show et_X5_digits M = (r28, M29) from by simp only [et_X5_digits, er25, er26, if_pos c27, eM29]]
    show M29.2 c = M.2 c
    exact fM29
  · skip
    obtain ⟨M31, eM31⟩ : ∃ z, em_pI M 9 1 ((M.1 9 1) + (1 : Int32)) = z := ⟨_, rfl⟩
    have fM31 : M31.2 c = M.2 c := by rw [← eM31]; exact rfl
    obtain ⟨r32, er32⟩ : ∃ z, et_X5_sign M31 = z := ⟨_, rfl⟩
    obtain ⟨r33, er33⟩ : ∃ z, et_X5_isDigit M31 r32 = z := ⟨_, rfl⟩
    by_cases c34 : r33 = 0
    · skip
      obtain ⟨r35, M36, eM36⟩ : ∃ y z, et_X2_add M31 (11 : Int32) ((((0 : Int32) * (10 : Int32)) + r25) - (48 : Int32)) = (y, z) := ⟨_, _, rfl⟩
      have fM36 : M36.2 c = M31.2 c := by
        have q : (et_X2_add M31 (11 : Int32) ((((0 : Int32) * (10 : Int32)) + r25) - (48 : Int32))).2.2 c = M31.2 c := ef2_X2_add _ _ _ (by omega)
        rw [eM36] at q
        exact q
      rw [show et_X5_digits M = (r35, M36) from by simp only [et_X5_digits, er25, er26, if_neg c27, eM31, er32, er33, if_pos c34, eM36]]
      show M36.2 c = M.2 c
      exact (fM36).trans (fM31)
    · skip
      obtain ⟨M38, eM38⟩ : ∃ z, em_pI M31 9 1 ((M31.1 9 1) + (1 : Int32)) = z := ⟨_, rfl⟩
      have fM38 : M38.2 c = M31.2 c := by rw [← eM38]; exact rfl
      obtain ⟨r39, er39⟩ : ∃ z, et_X5_sign M38 = z := ⟨_, rfl⟩
      obtain ⟨r40, er40⟩ : ∃ z, et_X5_isDigit M38 r39 = z := ⟨_, rfl⟩
      by_cases c41 : r40 = 0
      · skip
        obtain ⟨r42, M43, eM43⟩ : ∃ y z, et_X2_add M38 (11 : Int32) (((((((0 : Int32) * (10 : Int32)) + r25) - (48 : Int32)) * (10 : Int32)) + r32) - (48 : Int32)) = (y, z) := ⟨_, _, rfl⟩
        have fM43 : M43.2 c = M38.2 c := by
          have q : (et_X2_add M38 (11 : Int32) (((((((0 : Int32) * (10 : Int32)) + r25) - (48 : Int32)) * (10 : Int32)) + r32) - (48 : Int32))).2.2 c = M38.2 c := ef2_X2_add _ _ _ (by omega)
          rw [eM43] at q
          exact q
        rw [show et_X5_digits M = (r42, M43) from by simp only [et_X5_digits, er25, er26, if_neg c27, eM31, er32, er33, if_neg c34, eM38, er39, er40, if_pos c41, eM43]]
        show M43.2 c = M.2 c
        exact (fM43).trans ((fM38).trans (fM31))
      · skip
        obtain ⟨M45, eM45⟩ : ∃ z, em_pI M38 9 1 ((M38.1 9 1) + (1 : Int32)) = z := ⟨_, rfl⟩
        have fM45 : M45.2 c = M38.2 c := by rw [← eM45]; exact rfl
        obtain ⟨r46, M47, eM47⟩ : ∃ y z, et_X2_add M45 (11 : Int32) ((((((((((0 : Int32) * (10 : Int32)) + r25) - (48 : Int32)) * (10 : Int32)) + r32) - (48 : Int32)) * (10 : Int32)) + r39) - (48 : Int32)) = (y, z) := ⟨_, _, rfl⟩
        have fM47 : M47.2 c = M45.2 c := by
          have q : (et_X2_add M45 (11 : Int32) ((((((((((0 : Int32) * (10 : Int32)) + r25) - (48 : Int32)) * (10 : Int32)) + r32) - (48 : Int32)) * (10 : Int32)) + r39) - (48 : Int32))).2.2 c = M45.2 c := ef2_X2_add _ _ _ (by omega)
          rw [eM47] at q
          exact q
        rw [show et_X5_digits M = (r46, M47) from by simp only [et_X5_digits, er25, er26, if_neg c27, eM31, er32, er33, if_neg c34, eM38, er39, er40, if_neg c41, eM45, eM47]]
        show M47.2 c = M.2 c
        exact (fM47).trans ((fM45).trans ((fM38).trans (fM31)))
theorem ef1_X3_start  (w : Nat) (M : em_M) (line : Int32) {c : Nat} (h : c < w ∨ w + 23 < c) : (et_X3_start w M line).1 c = M.1 c := by
  obtain ⟨M12, eM12⟩ : ∃ z, et_X4_clear (w + 4) M = z := ⟨_, rfl⟩
  have fM12 : M12.1 c = M.1 c := by rw [← eM12]; exact ef1_X4_clear _ _ (by omega)
  obtain ⟨M13, eM13⟩ : ∃ z, et_X7_clear w M12 = z := ⟨_, rfl⟩
  have fM13 : M13.1 c = M12.1 c := by rw [← eM13]; exact ef1_X7_clear _ _ (by omega)
  obtain ⟨M14, eM14⟩ : ∃ z, et_X0_clear w M13 = z := ⟨_, rfl⟩
  have fM14 : M14.1 c = M13.1 c := by rw [← eM14]; exact ef1_X0_clear _ _ (by omega)
  obtain ⟨M15, eM15⟩ : ∃ z, et_X9_clear w M14 = z := ⟨_, rfl⟩
  have fM15 : M15.1 c = M14.1 c := by rw [← eM15]; exact ef1_X9_clear _ _ (by omega)
  obtain ⟨M16, eM16⟩ : ∃ z, em_pI M15 (w + 3) 8 (0 : Int32) = z := ⟨_, rfl⟩
  have fM16 : M16.1 c = M15.1 c := by rw [← eM16]; exact ef_pI' _ _ _ _ (by omega)
  obtain ⟨M17, eM17⟩ : ∃ z, em_pI M16 (w + 3) 9 (0 : Int32) = z := ⟨_, rfl⟩
  have fM17 : M17.1 c = M16.1 c := by rw [← eM17]; exact ef_pI' _ _ _ _ (by omega)
  obtain ⟨r18, er18⟩ : ∃ z, et_X2_root M17 line = z := ⟨_, rfl⟩
  obtain ⟨M19, eM19⟩ : ∃ z, em_pI M17 (w + 3) 10 r18 = z := ⟨_, rfl⟩
  have fM19 : M19.1 c = M17.1 c := by rw [← eM19]; exact ef_pI' _ _ _ _ (by omega)
  obtain ⟨M20, eM20⟩ : ∃ z, em_pI M19 (w + 3) 11 (0 : Int32) = z := ⟨_, rfl⟩
  have fM20 : M20.1 c = M19.1 c := by rw [← eM20]; exact ef_pI' _ _ _ _ (by omega)
  obtain ⟨M21, eM21⟩ : ∃ z, em_pI M20 (w + 3) 13 (0 : Int32) = z := ⟨_, rfl⟩
  have fM21 : M21.1 c = M20.1 c := by rw [← eM21]; exact ef_pI' _ _ _ _ (by omega)
  obtain ⟨M22, eM22⟩ : ∃ z, em_pI M21 (w + 3) 14 (0 : Int32) = z := ⟨_, rfl⟩
  have fM22 : M22.1 c = M21.1 c := by rw [← eM22]; exact ef_pI' _ _ _ _ (by omega)
  rw [show et_X3_start w M line = M22 from by simp only [et_X3_start, eM12, eM13, eM14, eM15, eM16, eM17, er18, eM19, eM20, eM21, eM22]]
  exact (fM22).trans ((fM21).trans ((fM20).trans ((fM19).trans ((fM17).trans ((fM16).trans ((fM15).trans ((fM14).trans ((fM13).trans (fM12)))))))))
theorem ef2_X3_start  (w : Nat) (M : em_M) (line : Int32) {c : Nat} (h : c < w ∨ w + 23 < c) : (et_X3_start w M line).2 c = M.2 c := by
  obtain ⟨M12, eM12⟩ : ∃ z, et_X4_clear (w + 4) M = z := ⟨_, rfl⟩
  have fM12 : M12.2 c = M.2 c := by rw [← eM12]; exact ef2_X4_clear _ _ (by omega)
  obtain ⟨M13, eM13⟩ : ∃ z, et_X7_clear w M12 = z := ⟨_, rfl⟩
  have fM13 : M13.2 c = M12.2 c := by rw [← eM13]; exact ef2_X7_clear _ _ (by omega)
  obtain ⟨M14, eM14⟩ : ∃ z, et_X0_clear w M13 = z := ⟨_, rfl⟩
  have fM14 : M14.2 c = M13.2 c := by rw [← eM14]; exact ef2_X0_clear _ _ (by omega)
  obtain ⟨M15, eM15⟩ : ∃ z, et_X9_clear w M14 = z := ⟨_, rfl⟩
  have fM15 : M15.2 c = M14.2 c := by rw [← eM15]; exact ef2_X9_clear _ _ (by omega)
  obtain ⟨M16, eM16⟩ : ∃ z, em_pI M15 (w + 3) 8 (0 : Int32) = z := ⟨_, rfl⟩
  have fM16 : M16.2 c = M15.2 c := by rw [← eM16]; exact rfl
  obtain ⟨M17, eM17⟩ : ∃ z, em_pI M16 (w + 3) 9 (0 : Int32) = z := ⟨_, rfl⟩
  have fM17 : M17.2 c = M16.2 c := by rw [← eM17]; exact rfl
  obtain ⟨r18, er18⟩ : ∃ z, et_X2_root M17 line = z := ⟨_, rfl⟩
  obtain ⟨M19, eM19⟩ : ∃ z, em_pI M17 (w + 3) 10 r18 = z := ⟨_, rfl⟩
  have fM19 : M19.2 c = M17.2 c := by rw [← eM19]; exact rfl
  obtain ⟨M20, eM20⟩ : ∃ z, em_pI M19 (w + 3) 11 (0 : Int32) = z := ⟨_, rfl⟩
  have fM20 : M20.2 c = M19.2 c := by rw [← eM20]; exact rfl
  obtain ⟨M21, eM21⟩ : ∃ z, em_pI M20 (w + 3) 13 (0 : Int32) = z := ⟨_, rfl⟩
  have fM21 : M21.2 c = M20.2 c := by rw [← eM21]; exact rfl
  obtain ⟨M22, eM22⟩ : ∃ z, em_pI M21 (w + 3) 14 (0 : Int32) = z := ⟨_, rfl⟩
  have fM22 : M22.2 c = M21.2 c := by rw [← eM22]; exact rfl
  rw [show et_X3_start w M line = M22 from by simp only [et_X3_start, eM12, eM13, eM14, eM15, eM16, eM17, er18, eM19, eM20, eM21, eM22]]
  exact (fM22).trans ((fM21).trans ((fM20).trans ((fM19).trans ((fM17).trans ((fM16).trans ((fM15).trans ((fM14).trans ((fM13).trans (fM12)))))))))
theorem ef1_X3_give  (w : Nat) (M : em_M) (v : Int64) {c : Nat} (h : c < w ∨ w + 23 < c) : (et_X3_give w M v).1 c = M.1 c := by
  obtain ⟨M3, eM3⟩ : ∃ z, em_pL M (w + 3) 12 v = z := ⟨_, rfl⟩
  have fM3 : M3.1 c = M.1 c := by rw [← eM3]; exact rfl
  obtain ⟨M4, eM4⟩ : ∃ z, em_pI M3 (w + 3) 9 (1 : Int32) = z := ⟨_, rfl⟩
  have fM4 : M4.1 c = M3.1 c := by rw [← eM4]; exact ef_pI' _ _ _ _ (by omega)
  rw [show et_X3_give w M v = M4 from by simp only [et_X3_give, eM3, eM4]]
  exact (fM4).trans (fM3)
theorem ef2_X3_give  (w : Nat) (M : em_M) (v : Int64) {c : Nat} (h : c < w ∨ w + 23 < c) : (et_X3_give w M v).2 c = M.2 c := by
  obtain ⟨M3, eM3⟩ : ∃ z, em_pL M (w + 3) 12 v = z := ⟨_, rfl⟩
  have fM3 : M3.2 c = M.2 c := by rw [← eM3]; exact ef_pL' _ _ _ _ (by omega)
  obtain ⟨M4, eM4⟩ : ∃ z, em_pI M3 (w + 3) 9 (1 : Int32) = z := ⟨_, rfl⟩
  have fM4 : M4.2 c = M3.2 c := by rw [← eM4]; exact rfl
  rw [show et_X3_give w M v = M4 from by simp only [et_X3_give, eM3, eM4]]
  exact (fM4).trans (fM3)
theorem ef1_X3_workOn  (w : Nat) (M : em_M) (k : Int32) {c : Nat} (h : c < w ∨ w + 23 < c) : (et_X3_workOn w M k).1 c = M.1 c := by
  obtain ⟨r4, er4⟩ : ∃ z, et_X2_part M (M.1 (w + 3) 10) k = z := ⟨_, rfl⟩
  obtain ⟨M5, eM5⟩ : ∃ z, em_pI M (w + 3) 10 r4 = z := ⟨_, rfl⟩
  have fM5 : M5.1 c = M.1 c := by rw [← eM5]; exact ef_pI' _ _ _ _ (by omega)
  obtain ⟨M6, eM6⟩ : ∃ z, em_pI M5 (w + 3) 9 (0 : Int32) = z := ⟨_, rfl⟩
  have fM6 : M6.1 c = M5.1 c := by rw [← eM6]; exact ef_pI' _ _ _ _ (by omega)
  rw [show et_X3_workOn w M k = M6 from by simp only [et_X3_workOn, er4, eM5, eM6]]
  exact (fM6).trans (fM5)
theorem ef2_X3_workOn  (w : Nat) (M : em_M) (k : Int32) {c : Nat} (h : c < w ∨ w + 23 < c) : (et_X3_workOn w M k).2 c = M.2 c := by
  obtain ⟨r4, er4⟩ : ∃ z, et_X2_part M (M.1 (w + 3) 10) k = z := ⟨_, rfl⟩
  obtain ⟨M5, eM5⟩ : ∃ z, em_pI M (w + 3) 10 r4 = z := ⟨_, rfl⟩
  have fM5 : M5.2 c = M.2 c := by rw [← eM5]; exact rfl
  obtain ⟨M6, eM6⟩ : ∃ z, em_pI M5 (w + 3) 9 (0 : Int32) = z := ⟨_, rfl⟩
  have fM6 : M6.2 c = M5.2 c := by rw [← eM6]; exact rfl
  rw [show et_X3_workOn w M k = M6 from by simp only [et_X3_workOn, er4, eM5, eM6]]
  exact (fM6).trans (fM5)
theorem ef1_X3_caught  (w : Nat) (M : em_M) {c : Nat} (h : c < w ∨ w + 23 < c) : (et_X3_caught w M).2.1 c = M.1 c := by
  obtain ⟨M4, eM4⟩ : ∃ z, em_pI M (w + 3) 8 ((M.1 (w + 3) 8) + (1 : Int32)) = z := ⟨_, rfl⟩
  have fM4 : M4.1 c = M.1 c := by rw [← eM4]; exact ef_pI' _ _ _ _ (by omega)
  obtain ⟨M5, eM5⟩ : ∃ z, et_X11_put (w + 22) 301 M4 (M.1 (w + 3) 8) (M4.1 (w + 3) 13) = z := ⟨_, rfl⟩
  have fM5 : M5.1 c = M4.1 c := by rw [← eM5]; exact ef_put1 (by omega)
  obtain ⟨M6, eM6⟩ : ∃ z, et_X11_put (w + 23) 301 M5 (M.1 (w + 3) 8) (M5.1 (w + 3) 14) = z := ⟨_, rfl⟩
  have fM6 : M6.1 c = M5.1 c := by rw [← eM6]; exact ef_put1 (by omega)
  rw [show et_X3_caught w M = (((4294967296 : Int64) + ((M.1 (w + 3) 8)).toInt64), M6) from by simp only [et_X3_caught, eM4, eM5, eM6]]
  show M6.1 c = M.1 c
  exact (fM6).trans ((fM5).trans (fM4))
theorem ef2_X3_caught  (w : Nat) (M : em_M) {c : Nat} (h : c < w ∨ w + 23 < c) : (et_X3_caught w M).2.2 c = M.2 c := by
  obtain ⟨M4, eM4⟩ : ∃ z, em_pI M (w + 3) 8 ((M.1 (w + 3) 8) + (1 : Int32)) = z := ⟨_, rfl⟩
  have fM4 : M4.2 c = M.2 c := by rw [← eM4]; exact rfl
  obtain ⟨M5, eM5⟩ : ∃ z, et_X11_put (w + 22) 301 M4 (M.1 (w + 3) 8) (M4.1 (w + 3) 13) = z := ⟨_, rfl⟩
  have fM5 : M5.2 c = M4.2 c := by rw [← eM5]; exact (congrFun ef_put12 _)
  obtain ⟨M6, eM6⟩ : ∃ z, et_X11_put (w + 23) 301 M5 (M.1 (w + 3) 8) (M5.1 (w + 3) 14) = z := ⟨_, rfl⟩
  have fM6 : M6.2 c = M5.2 c := by rw [← eM6]; exact (congrFun ef_put12 _)
  rw [show et_X3_caught w M = (((4294967296 : Int64) + ((M.1 (w + 3) 8)).toInt64), M6) from by simp only [et_X3_caught, eM4, eM5, eM6]]
  show M6.2 c = M.2 c
  exact (fM6).trans ((fM5).trans (fM4))
theorem ef1_X3_comes  (w : Nat) (M : em_M) (sort : Int32) (behind : Int32) {c : Nat} (h : c < w ∨ w + 23 < c) : (et_X3_comes w M sort behind).2.1 c = M.1 c := by
  obtain ⟨r10, M11, eM11⟩ : ∃ y z, et_X0_add w M (M.1 (w + 3) 13) sort behind (M.1 (w + 3) 10) (M.1 (w + 3) 11) = (y, z) := ⟨_, _, rfl⟩
  have fM11 : M11.1 c = M.1 c := by
    have q : (et_X0_add w M (M.1 (w + 3) 13) sort behind (M.1 (w + 3) 10) (M.1 (w + 3) 11)).2.1 c = M.1 c := ef1_X0_add _ _ _ _ _ _ _ (by omega)
    rw [eM11] at q
    exact q
  by_cases c13 : r10 = 0
  · skip
    obtain ⟨M18, eM18⟩ : ∃ z, em_pI M11 (w + 4) 0 (4 : Int32) = z := ⟨_, rfl⟩
    have fM18 : M18.1 c = M11.1 c := by rw [← eM18]; exact ef_pI' _ _ _ _ (by omega)
    rw [show et_X3_comes w M sort behind = ((0 : Int32), M18) from by simp only [et_X3_comes, eM11, if_pos c13, eM18]]
    show M18.1 c = M.1 c
    exact (fM18).trans (fM11)
  · skip
    obtain ⟨M14, eM14⟩ : ∃ z, em_pI M11 (w + 3) 13 r10 = z := ⟨_, rfl⟩
    have fM14 : M14.1 c = M11.1 c := by rw [← eM14]; exact ef_pI' _ _ _ _ (by omega)
    obtain ⟨r15, er15⟩ : ∃ z, et_X0_height w M14 r10 = z := ⟨_, rfl⟩
    obtain ⟨r16, er16⟩ : ∃ z, (if (M14.1 (w + 4) 2) < r15 then r15 else (M14.1 (w + 4) 2)) = z := ⟨_, rfl⟩
    obtain ⟨M17, eM17⟩ : ∃ z, em_pI M14 (w + 4) 2 r16 = z := ⟨_, rfl⟩
    have fM17 : M17.1 c = M14.1 c := by rw [← eM17]; exact ef_pI' _ _ _ _ (by omega)
    rw [show et_X3_comes w M sort behind = (r10, M17) from by simp only [et_X3_comes, eM11, if_neg c13, eM14, er15, er16, eM17]]
    show M17.1 c = M.1 c
    exact (fM17).trans ((fM14).trans (fM11))
theorem ef2_X3_comes  (w : Nat) (M : em_M) (sort : Int32) (behind : Int32) {c : Nat} (h : c < w ∨ w + 23 < c) : (et_X3_comes w M sort behind).2.2 c = M.2 c := by
  obtain ⟨r10, M11, eM11⟩ : ∃ y z, et_X0_add w M (M.1 (w + 3) 13) sort behind (M.1 (w + 3) 10) (M.1 (w + 3) 11) = (y, z) := ⟨_, _, rfl⟩
  have fM11 : M11.2 c = M.2 c := by
    have q : (et_X0_add w M (M.1 (w + 3) 13) sort behind (M.1 (w + 3) 10) (M.1 (w + 3) 11)).2.2 c = M.2 c := ef2_X0_add _ _ _ _ _ _ _ (by omega)
    rw [eM11] at q
    exact q
  by_cases c13 : r10 = 0
  · skip
    obtain ⟨M18, eM18⟩ : ∃ z, em_pI M11 (w + 4) 0 (4 : Int32) = z := ⟨_, rfl⟩
    have fM18 : M18.2 c = M11.2 c := by rw [← eM18]; exact rfl
    rw [show et_X3_comes w M sort behind = ((0 : Int32), M18) from by simp only [et_X3_comes, eM11, if_pos c13, eM18]]
    show M18.2 c = M.2 c
    exact (fM18).trans (fM11)
  · skip
    obtain ⟨M14, eM14⟩ : ∃ z, em_pI M11 (w + 3) 13 r10 = z := ⟨_, rfl⟩
    have fM14 : M14.2 c = M11.2 c := by rw [← eM14]; exact rfl
    obtain ⟨r15, er15⟩ : ∃ z, et_X0_height w M14 r10 = z := ⟨_, rfl⟩
    obtain ⟨r16, er16⟩ : ∃ z, (if (M14.1 (w + 4) 2) < r15 then r15 else (M14.1 (w + 4) 2)) = z := ⟨_, rfl⟩
    obtain ⟨M17, eM17⟩ : ∃ z, em_pI M14 (w + 4) 2 r16 = z := ⟨_, rfl⟩
    have fM17 : M17.2 c = M14.2 c := by rw [← eM17]; exact rfl
    rw [show et_X3_comes w M sort behind = (r10, M17) from by simp only [et_X3_comes, eM11, if_neg c13, eM14, er15, er16, eM17]]
    show M17.2 c = M.2 c
    exact (fM17).trans ((fM14).trans (fM11))
theorem ef1_X3_call  (w : Nat) (M : em_M) (line : Int32) {c : Nat} (h : c < w ∨ w + 23 < c) : (et_X3_call w M line).1 c = M.1 c := by
  obtain ⟨r11, er11⟩ : ∃ z, et_X2_has M line = z := ⟨_, rfl⟩
  by_cases c12 : r11 = 0
  · skip
    obtain ⟨M20, eM20⟩ : ∃ z, em_pI M (w + 4) 0 (3 : Int32) = z := ⟨_, rfl⟩
    have fM20 : M20.1 c = M.1 c := by rw [← eM20]; exact ef_pI' _ _ _ _ (by omega)
    rw [show et_X3_call w M line = M20 from by simp only [et_X3_call, er11, if_pos c12, eM20]]
    exact fM20
  · skip
    obtain ⟨r13, M14, eM14⟩ : ∃ y z, et_X7_bind w M (0 : Int32) (0 : Int32) (M.2 (w + 3) 12) = (y, z) := ⟨_, _, rfl⟩
    have fM14 : M14.1 c = M.1 c := by
      have q : (et_X7_bind w M (0 : Int32) (0 : Int32) (M.2 (w + 3) 12)).2.1 c = M.1 c := ef1_X7_bind _ _ _ _ _ (by omega)
      rw [eM14] at q
      exact q
    obtain ⟨M16, eM16⟩ : ∃ z, em_pI M14 (w + 3) 11 r13 = z := ⟨_, rfl⟩
    have fM16 : M16.1 c = M14.1 c := by rw [← eM16]; exact ef_pI' _ _ _ _ (by omega)
    obtain ⟨r17, er17⟩ : ∃ z, et_X2_root M16 line = z := ⟨_, rfl⟩
    obtain ⟨M18, eM18⟩ : ∃ z, em_pI M16 (w + 3) 10 r17 = z := ⟨_, rfl⟩
    have fM18 : M18.1 c = M16.1 c := by rw [← eM18]; exact ef_pI' _ _ _ _ (by omega)
    obtain ⟨M19, eM19⟩ : ∃ z, em_pI M18 (w + 3) 9 (0 : Int32) = z := ⟨_, rfl⟩
    have fM19 : M19.1 c = M18.1 c := by rw [← eM19]; exact ef_pI' _ _ _ _ (by omega)
    rw [show et_X3_call w M line = M19 from by simp only [et_X3_call, er11, if_neg c12, eM14, eM16, er17, eM18, eM19]]
    exact (fM19).trans ((fM18).trans ((fM16).trans (fM14)))
theorem ef2_X3_call  (w : Nat) (M : em_M) (line : Int32) {c : Nat} (h : c < w ∨ w + 23 < c) : (et_X3_call w M line).2 c = M.2 c := by
  obtain ⟨r11, er11⟩ : ∃ z, et_X2_has M line = z := ⟨_, rfl⟩
  by_cases c12 : r11 = 0
  · skip
    obtain ⟨M20, eM20⟩ : ∃ z, em_pI M (w + 4) 0 (3 : Int32) = z := ⟨_, rfl⟩
    have fM20 : M20.2 c = M.2 c := by rw [← eM20]; exact rfl
    rw [show et_X3_call w M line = M20 from by simp only [et_X3_call, er11, if_pos c12, eM20]]
    exact fM20
  · skip
    obtain ⟨r13, M14, eM14⟩ : ∃ y z, et_X7_bind w M (0 : Int32) (0 : Int32) (M.2 (w + 3) 12) = (y, z) := ⟨_, _, rfl⟩
    have fM14 : M14.2 c = M.2 c := by
      have q : (et_X7_bind w M (0 : Int32) (0 : Int32) (M.2 (w + 3) 12)).2.2 c = M.2 c := ef2_X7_bind _ _ _ _ _ (by omega)
      rw [eM14] at q
      exact q
    obtain ⟨M16, eM16⟩ : ∃ z, em_pI M14 (w + 3) 11 r13 = z := ⟨_, rfl⟩
    have fM16 : M16.2 c = M14.2 c := by rw [← eM16]; exact rfl
    obtain ⟨r17, er17⟩ : ∃ z, et_X2_root M16 line = z := ⟨_, rfl⟩
    obtain ⟨M18, eM18⟩ : ∃ z, em_pI M16 (w + 3) 10 r17 = z := ⟨_, rfl⟩
    have fM18 : M18.2 c = M16.2 c := by rw [← eM18]; exact rfl
    obtain ⟨M19, eM19⟩ : ∃ z, em_pI M18 (w + 3) 9 (0 : Int32) = z := ⟨_, rfl⟩
    have fM19 : M19.2 c = M18.2 c := by rw [← eM19]; exact rfl
    rw [show et_X3_call w M line = M19 from by simp only [et_X3_call, er11, if_neg c12, eM14, eM16, er17, eM18, eM19]]
    exact (fM19).trans ((fM18).trans ((fM16).trans (fM14)))
theorem ef1_X3_go  (w : Nat) (M : em_M) (escape : Int32) (v : Int64) {c : Nat} (h : c < w ∨ w + 23 < c) : (et_X3_go w M escape v).1 c = M.1 c := by
  obtain ⟨r31, er31⟩ : ∃ z, et_X11_at (w + 23) 301 M escape = z := ⟨_, rfl⟩
  by_cases c32 : r31 = (M.1 (w + 3) 14)
  · skip
    obtain ⟨r58, er58⟩ : ∃ z, et_X11_at (w + 22) 301 M escape = z := ⟨_, rfl⟩
    obtain ⟨M59, eM59⟩ : ∃ z, em_pI M (w + 3) 13 r58 = z := ⟨_, rfl⟩
    have fM59 : M59.1 c = M.1 c := by rw [← eM59]; exact ef_pI' _ _ _ _ (by omega)
    obtain ⟨M60, eM60⟩ : ∃ z, et_X3_give w M59 v = z := ⟨_, rfl⟩
    have fM60 : M60.1 c = M59.1 c := by rw [← eM60]; exact ef1_X3_give _ _ _ (by omega)
    rw [show et_X3_go w M escape v = M60 from by simp only [et_X3_go, er31, if_pos c32, er58, eM59, eM60]]
    exact (fM60).trans (fM59)
  · skip
    obtain ⟨r33, er33⟩ : ∃ z, et_X9_next w M (M.1 (w + 3) 14) r31 = z := ⟨_, rfl⟩
    by_cases c34 : r33 = 0
    · skip
      obtain ⟨r46, er46⟩ : ∃ z, et_X9_below w M (M.1 (w + 3) 14) = z := ⟨_, rfl⟩
      obtain ⟨M47, eM47⟩ : ∃ z, em_pI M (w + 3) 14 r46 = z := ⟨_, rfl⟩
      have fM47 : M47.1 c = M.1 c := by rw [← eM47]; exact ef_pI' _ _ _ _ (by omega)
      obtain ⟨r48, er48⟩ : ∃ z, et_X9_expression w M47 (M.1 (w + 3) 14) = z := ⟨_, rfl⟩
      obtain ⟨M49, eM49⟩ : ∃ z, em_pI M47 (w + 3) 10 r48 = z := ⟨_, rfl⟩
      have fM49 : M49.1 c = M47.1 c := by rw [← eM49]; exact ef_pI' _ _ _ _ (by omega)
      obtain ⟨r50, er50⟩ : ∃ z, et_X9_scope w M49 (M.1 (w + 3) 14) = z := ⟨_, rfl⟩
      obtain ⟨M51, eM51⟩ : ∃ z, em_pI M49 (w + 3) 11 r50 = z := ⟨_, rfl⟩
      have fM51 : M51.1 c = M49.1 c := by rw [← eM51]; exact ef_pI' _ _ _ _ (by omega)
      obtain ⟨M52, eM52⟩ : ∃ z, em_pI M51 (w + 3) 13 (0 : Int32) = z := ⟨_, rfl⟩
      have fM52 : M52.1 c = M51.1 c := by rw [← eM52]; exact ef_pI' _ _ _ _ (by omega)
      obtain ⟨r53, M54, eM54⟩ : ∃ y z, et_X3_comes w M52 (9 : Int32) (0 : Int32) = (y, z) := ⟨_, _, rfl⟩
      have fM54 : M54.1 c = M52.1 c := by
        have q : (et_X3_comes w M52 (9 : Int32) (0 : Int32)).2.1 c = M52.1 c := ef1_X3_comes _ _ _ _ (by omega)
        rw [eM54] at q
        exact q
      obtain ⟨M56, eM56⟩ : ∃ z, et_X0_keep w M54 r53 v escape = z := ⟨_, rfl⟩
      have fM56 : M56.1 c = M54.1 c := by rw [← eM56]; exact ef1_X0_keep _ _ _ _ _ (by omega)
      obtain ⟨M57, eM57⟩ : ∃ z, et_X3_workOn w M56 (2 : Int32) = z := ⟨_, rfl⟩
      have fM57 : M57.1 c = M56.1 c := by rw [← eM57]; exact ef1_X3_workOn _ _ _ (by omega)
      rw [show et_X3_go w M escape v = M57 from by simp only [et_X3_go, er31, if_neg c32, er33, if_pos c34, er46, eM47, er48, eM49, er50, eM51, eM52, eM54, eM56, eM57]]
      exact (fM57).trans ((fM56).trans ((fM54).trans ((fM52).trans ((fM51).trans ((fM49).trans (fM47))))))
    · skip
      obtain ⟨M35, eM35⟩ : ∃ z, em_pI M (w + 3) 14 (M.1 (w + 3) 14) = z := ⟨_, rfl⟩
      have fM35 : M35.1 c = M.1 c := by rw [← eM35]; exact ef_pI' _ _ _ _ (by omega)
      obtain ⟨r36, er36⟩ : ∃ z, et_X9_expression w M35 r33 = z := ⟨_, rfl⟩
      obtain ⟨M37, eM37⟩ : ∃ z, em_pI M35 (w + 3) 10 r36 = z := ⟨_, rfl⟩
      have fM37 : M37.1 c = M35.1 c := by rw [← eM37]; exact ef_pI' _ _ _ _ (by omega)
      obtain ⟨r38, er38⟩ : ∃ z, et_X9_scope w M37 r33 = z := ⟨_, rfl⟩
      obtain ⟨M39, eM39⟩ : ∃ z, em_pI M37 (w + 3) 11 r38 = z := ⟨_, rfl⟩
      have fM39 : M39.1 c = M37.1 c := by rw [← eM39]; exact ef_pI' _ _ _ _ (by omega)
      obtain ⟨M40, eM40⟩ : ∃ z, em_pI M39 (w + 3) 13 (0 : Int32) = z := ⟨_, rfl⟩
      have fM40 : M40.1 c = M39.1 c := by rw [← eM40]; exact ef_pI' _ _ _ _ (by omega)
      obtain ⟨r41, M42, eM42⟩ : ∃ y z, et_X3_comes w M40 (10 : Int32) (0 : Int32) = (y, z) := ⟨_, _, rfl⟩
      have fM42 : M42.1 c = M40.1 c := by
        have q : (et_X3_comes w M40 (10 : Int32) (0 : Int32)).2.1 c = M40.1 c := ef1_X3_comes _ _ _ _ (by omega)
        rw [eM42] at q
        exact q
      obtain ⟨M44, eM44⟩ : ∃ z, et_X0_keep w M42 r41 v escape = z := ⟨_, rfl⟩
      have fM44 : M44.1 c = M42.1 c := by rw [← eM44]; exact ef1_X0_keep _ _ _ _ _ (by omega)
      obtain ⟨M45, eM45⟩ : ∃ z, et_X3_workOn w M44 (0 : Int32) = z := ⟨_, rfl⟩
      have fM45 : M45.1 c = M44.1 c := by rw [← eM45]; exact ef1_X3_workOn _ _ _ (by omega)
      rw [show et_X3_go w M escape v = M45 from by simp only [et_X3_go, er31, if_neg c32, er33, if_neg c34, eM35, er36, eM37, er38, eM39, eM40, eM42, eM44, eM45]]
      exact (fM45).trans ((fM44).trans ((fM42).trans ((fM40).trans ((fM39).trans ((fM37).trans (fM35))))))
theorem ef2_X3_go  (w : Nat) (M : em_M) (escape : Int32) (v : Int64) {c : Nat} (h : c < w ∨ w + 23 < c) : (et_X3_go w M escape v).2 c = M.2 c := by
  obtain ⟨r31, er31⟩ : ∃ z, et_X11_at (w + 23) 301 M escape = z := ⟨_, rfl⟩
  by_cases c32 : r31 = (M.1 (w + 3) 14)
  · skip
    obtain ⟨r58, er58⟩ : ∃ z, et_X11_at (w + 22) 301 M escape = z := ⟨_, rfl⟩
    obtain ⟨M59, eM59⟩ : ∃ z, em_pI M (w + 3) 13 r58 = z := ⟨_, rfl⟩
    have fM59 : M59.2 c = M.2 c := by rw [← eM59]; exact rfl
    obtain ⟨M60, eM60⟩ : ∃ z, et_X3_give w M59 v = z := ⟨_, rfl⟩
    have fM60 : M60.2 c = M59.2 c := by rw [← eM60]; exact ef2_X3_give _ _ _ (by omega)
    rw [show et_X3_go w M escape v = M60 from by simp only [et_X3_go, er31, if_pos c32, er58, eM59, eM60]]
    exact (fM60).trans (fM59)
  · skip
    obtain ⟨r33, er33⟩ : ∃ z, et_X9_next w M (M.1 (w + 3) 14) r31 = z := ⟨_, rfl⟩
    by_cases c34 : r33 = 0
    · skip
      obtain ⟨r46, er46⟩ : ∃ z, et_X9_below w M (M.1 (w + 3) 14) = z := ⟨_, rfl⟩
      obtain ⟨M47, eM47⟩ : ∃ z, em_pI M (w + 3) 14 r46 = z := ⟨_, rfl⟩
      have fM47 : M47.2 c = M.2 c := by rw [← eM47]; exact rfl
      obtain ⟨r48, er48⟩ : ∃ z, et_X9_expression w M47 (M.1 (w + 3) 14) = z := ⟨_, rfl⟩
      obtain ⟨M49, eM49⟩ : ∃ z, em_pI M47 (w + 3) 10 r48 = z := ⟨_, rfl⟩
      have fM49 : M49.2 c = M47.2 c := by rw [← eM49]; exact rfl
      obtain ⟨r50, er50⟩ : ∃ z, et_X9_scope w M49 (M.1 (w + 3) 14) = z := ⟨_, rfl⟩
      obtain ⟨M51, eM51⟩ : ∃ z, em_pI M49 (w + 3) 11 r50 = z := ⟨_, rfl⟩
      have fM51 : M51.2 c = M49.2 c := by rw [← eM51]; exact rfl
      obtain ⟨M52, eM52⟩ : ∃ z, em_pI M51 (w + 3) 13 (0 : Int32) = z := ⟨_, rfl⟩
      have fM52 : M52.2 c = M51.2 c := by rw [← eM52]; exact rfl
      obtain ⟨r53, M54, eM54⟩ : ∃ y z, et_X3_comes w M52 (9 : Int32) (0 : Int32) = (y, z) := ⟨_, _, rfl⟩
      have fM54 : M54.2 c = M52.2 c := by
        have q : (et_X3_comes w M52 (9 : Int32) (0 : Int32)).2.2 c = M52.2 c := ef2_X3_comes _ _ _ _ (by omega)
        rw [eM54] at q
        exact q
      obtain ⟨M56, eM56⟩ : ∃ z, et_X0_keep w M54 r53 v escape = z := ⟨_, rfl⟩
      have fM56 : M56.2 c = M54.2 c := by rw [← eM56]; exact ef2_X0_keep _ _ _ _ _ (by omega)
      obtain ⟨M57, eM57⟩ : ∃ z, et_X3_workOn w M56 (2 : Int32) = z := ⟨_, rfl⟩
      have fM57 : M57.2 c = M56.2 c := by rw [← eM57]; exact ef2_X3_workOn _ _ _ (by omega)
      rw [show et_X3_go w M escape v = M57 from by simp only [et_X3_go, er31, if_neg c32, er33, if_pos c34, er46, eM47, er48, eM49, er50, eM51, eM52, eM54, eM56, eM57]]
      exact (fM57).trans ((fM56).trans ((fM54).trans ((fM52).trans ((fM51).trans ((fM49).trans (fM47))))))
    · skip
      obtain ⟨M35, eM35⟩ : ∃ z, em_pI M (w + 3) 14 (M.1 (w + 3) 14) = z := ⟨_, rfl⟩
      have fM35 : M35.2 c = M.2 c := by rw [← eM35]; exact rfl
      obtain ⟨r36, er36⟩ : ∃ z, et_X9_expression w M35 r33 = z := ⟨_, rfl⟩
      obtain ⟨M37, eM37⟩ : ∃ z, em_pI M35 (w + 3) 10 r36 = z := ⟨_, rfl⟩
      have fM37 : M37.2 c = M35.2 c := by rw [← eM37]; exact rfl
      obtain ⟨r38, er38⟩ : ∃ z, et_X9_scope w M37 r33 = z := ⟨_, rfl⟩
      obtain ⟨M39, eM39⟩ : ∃ z, em_pI M37 (w + 3) 11 r38 = z := ⟨_, rfl⟩
      have fM39 : M39.2 c = M37.2 c := by rw [← eM39]; exact rfl
      obtain ⟨M40, eM40⟩ : ∃ z, em_pI M39 (w + 3) 13 (0 : Int32) = z := ⟨_, rfl⟩
      have fM40 : M40.2 c = M39.2 c := by rw [← eM40]; exact rfl
      obtain ⟨r41, M42, eM42⟩ : ∃ y z, et_X3_comes w M40 (10 : Int32) (0 : Int32) = (y, z) := ⟨_, _, rfl⟩
      have fM42 : M42.2 c = M40.2 c := by
        have q : (et_X3_comes w M40 (10 : Int32) (0 : Int32)).2.2 c = M40.2 c := ef2_X3_comes _ _ _ _ (by omega)
        rw [eM42] at q
        exact q
      obtain ⟨M44, eM44⟩ : ∃ z, et_X0_keep w M42 r41 v escape = z := ⟨_, rfl⟩
      have fM44 : M44.2 c = M42.2 c := by rw [← eM44]; exact ef2_X0_keep _ _ _ _ _ (by omega)
      obtain ⟨M45, eM45⟩ : ∃ z, et_X3_workOn w M44 (0 : Int32) = z := ⟨_, rfl⟩
      have fM45 : M45.2 c = M44.2 c := by rw [← eM45]; exact ef2_X3_workOn _ _ _ (by omega)
      rw [show et_X3_go w M escape v = M45 from by simp only [et_X3_go, er31, if_neg c32, er33, if_neg c34, eM35, er36, eM37, er38, eM39, eM40, eM42, eM44, eM45]]
      exact (fM45).trans ((fM44).trans ((fM42).trans ((fM40).trans ((fM39).trans ((fM37).trans (fM35))))))
theorem ef1_X3_workToGo  (w : Nat) (M : em_M) (aim : Int64) {c : Nat} (h : c < w ∨ w + 23 < c) : (et_X3_workToGo w M aim).1 c = M.1 c := by
  obtain ⟨r9, er9⟩ : ∃ z, et_X11_isNumber M aim = z := ⟨_, rfl⟩
  by_cases c10 : r9 = 0
  · skip
    obtain ⟨r11, M12, eM12⟩ : ∃ y z, et_X3_comes w M (5 : Int32) (0 : Int32) = (y, z) := ⟨_, _, rfl⟩
    have fM12 : M12.1 c = M.1 c := by
      have q : (et_X3_comes w M (5 : Int32) (0 : Int32)).2.1 c = M.1 c := ef1_X3_comes _ _ _ _ (by omega)
      rw [eM12] at q
      exact q
    obtain ⟨M14, eM14⟩ : ∃ z, et_X0_keep w M12 r11 (0 : Int64) (((aim - (4294967296 : Int64))).toInt32) = z := ⟨_, rfl⟩
    have fM14 : M14.1 c = M12.1 c := by rw [← eM14]; exact ef1_X0_keep _ _ _ _ _ (by omega)
    obtain ⟨M15, eM15⟩ : ∃ z, et_X3_workOn w M14 (0 : Int32) = z := ⟨_, rfl⟩
    have fM15 : M15.1 c = M14.1 c := by rw [← eM15]; exact ef1_X3_workOn _ _ _ (by omega)
    rw [show et_X3_workToGo w M aim = M15 from by simp only [et_X3_workToGo, er9, if_pos c10, eM12, eM14, eM15]]
    exact (fM15).trans ((fM14).trans (fM12))
  · skip
    obtain ⟨M16, eM16⟩ : ∃ z, em_pI M (w + 4) 0 (2 : Int32) = z := ⟨_, rfl⟩
    have fM16 : M16.1 c = M.1 c := by rw [← eM16]; exact ef_pI' _ _ _ _ (by omega)
    rw [show et_X3_workToGo w M aim = M16 from by simp only [et_X3_workToGo, er9, if_neg c10, eM16]]
    exact fM16
theorem ef2_X3_workToGo  (w : Nat) (M : em_M) (aim : Int64) {c : Nat} (h : c < w ∨ w + 23 < c) : (et_X3_workToGo w M aim).2 c = M.2 c := by
  obtain ⟨r9, er9⟩ : ∃ z, et_X11_isNumber M aim = z := ⟨_, rfl⟩
  by_cases c10 : r9 = 0
  · skip
    obtain ⟨r11, M12, eM12⟩ : ∃ y z, et_X3_comes w M (5 : Int32) (0 : Int32) = (y, z) := ⟨_, _, rfl⟩
    have fM12 : M12.2 c = M.2 c := by
      have q : (et_X3_comes w M (5 : Int32) (0 : Int32)).2.2 c = M.2 c := ef2_X3_comes _ _ _ _ (by omega)
      rw [eM12] at q
      exact q
    obtain ⟨M14, eM14⟩ : ∃ z, et_X0_keep w M12 r11 (0 : Int64) (((aim - (4294967296 : Int64))).toInt32) = z := ⟨_, rfl⟩
    have fM14 : M14.2 c = M12.2 c := by rw [← eM14]; exact ef2_X0_keep _ _ _ _ _ (by omega)
    obtain ⟨M15, eM15⟩ : ∃ z, et_X3_workOn w M14 (0 : Int32) = z := ⟨_, rfl⟩
    have fM15 : M15.2 c = M14.2 c := by rw [← eM15]; exact ef2_X3_workOn _ _ _ (by omega)
    rw [show et_X3_workToGo w M aim = M15 from by simp only [et_X3_workToGo, er9, if_pos c10, eM12, eM14, eM15]]
    exact (fM15).trans ((fM14).trans (fM12))
  · skip
    obtain ⟨M16, eM16⟩ : ∃ z, em_pI M (w + 4) 0 (2 : Int32) = z := ⟨_, rfl⟩
    have fM16 : M16.2 c = M.2 c := by rw [← eM16]; exact rfl
    rw [show et_X3_workToGo w M aim = M16 from by simp only [et_X3_workToGo, er9, if_neg c10, eM16]]
    exact fM16
theorem ef1_X3_receiveWind  (w : Nat) (M : em_M) (frame : Int32) {c : Nat} (h : c < w ∨ w + 23 < c) : (et_X3_receiveWind w M frame).1 c = M.1 c := by
  obtain ⟨r21, er21⟩ : ∃ z, et_X0_behind w M frame = z := ⟨_, rfl⟩
  by_cases c22 : r21 = (0 : Int32)
  · skip
    obtain ⟨r23, M24, eM24⟩ : ∃ y z, et_X9_add w M (M.1 (w + 3) 14) (M.1 (w + 3) 10) (M.1 (w + 3) 11) = (y, z) := ⟨_, _, rfl⟩
    have fM24 : M24.1 c = M.1 c := by
      have q : (et_X9_add w M (M.1 (w + 3) 14) (M.1 (w + 3) 10) (M.1 (w + 3) 11)).2.1 c = M.1 c := ef1_X9_add _ _ _ _ _ (by omega)
      rw [eM24] at q
      exact q
    obtain ⟨M26, eM26⟩ : ∃ z, em_pI M24 (w + 3) 14 r23 = z := ⟨_, rfl⟩
    have fM26 : M26.1 c = M24.1 c := by rw [← eM26]; exact ef_pI' _ _ _ _ (by omega)
    obtain ⟨r27, M28, eM28⟩ : ∃ y z, et_X3_comes w M26 (8 : Int32) (1 : Int32) = (y, z) := ⟨_, _, rfl⟩
    have fM28 : M28.1 c = M26.1 c := by
      have q : (et_X3_comes w M26 (8 : Int32) (1 : Int32)).2.1 c = M26.1 c := ef1_X3_comes _ _ _ _ (by omega)
      rw [eM28] at q
      exact q
    obtain ⟨M30, eM30⟩ : ∃ z, et_X3_workOn w M28 (1 : Int32) = z := ⟨_, rfl⟩
    have fM30 : M30.1 c = M28.1 c := by rw [← eM30]; exact ef1_X3_workOn _ _ _ (by omega)
    rw [show et_X3_receiveWind w M frame = M30 from by simp only [et_X3_receiveWind, er21, if_pos c22, eM24, eM26, eM28, eM30]]
    exact (fM30).trans ((fM28).trans ((fM26).trans (fM24)))
  · skip
    by_cases c31 : r21 = (1 : Int32)
    · skip
      obtain ⟨r32, er32⟩ : ∃ z, et_X9_below w M (M.1 (w + 3) 14) = z := ⟨_, rfl⟩
      obtain ⟨M33, eM33⟩ : ∃ z, em_pI M (w + 3) 14 r32 = z := ⟨_, rfl⟩
      have fM33 : M33.1 c = M.1 c := by rw [← eM33]; exact ef_pI' _ _ _ _ (by omega)
      obtain ⟨r34, M35, eM35⟩ : ∃ y z, et_X3_comes w M33 (8 : Int32) (2 : Int32) = (y, z) := ⟨_, _, rfl⟩
      have fM35 : M35.1 c = M33.1 c := by
        have q : (et_X3_comes w M33 (8 : Int32) (2 : Int32)).2.1 c = M33.1 c := ef1_X3_comes _ _ _ _ (by omega)
        rw [eM35] at q
        exact q
      obtain ⟨M37, eM37⟩ : ∃ z, et_X0_keep w M35 r34 (M35.2 (w + 3) 12) (0 : Int32) = z := ⟨_, rfl⟩
      have fM37 : M37.1 c = M35.1 c := by rw [← eM37]; exact ef1_X0_keep _ _ _ _ _ (by omega)
      obtain ⟨M38, eM38⟩ : ∃ z, et_X3_workOn w M37 (2 : Int32) = z := ⟨_, rfl⟩
      have fM38 : M38.1 c = M37.1 c := by rw [← eM38]; exact ef1_X3_workOn _ _ _ (by omega)
      rw [show et_X3_receiveWind w M frame = M38 from by simp only [et_X3_receiveWind, er21, if_neg c22, if_pos c31, er32, eM33, eM35, eM37, eM38]]
      exact (fM38).trans ((fM37).trans ((fM35).trans (fM33)))
    · skip
      obtain ⟨r39, er39⟩ : ∃ z, et_X0_kept w M frame = z := ⟨_, rfl⟩
      obtain ⟨M40, eM40⟩ : ∃ z, et_X3_give w M r39 = z := ⟨_, rfl⟩
      have fM40 : M40.1 c = M.1 c := by rw [← eM40]; exact ef1_X3_give _ _ _ (by omega)
      rw [show et_X3_receiveWind w M frame = M40 from by simp only [et_X3_receiveWind, er21, if_neg c22, if_neg c31, er39, eM40]]
      exact fM40
theorem ef2_X3_receiveWind  (w : Nat) (M : em_M) (frame : Int32) {c : Nat} (h : c < w ∨ w + 23 < c) : (et_X3_receiveWind w M frame).2 c = M.2 c := by
  obtain ⟨r21, er21⟩ : ∃ z, et_X0_behind w M frame = z := ⟨_, rfl⟩
  by_cases c22 : r21 = (0 : Int32)
  · skip
    obtain ⟨r23, M24, eM24⟩ : ∃ y z, et_X9_add w M (M.1 (w + 3) 14) (M.1 (w + 3) 10) (M.1 (w + 3) 11) = (y, z) := ⟨_, _, rfl⟩
    have fM24 : M24.2 c = M.2 c := by
      have q : (et_X9_add w M (M.1 (w + 3) 14) (M.1 (w + 3) 10) (M.1 (w + 3) 11)).2.2 c = M.2 c := ef2_X9_add _ _ _ _ _ (by omega)
      rw [eM24] at q
      exact q
    obtain ⟨M26, eM26⟩ : ∃ z, em_pI M24 (w + 3) 14 r23 = z := ⟨_, rfl⟩
    have fM26 : M26.2 c = M24.2 c := by rw [← eM26]; exact rfl
    obtain ⟨r27, M28, eM28⟩ : ∃ y z, et_X3_comes w M26 (8 : Int32) (1 : Int32) = (y, z) := ⟨_, _, rfl⟩
    have fM28 : M28.2 c = M26.2 c := by
      have q : (et_X3_comes w M26 (8 : Int32) (1 : Int32)).2.2 c = M26.2 c := ef2_X3_comes _ _ _ _ (by omega)
      rw [eM28] at q
      exact q
    obtain ⟨M30, eM30⟩ : ∃ z, et_X3_workOn w M28 (1 : Int32) = z := ⟨_, rfl⟩
    have fM30 : M30.2 c = M28.2 c := by rw [← eM30]; exact ef2_X3_workOn _ _ _ (by omega)
    rw [show et_X3_receiveWind w M frame = M30 from by simp only [et_X3_receiveWind, er21, if_pos c22, eM24, eM26, eM28, eM30]]
    exact (fM30).trans ((fM28).trans ((fM26).trans (fM24)))
  · skip
    by_cases c31 : r21 = (1 : Int32)
    · skip
      obtain ⟨r32, er32⟩ : ∃ z, et_X9_below w M (M.1 (w + 3) 14) = z := ⟨_, rfl⟩
      obtain ⟨M33, eM33⟩ : ∃ z, em_pI M (w + 3) 14 r32 = z := ⟨_, rfl⟩
      have fM33 : M33.2 c = M.2 c := by rw [← eM33]; exact rfl
      obtain ⟨r34, M35, eM35⟩ : ∃ y z, et_X3_comes w M33 (8 : Int32) (2 : Int32) = (y, z) := ⟨_, _, rfl⟩
      have fM35 : M35.2 c = M33.2 c := by
        have q : (et_X3_comes w M33 (8 : Int32) (2 : Int32)).2.2 c = M33.2 c := ef2_X3_comes _ _ _ _ (by omega)
        rw [eM35] at q
        exact q
      obtain ⟨M37, eM37⟩ : ∃ z, et_X0_keep w M35 r34 (M35.2 (w + 3) 12) (0 : Int32) = z := ⟨_, rfl⟩
      have fM37 : M37.2 c = M35.2 c := by rw [← eM37]; exact ef2_X0_keep _ _ _ _ _ (by omega)
      obtain ⟨M38, eM38⟩ : ∃ z, et_X3_workOn w M37 (2 : Int32) = z := ⟨_, rfl⟩
      have fM38 : M38.2 c = M37.2 c := by rw [← eM38]; exact ef2_X3_workOn _ _ _ (by omega)
      rw [show et_X3_receiveWind w M frame = M38 from by simp only [et_X3_receiveWind, er21, if_neg c22, if_pos c31, er32, eM33, eM35, eM37, eM38]]
      exact (fM38).trans ((fM37).trans ((fM35).trans (fM33)))
    · skip
      obtain ⟨r39, er39⟩ : ∃ z, et_X0_kept w M frame = z := ⟨_, rfl⟩
      obtain ⟨M40, eM40⟩ : ∃ z, et_X3_give w M r39 = z := ⟨_, rfl⟩
      have fM40 : M40.2 c = M.2 c := by rw [← eM40]; exact ef2_X3_give _ _ _ (by omega)
      rw [show et_X3_receiveWind w M frame = M40 from by simp only [et_X3_receiveWind, er21, if_neg c22, if_neg c31, er39, eM40]]
      exact fM40
theorem ef1_X3_receiveOp  (w : Nat) (M : em_M) (frame : Int32) {c : Nat} (h : c < w ∨ w + 23 < c) : (et_X3_receiveOp w M frame).1 c = M.1 c := by
  obtain ⟨r18, er18⟩ : ∃ z, et_X0_behind w M frame = z := ⟨_, rfl⟩
  by_cases c19 : r18 = 0
  · skip
    obtain ⟨r30, M31, eM31⟩ : ∃ y z, et_X3_comes w M (0 : Int32) (1 : Int32) = (y, z) := ⟨_, _, rfl⟩
    have fM31 : M31.1 c = M.1 c := by
      have q : (et_X3_comes w M (0 : Int32) (1 : Int32)).2.1 c = M.1 c := ef1_X3_comes _ _ _ _ (by omega)
      rw [eM31] at q
      exact q
    obtain ⟨M33, eM33⟩ : ∃ z, et_X0_keep w M31 r30 (M31.2 (w + 3) 12) (0 : Int32) = z := ⟨_, rfl⟩
    have fM33 : M33.1 c = M31.1 c := by rw [← eM33]; exact ef1_X0_keep _ _ _ _ _ (by omega)
    obtain ⟨M34, eM34⟩ : ∃ z, et_X3_workOn w M33 (1 : Int32) = z := ⟨_, rfl⟩
    have fM34 : M34.1 c = M33.1 c := by rw [← eM34]; exact ef1_X3_workOn _ _ _ (by omega)
    rw [show et_X3_receiveOp w M frame = M34 from by simp only [et_X3_receiveOp, er18, if_pos c19, eM31, eM33, eM34]]
    exact (fM34).trans ((fM33).trans (fM31))
  · skip
    obtain ⟨r20, er20⟩ : ∃ z, et_X0_kept w M frame = z := ⟨_, rfl⟩
    obtain ⟨r21, er21⟩ : ∃ z, et_X11_isNumber M r20 = z := ⟨_, rfl⟩
    by_cases c22 : r21 = 0
    · skip
      obtain ⟨M23, eM23⟩ : ∃ z, em_pI M (w + 4) 0 (2 : Int32) = z := ⟨_, rfl⟩
      have fM23 : M23.1 c = M.1 c := by rw [← eM23]; exact ef_pI' _ _ _ _ (by omega)
      rw [show et_X3_receiveOp w M frame = M23 from by simp only [et_X3_receiveOp, er18, if_neg c19, er20, er21, if_pos c22, eM23]]
      exact fM23
    · skip
      obtain ⟨r24, er24⟩ : ∃ z, et_X11_isNumber M (M.2 (w + 3) 12) = z := ⟨_, rfl⟩
      by_cases c25 : r24 = 0
      · skip
        obtain ⟨M29, eM29⟩ : ∃ z, em_pI M (w + 4) 0 (2 : Int32) = z := ⟨_, rfl⟩
        have fM29 : M29.1 c = M.1 c := by rw [← eM29]; exact ef_pI' _ _ _ _ (by omega)
        rw [show et_X3_receiveOp w M frame = M29 from by simp only [et_X3_receiveOp, er18, if_neg c19, er20, er21, if_neg c22, er24, if_pos c25, eM29]]
        exact fM29
      · skip
        obtain ⟨r26, er26⟩ : ∃ z, et_X2_mark M (M.1 (w + 3) 10) = z := ⟨_, rfl⟩
        obtain ⟨r27, er27⟩ : ∃ z, et_X3_made M r26 ((r20).toInt32) (((M.2 (w + 3) 12)).toInt32) = z := ⟨_, rfl⟩
        obtain ⟨M28, eM28⟩ : ∃ z, et_X3_give w M ((r27).toInt64) = z := ⟨_, rfl⟩
        have fM28 : M28.1 c = M.1 c := by rw [← eM28]; exact ef1_X3_give _ _ _ (by omega)
        rw [show et_X3_receiveOp w M frame = M28 from by simp only [et_X3_receiveOp, er18, if_neg c19, er20, er21, if_neg c22, er24, if_neg c25, er26, er27, eM28]]
        exact fM28
theorem ef2_X3_receiveOp  (w : Nat) (M : em_M) (frame : Int32) {c : Nat} (h : c < w ∨ w + 23 < c) : (et_X3_receiveOp w M frame).2 c = M.2 c := by
  obtain ⟨r18, er18⟩ : ∃ z, et_X0_behind w M frame = z := ⟨_, rfl⟩
  by_cases c19 : r18 = 0
  · skip
    obtain ⟨r30, M31, eM31⟩ : ∃ y z, et_X3_comes w M (0 : Int32) (1 : Int32) = (y, z) := ⟨_, _, rfl⟩
    have fM31 : M31.2 c = M.2 c := by
      have q : (et_X3_comes w M (0 : Int32) (1 : Int32)).2.2 c = M.2 c := ef2_X3_comes _ _ _ _ (by omega)
      rw [eM31] at q
      exact q
    obtain ⟨M33, eM33⟩ : ∃ z, et_X0_keep w M31 r30 (M31.2 (w + 3) 12) (0 : Int32) = z := ⟨_, rfl⟩
    have fM33 : M33.2 c = M31.2 c := by rw [← eM33]; exact ef2_X0_keep _ _ _ _ _ (by omega)
    obtain ⟨M34, eM34⟩ : ∃ z, et_X3_workOn w M33 (1 : Int32) = z := ⟨_, rfl⟩
    have fM34 : M34.2 c = M33.2 c := by rw [← eM34]; exact ef2_X3_workOn _ _ _ (by omega)
    rw [show et_X3_receiveOp w M frame = M34 from by simp only [et_X3_receiveOp, er18, if_pos c19, eM31, eM33, eM34]]
    exact (fM34).trans ((fM33).trans (fM31))
  · skip
    obtain ⟨r20, er20⟩ : ∃ z, et_X0_kept w M frame = z := ⟨_, rfl⟩
    obtain ⟨r21, er21⟩ : ∃ z, et_X11_isNumber M r20 = z := ⟨_, rfl⟩
    by_cases c22 : r21 = 0
    · skip
      obtain ⟨M23, eM23⟩ : ∃ z, em_pI M (w + 4) 0 (2 : Int32) = z := ⟨_, rfl⟩
      have fM23 : M23.2 c = M.2 c := by rw [← eM23]; exact rfl
      rw [show et_X3_receiveOp w M frame = M23 from by simp only [et_X3_receiveOp, er18, if_neg c19, er20, er21, if_pos c22, eM23]]
      exact fM23
    · skip
      obtain ⟨r24, er24⟩ : ∃ z, et_X11_isNumber M (M.2 (w + 3) 12) = z := ⟨_, rfl⟩
      by_cases c25 : r24 = 0
      · skip
        obtain ⟨M29, eM29⟩ : ∃ z, em_pI M (w + 4) 0 (2 : Int32) = z := ⟨_, rfl⟩
        have fM29 : M29.2 c = M.2 c := by rw [← eM29]; exact rfl
        rw [show et_X3_receiveOp w M frame = M29 from by simp only [et_X3_receiveOp, er18, if_neg c19, er20, er21, if_neg c22, er24, if_pos c25, eM29]]
        exact fM29
      · skip
        obtain ⟨r26, er26⟩ : ∃ z, et_X2_mark M (M.1 (w + 3) 10) = z := ⟨_, rfl⟩
        obtain ⟨r27, er27⟩ : ∃ z, et_X3_made M r26 ((r20).toInt32) (((M.2 (w + 3) 12)).toInt32) = z := ⟨_, rfl⟩
        obtain ⟨M28, eM28⟩ : ∃ z, et_X3_give w M ((r27).toInt64) = z := ⟨_, rfl⟩
        have fM28 : M28.2 c = M.2 c := by rw [← eM28]; exact ef2_X3_give _ _ _ (by omega)
        rw [show et_X3_receiveOp w M frame = M28 from by simp only [et_X3_receiveOp, er18, if_neg c19, er20, er21, if_neg c22, er24, if_neg c25, er26, er27, eM28]]
        exact fM28
theorem ef1_X3_work  (w : Nat) (M : em_M) {c : Nat} (h : c < w ∨ w + 23 < c) : (et_X3_work w M).1 c = M.1 c := by
  obtain ⟨r40, er40⟩ : ∃ z, et_X2_kind M (M.1 (w + 3) 10) = z := ⟨_, rfl⟩
  obtain ⟨r41, er41⟩ : ∃ z, et_X2_mark M (M.1 (w + 3) 10) = z := ⟨_, rfl⟩
  by_cases c42 : r40 = (3 : Int32)
  · skip
    obtain ⟨r43, er43⟩ : ∃ z, et_X2_part M (M.1 (w + 3) 10) (1 : Int32) = z := ⟨_, rfl⟩
    by_cases c44 : 0 ≤ r43
    · skip
      obtain ⟨r45, M46, eM46⟩ : ∃ y z, et_X3_comes w M (3 : Int32) (0 : Int32) = (y, z) := ⟨_, _, rfl⟩
      have fM46 : M46.1 c = M.1 c := by
        have q : (et_X3_comes w M (3 : Int32) (0 : Int32)).2.1 c = M.1 c := ef1_X3_comes _ _ _ _ (by omega)
        rw [eM46] at q
        exact q
      obtain ⟨M48, eM48⟩ : ∃ z, et_X3_workOn w M46 (0 : Int32) = z := ⟨_, rfl⟩
      have fM48 : M48.1 c = M46.1 c := by rw [← eM48]; exact ef1_X3_workOn _ _ _ (by omega)
      rw [show et_X3_work w M = M48 from by simp only [et_X3_work, er40, er41, if_pos c42, er43, if_pos c44, eM46, eM48]]
      exact (fM48).trans (fM46)
    · skip
      obtain ⟨M49, eM49⟩ : ∃ z, et_X3_workOn w M (0 : Int32) = z := ⟨_, rfl⟩
      have fM49 : M49.1 c = M.1 c := by rw [← eM49]; exact ef1_X3_workOn _ _ _ (by omega)
      rw [show et_X3_work w M = M49 from by simp only [et_X3_work, er40, er41, if_pos c42, er43, if_neg c44, eM49]]
      exact fM49
  · skip
    by_cases c50 : r40 = (14 : Int32)
    · skip
      obtain ⟨r72, er72⟩ : ∃ z, et_X2_part M (M.1 (w + 3) 10) (1 : Int32) = z := ⟨_, rfl⟩
      by_cases c73 : 0 ≤ r72
      · skip
        obtain ⟨r74, M75, eM75⟩ : ∃ y z, et_X3_comes w M (3 : Int32) (0 : Int32) = (y, z) := ⟨_, _, rfl⟩
        have fM75 : M75.1 c = M.1 c := by
          have q : (et_X3_comes w M (3 : Int32) (0 : Int32)).2.1 c = M.1 c := ef1_X3_comes _ _ _ _ (by omega)
          rw [eM75] at q
          exact q
        obtain ⟨M77, eM77⟩ : ∃ z, et_X3_workOn w M75 (0 : Int32) = z := ⟨_, rfl⟩
        have fM77 : M77.1 c = M75.1 c := by rw [← eM77]; exact ef1_X3_workOn _ _ _ (by omega)
        rw [show et_X3_work w M = M77 from by simp only [et_X3_work, er40, er41, if_neg c42, if_pos c50, er72, if_pos c73, eM75, eM77]]
        exact (fM77).trans (fM75)
      · skip
        obtain ⟨M78, eM78⟩ : ∃ z, et_X3_workOn w M (0 : Int32) = z := ⟨_, rfl⟩
        have fM78 : M78.1 c = M.1 c := by rw [← eM78]; exact ef1_X3_workOn _ _ _ (by omega)
        rw [show et_X3_work w M = M78 from by simp only [et_X3_work, er40, er41, if_neg c42, if_pos c50, er72, if_neg c73, eM78]]
        exact fM78
    · skip
      by_cases c51 : r40 = (11 : Int32)
      · skip
        obtain ⟨M71, eM71⟩ : ∃ z, et_X3_give w M ((r41).toInt64) = z := ⟨_, rfl⟩
        have fM71 : M71.1 c = M.1 c := by rw [← eM71]; exact ef1_X3_give _ _ _ (by omega)
        rw [show et_X3_work w M = M71 from by simp only [et_X3_work, er40, er41, if_neg c42, if_neg c50, if_pos c51, eM71]]
        exact fM71
      · skip
        by_cases c52 : r40 = (12 : Int32)
        · skip
          obtain ⟨r69, er69⟩ : ∃ z, et_X3_lookUp w M r41 = z := ⟨_, rfl⟩
          obtain ⟨M70, eM70⟩ : ∃ z, et_X3_give w M r69 = z := ⟨_, rfl⟩
          have fM70 : M70.1 c = M.1 c := by rw [← eM70]; exact ef1_X3_give _ _ _ (by omega)
          rw [show et_X3_work w M = M70 from by simp only [et_X3_work, er40, er41, if_neg c42, if_neg c50, if_neg c51, if_pos c52, er69, eM70]]
          exact fM70
        · skip
          by_cases c53 : r40 = (13 : Int32)
          · skip
            obtain ⟨r61, M62, eM62⟩ : ∃ y z, et_X3_caught w M = (y, z) := ⟨_, _, rfl⟩
            have fM62 : M62.1 c = M.1 c := by
              have q : (et_X3_caught w M).2.1 c = M.1 c := ef1_X3_caught _ _ (by omega)
              rw [eM62] at q
              exact q
            obtain ⟨r64, M65, eM65⟩ : ∃ y z, et_X7_bind w M62 (M.1 (w + 3) 11) r41 r61 = (y, z) := ⟨_, _, rfl⟩
            have fM65 : M65.1 c = M62.1 c := by
              have q : (et_X7_bind w M62 (M.1 (w + 3) 11) r41 r61).2.1 c = M62.1 c := ef1_X7_bind _ _ _ _ _ (by omega)
              rw [eM65] at q
              exact q
            obtain ⟨M67, eM67⟩ : ∃ z, em_pI M65 (w + 3) 11 r64 = z := ⟨_, rfl⟩
            have fM67 : M67.1 c = M65.1 c := by rw [← eM67]; exact ef_pI' _ _ _ _ (by omega)
            obtain ⟨M68, eM68⟩ : ∃ z, et_X3_workOn w M67 (0 : Int32) = z := ⟨_, rfl⟩
            have fM68 : M68.1 c = M67.1 c := by rw [← eM68]; exact ef1_X3_workOn _ _ _ (by omega)
            rw [show et_X3_work w M = M68 from by simp only [et_X3_work, er40, er41, if_neg c42, if_neg c50, if_neg c51, if_neg c52, if_pos c53, eM62, eM65, eM67, eM68]]
            exact (fM68).trans ((fM67).trans ((fM65).trans (fM62)))
          · skip
            by_cases c54 : r40 = (5 : Int32)
            · skip
              obtain ⟨r59, er59⟩ : ∃ z, et_X3_lookUp w M r41 = z := ⟨_, rfl⟩
              obtain ⟨M60, eM60⟩ : ∃ z, et_X3_workToGo w M r59 = z := ⟨_, rfl⟩
              have fM60 : M60.1 c = M.1 c := by rw [← eM60]; exact ef1_X3_workToGo _ _ _ (by omega)
              rw [show et_X3_work w M = M60 from by simp only [et_X3_work, er40, er41, if_neg c42, if_neg c50, if_neg c51, if_neg c52, if_neg c53, if_pos c54, er59, eM60]]
              exact fM60
            · skip
              obtain ⟨r55, M56, eM56⟩ : ∃ y z, et_X3_comes w M r40 (0 : Int32) = (y, z) := ⟨_, _, rfl⟩
              have fM56 : M56.1 c = M.1 c := by
                have q : (et_X3_comes w M r40 (0 : Int32)).2.1 c = M.1 c := ef1_X3_comes _ _ _ _ (by omega)
                rw [eM56] at q
                exact q
              obtain ⟨M58, eM58⟩ : ∃ z, et_X3_workOn w M56 (0 : Int32) = z := ⟨_, rfl⟩
              have fM58 : M58.1 c = M56.1 c := by rw [← eM58]; exact ef1_X3_workOn _ _ _ (by omega)
              rw [show et_X3_work w M = M58 from by simp only [et_X3_work, er40, er41, if_neg c42, if_neg c50, if_neg c51, if_neg c52, if_neg c53, if_neg c54, eM56, eM58]]
              exact (fM58).trans (fM56)
theorem ef2_X3_work  (w : Nat) (M : em_M) {c : Nat} (h : c < w ∨ w + 23 < c) : (et_X3_work w M).2 c = M.2 c := by
  obtain ⟨r40, er40⟩ : ∃ z, et_X2_kind M (M.1 (w + 3) 10) = z := ⟨_, rfl⟩
  obtain ⟨r41, er41⟩ : ∃ z, et_X2_mark M (M.1 (w + 3) 10) = z := ⟨_, rfl⟩
  by_cases c42 : r40 = (3 : Int32)
  · skip
    obtain ⟨r43, er43⟩ : ∃ z, et_X2_part M (M.1 (w + 3) 10) (1 : Int32) = z := ⟨_, rfl⟩
    by_cases c44 : 0 ≤ r43
    · skip
      obtain ⟨r45, M46, eM46⟩ : ∃ y z, et_X3_comes w M (3 : Int32) (0 : Int32) = (y, z) := ⟨_, _, rfl⟩
      have fM46 : M46.2 c = M.2 c := by
        have q : (et_X3_comes w M (3 : Int32) (0 : Int32)).2.2 c = M.2 c := ef2_X3_comes _ _ _ _ (by omega)
        rw [eM46] at q
        exact q
      obtain ⟨M48, eM48⟩ : ∃ z, et_X3_workOn w M46 (0 : Int32) = z := ⟨_, rfl⟩
      have fM48 : M48.2 c = M46.2 c := by rw [← eM48]; exact ef2_X3_workOn _ _ _ (by omega)
      rw [show et_X3_work w M = M48 from by simp only [et_X3_work, er40, er41, if_pos c42, er43, if_pos c44, eM46, eM48]]
      exact (fM48).trans (fM46)
    · skip
      obtain ⟨M49, eM49⟩ : ∃ z, et_X3_workOn w M (0 : Int32) = z := ⟨_, rfl⟩
      have fM49 : M49.2 c = M.2 c := by rw [← eM49]; exact ef2_X3_workOn _ _ _ (by omega)
      rw [show et_X3_work w M = M49 from by simp only [et_X3_work, er40, er41, if_pos c42, er43, if_neg c44, eM49]]
      exact fM49
  · skip
    by_cases c50 : r40 = (14 : Int32)
    · skip
      obtain ⟨r72, er72⟩ : ∃ z, et_X2_part M (M.1 (w + 3) 10) (1 : Int32) = z := ⟨_, rfl⟩
      by_cases c73 : 0 ≤ r72
      · skip
        obtain ⟨r74, M75, eM75⟩ : ∃ y z, et_X3_comes w M (3 : Int32) (0 : Int32) = (y, z) := ⟨_, _, rfl⟩
        have fM75 : M75.2 c = M.2 c := by
          have q : (et_X3_comes w M (3 : Int32) (0 : Int32)).2.2 c = M.2 c := ef2_X3_comes _ _ _ _ (by omega)
          rw [eM75] at q
          exact q
        obtain ⟨M77, eM77⟩ : ∃ z, et_X3_workOn w M75 (0 : Int32) = z := ⟨_, rfl⟩
        have fM77 : M77.2 c = M75.2 c := by rw [← eM77]; exact ef2_X3_workOn _ _ _ (by omega)
        rw [show et_X3_work w M = M77 from by simp only [et_X3_work, er40, er41, if_neg c42, if_pos c50, er72, if_pos c73, eM75, eM77]]
        exact (fM77).trans (fM75)
      · skip
        obtain ⟨M78, eM78⟩ : ∃ z, et_X3_workOn w M (0 : Int32) = z := ⟨_, rfl⟩
        have fM78 : M78.2 c = M.2 c := by rw [← eM78]; exact ef2_X3_workOn _ _ _ (by omega)
        rw [show et_X3_work w M = M78 from by simp only [et_X3_work, er40, er41, if_neg c42, if_pos c50, er72, if_neg c73, eM78]]
        exact fM78
    · skip
      by_cases c51 : r40 = (11 : Int32)
      · skip
        obtain ⟨M71, eM71⟩ : ∃ z, et_X3_give w M ((r41).toInt64) = z := ⟨_, rfl⟩
        have fM71 : M71.2 c = M.2 c := by rw [← eM71]; exact ef2_X3_give _ _ _ (by omega)
        rw [show et_X3_work w M = M71 from by simp only [et_X3_work, er40, er41, if_neg c42, if_neg c50, if_pos c51, eM71]]
        exact fM71
      · skip
        by_cases c52 : r40 = (12 : Int32)
        · skip
          obtain ⟨r69, er69⟩ : ∃ z, et_X3_lookUp w M r41 = z := ⟨_, rfl⟩
          obtain ⟨M70, eM70⟩ : ∃ z, et_X3_give w M r69 = z := ⟨_, rfl⟩
          have fM70 : M70.2 c = M.2 c := by rw [← eM70]; exact ef2_X3_give _ _ _ (by omega)
          rw [show et_X3_work w M = M70 from by simp only [et_X3_work, er40, er41, if_neg c42, if_neg c50, if_neg c51, if_pos c52, er69, eM70]]
          exact fM70
        · skip
          by_cases c53 : r40 = (13 : Int32)
          · skip
            obtain ⟨r61, M62, eM62⟩ : ∃ y z, et_X3_caught w M = (y, z) := ⟨_, _, rfl⟩
            have fM62 : M62.2 c = M.2 c := by
              have q : (et_X3_caught w M).2.2 c = M.2 c := ef2_X3_caught _ _ (by omega)
              rw [eM62] at q
              exact q
            obtain ⟨r64, M65, eM65⟩ : ∃ y z, et_X7_bind w M62 (M.1 (w + 3) 11) r41 r61 = (y, z) := ⟨_, _, rfl⟩
            have fM65 : M65.2 c = M62.2 c := by
              have q : (et_X7_bind w M62 (M.1 (w + 3) 11) r41 r61).2.2 c = M62.2 c := ef2_X7_bind _ _ _ _ _ (by omega)
              rw [eM65] at q
              exact q
            obtain ⟨M67, eM67⟩ : ∃ z, em_pI M65 (w + 3) 11 r64 = z := ⟨_, rfl⟩
            have fM67 : M67.2 c = M65.2 c := by rw [← eM67]; exact rfl
            obtain ⟨M68, eM68⟩ : ∃ z, et_X3_workOn w M67 (0 : Int32) = z := ⟨_, rfl⟩
            have fM68 : M68.2 c = M67.2 c := by rw [← eM68]; exact ef2_X3_workOn _ _ _ (by omega)
            rw [show et_X3_work w M = M68 from by simp only [et_X3_work, er40, er41, if_neg c42, if_neg c50, if_neg c51, if_neg c52, if_pos c53, eM62, eM65, eM67, eM68]]
            exact (fM68).trans ((fM67).trans ((fM65).trans (fM62)))
          · skip
            by_cases c54 : r40 = (5 : Int32)
            · skip
              obtain ⟨r59, er59⟩ : ∃ z, et_X3_lookUp w M r41 = z := ⟨_, rfl⟩
              obtain ⟨M60, eM60⟩ : ∃ z, et_X3_workToGo w M r59 = z := ⟨_, rfl⟩
              have fM60 : M60.2 c = M.2 c := by rw [← eM60]; exact ef2_X3_workToGo _ _ _ (by omega)
              rw [show et_X3_work w M = M60 from by simp only [et_X3_work, er40, er41, if_neg c42, if_neg c50, if_neg c51, if_neg c52, if_neg c53, if_pos c54, er59, eM60]]
              exact fM60
            · skip
              obtain ⟨r55, M56, eM56⟩ : ∃ y z, et_X3_comes w M r40 (0 : Int32) = (y, z) := ⟨_, _, rfl⟩
              have fM56 : M56.2 c = M.2 c := by
                have q : (et_X3_comes w M r40 (0 : Int32)).2.2 c = M.2 c := ef2_X3_comes _ _ _ _ (by omega)
                rw [eM56] at q
                exact q
              obtain ⟨M58, eM58⟩ : ∃ z, et_X3_workOn w M56 (0 : Int32) = z := ⟨_, rfl⟩
              have fM58 : M58.2 c = M56.2 c := by rw [← eM58]; exact ef2_X3_workOn _ _ _ (by omega)
              rw [show et_X3_work w M = M58 from by simp only [et_X3_work, er40, er41, if_neg c42, if_neg c50, if_neg c51, if_neg c52, if_neg c53, if_neg c54, eM56, eM58]]
              exact (fM58).trans (fM56)
theorem ef1_X3_receive_187  (w : Nat)  (M : em_M) (x1 : Int32) (x2 : Int32) (s0 : Int32) {c : Nat} (h : c < w ∨ w + 23 < c) : (et_X3_receive_187 w M x1 x2 s0).1 c = M.1 c := by
  obtain ⟨M70, eM70⟩ : ∃ z, et_X3_workOn w M s0 = z := ⟨_, rfl⟩
  have fM70 : M70.1 c = M.1 c := by rw [← eM70]; exact ef1_X3_workOn _ _ _ (by omega)
  rw [show et_X3_receive_187 w M x1 x2 s0 = M70 from by simp only [et_X3_receive_187, eM70]]
  exact fM70
theorem ef2_X3_receive_187  (w : Nat)  (M : em_M) (x1 : Int32) (x2 : Int32) (s0 : Int32) {c : Nat} (h : c < w ∨ w + 23 < c) : (et_X3_receive_187 w M x1 x2 s0).2 c = M.2 c := by
  obtain ⟨M70, eM70⟩ : ∃ z, et_X3_workOn w M s0 = z := ⟨_, rfl⟩
  have fM70 : M70.2 c = M.2 c := by rw [← eM70]; exact ef2_X3_workOn _ _ _ (by omega)
  rw [show et_X3_receive_187 w M x1 x2 s0 = M70 from by simp only [et_X3_receive_187, eM70]]
  exact fM70
theorem ef1_X3_receive  (w : Nat) (M : em_M) {c : Nat} (h : c < w ∨ w + 23 < c) : (et_X3_receive w M).1 c = M.1 c := by
  by_cases c58 : (M.1 (w + 3) 13) = 0
  · skip
    obtain ⟨M114, eM114⟩ : ∃ z, et_X4_over (w + 4) M (M.2 (w + 3) 12) = z := ⟨_, rfl⟩
    have fM114 : M114.1 c = M.1 c := by rw [← eM114]; exact ef1_X4_over _ _ _ (by omega)
    rw [show et_X3_receive w M = M114 from by simp only [et_X3_receive, if_pos c58, eM114]]
    exact fM114
  · skip
    obtain ⟨r59, er59⟩ : ∃ z, et_X0_sort w M (M.1 (w + 3) 13) = z := ⟨_, rfl⟩
    obtain ⟨r60, er60⟩ : ∃ z, et_X0_below w M (M.1 (w + 3) 13) = z := ⟨_, rfl⟩
    obtain ⟨M61, eM61⟩ : ∃ z, em_pI M (w + 3) 13 r60 = z := ⟨_, rfl⟩
    have fM61 : M61.1 c = M.1 c := by rw [← eM61]; exact ef_pI' _ _ _ _ (by omega)
    obtain ⟨r62, er62⟩ : ∃ z, et_X0_expression w M61 (M.1 (w + 3) 13) = z := ⟨_, rfl⟩
    obtain ⟨M63, eM63⟩ : ∃ z, em_pI M61 (w + 3) 10 r62 = z := ⟨_, rfl⟩
    have fM63 : M63.1 c = M61.1 c := by rw [← eM63]; exact ef_pI' _ _ _ _ (by omega)
    obtain ⟨r64, er64⟩ : ∃ z, et_X0_scope w M63 (M.1 (w + 3) 13) = z := ⟨_, rfl⟩
    obtain ⟨M65, eM65⟩ : ∃ z, em_pI M63 (w + 3) 11 r64 = z := ⟨_, rfl⟩
    have fM65 : M65.1 c = M63.1 c := by rw [← eM65]; exact ef_pI' _ _ _ _ (by omega)
    by_cases c66 : r59 = (1 : Int32)
    · skip
      obtain ⟨r67, er67⟩ : ∃ z, et_X11_isNumber M65 (M65.2 (w + 3) 12) = z := ⟨_, rfl⟩
      by_cases c68 : r67 = 0
      · skip
        obtain ⟨M71, eM71⟩ : ∃ z, em_pI M65 (w + 4) 0 (2 : Int32) = z := ⟨_, rfl⟩
        have fM71 : M71.1 c = M65.1 c := by rw [← eM71]; exact ef_pI' _ _ _ _ (by omega)
        rw [show et_X3_receive w M = M71 from by simp only [et_X3_receive, if_neg c58, er59, er60, eM61, er62, eM63, er64, eM65, if_pos c66, er67, if_pos c68, eM71]]
        exact (fM71).trans ((fM65).trans ((fM63).trans (fM61)))
      · skip
        by_cases c69 : (lg_cmp (M65.2 (w + 3) 12) (0 : Int64)) = 0
        · skip
          rw [show et_X3_receive w M = et_X3_receive_187 w M65 (M.1 (w + 3) 13) r59 (2 : Int32) from by simp only [et_X3_receive, if_neg c58, er59, er60, eM61, er62, eM63, er64, eM65, if_pos c66, er67, if_neg c68, if_pos c69]]
          exact ((ef1_X3_receive_187 _ _ _ _ _ (by omega))).trans ((fM65).trans ((fM63).trans (fM61)))
        · skip
          rw [show et_X3_receive w M = et_X3_receive_187 w M65 (M.1 (w + 3) 13) r59 (1 : Int32) from by simp only [et_X3_receive, if_neg c58, er59, er60, eM61, er62, eM63, er64, eM65, if_pos c66, er67, if_neg c68, if_neg c69]]
          exact ((ef1_X3_receive_187 _ _ _ _ _ (by omega))).trans ((fM65).trans ((fM63).trans (fM61)))
    · skip
      by_cases c72 : r59 = (6 : Int32)
      · skip
        obtain ⟨r73, er73⟩ : ∃ z, et_X11_isNumber M65 (M65.2 (w + 3) 12) = z := ⟨_, rfl⟩
        by_cases c74 : r73 = 0
        · skip
          obtain ⟨M76, eM76⟩ : ∃ z, em_pI M65 (w + 4) 0 (2 : Int32) = z := ⟨_, rfl⟩
          have fM76 : M76.1 c = M65.1 c := by rw [← eM76]; exact ef_pI' _ _ _ _ (by omega)
          rw [show et_X3_receive w M = M76 from by simp only [et_X3_receive, if_neg c58, er59, er60, eM61, er62, eM63, er64, eM65, if_neg c66, if_pos c72, er73, if_pos c74, eM76]]
          exact (fM76).trans ((fM65).trans ((fM63).trans (fM61)))
        · skip
          obtain ⟨M75, eM75⟩ : ∃ z, et_X4_write (w + 4) M65 (((M65.2 (w + 3) 12)).toInt32) = z := ⟨_, rfl⟩
          have fM75 : M75.1 c = M65.1 c := by rw [← eM75]; exact ef1_X4_write _ _ _ (by omega)
          rw [show et_X3_receive w M = M75 from by simp only [et_X3_receive, if_neg c58, er59, er60, eM61, er62, eM63, er64, eM65, if_neg c66, if_pos c72, er73, if_neg c74, eM75]]
          exact (fM75).trans ((fM65).trans ((fM63).trans (fM61)))
      · skip
        by_cases c77 : r59 = (7 : Int32)
        · skip
          obtain ⟨r109, er109⟩ : ∃ z, et_X11_isNumber M65 (M65.2 (w + 3) 12) = z := ⟨_, rfl⟩
          by_cases c110 : r109 = 0
          · skip
            obtain ⟨M113, eM113⟩ : ∃ z, em_pI M65 (w + 4) 0 (2 : Int32) = z := ⟨_, rfl⟩
            have fM113 : M113.1 c = M65.1 c := by rw [← eM113]; exact ef_pI' _ _ _ _ (by omega)
            rw [show et_X3_receive w M = M113 from by simp only [et_X3_receive, if_neg c58, er59, er60, eM61, er62, eM63, er64, eM65, if_neg c66, if_neg c72, if_pos c77, er109, if_pos c110, eM113]]
            exact (fM113).trans ((fM65).trans ((fM63).trans (fM61)))
          · skip
            obtain ⟨r111, er111⟩ : ∃ z, et_X2_mark M65 (M65.1 (w + 3) 10) = z := ⟨_, rfl⟩
            obtain ⟨M112, eM112⟩ : ∃ z, et_X11_put (w + 1) 4 M65 r111 (((M65.2 (w + 3) 12)).toInt32) = z := ⟨_, rfl⟩
            have fM112 : M112.1 c = M65.1 c := by rw [← eM112]; exact ef_put1 (by omega)
            rw [show et_X3_receive w M = M112 from by simp only [et_X3_receive, if_neg c58, er59, er60, eM61, er62, eM63, er64, eM65, if_neg c66, if_neg c72, if_pos c77, er109, if_neg c110, er111, eM112]]
            exact (fM112).trans ((fM65).trans ((fM63).trans (fM61)))
        · skip
          by_cases c78 : r59 = (0 : Int32)
          · skip
            obtain ⟨M79, eM79⟩ : ∃ z, et_X3_receiveOp w M65 (M.1 (w + 3) 13) = z := ⟨_, rfl⟩
            have fM79 : M79.1 c = M65.1 c := by rw [← eM79]; exact ef1_X3_receiveOp _ _ _ (by omega)
            rw [show et_X3_receive w M = M79 from by simp only [et_X3_receive, if_neg c58, er59, er60, eM61, er62, eM63, er64, eM65, if_neg c66, if_neg c72, if_neg c77, if_pos c78, eM79]]
            exact (fM79).trans ((fM65).trans ((fM63).trans (fM61)))
          · skip
            by_cases c80 : r59 = (2 : Int32)
            · skip
              obtain ⟨r81, er81⟩ : ∃ z, et_X2_mark M65 (M65.1 (w + 3) 10) = z := ⟨_, rfl⟩
              obtain ⟨r82, M83, eM83⟩ : ∃ y z, et_X7_bind w M65 (M65.1 (w + 3) 11) r81 (M65.2 (w + 3) 12) = (y, z) := ⟨_, _, rfl⟩
              have fM83 : M83.1 c = M65.1 c := by
                have q : (et_X7_bind w M65 (M65.1 (w + 3) 11) r81 (M65.2 (w + 3) 12)).2.1 c = M65.1 c := ef1_X7_bind _ _ _ _ _ (by omega)
                rw [eM83] at q
                exact q
              obtain ⟨M85, eM85⟩ : ∃ z, em_pI M83 (w + 3) 11 r82 = z := ⟨_, rfl⟩
              have fM85 : M85.1 c = M83.1 c := by rw [← eM85]; exact ef_pI' _ _ _ _ (by omega)
              obtain ⟨M86, eM86⟩ : ∃ z, et_X3_workOn w M85 (1 : Int32) = z := ⟨_, rfl⟩
              have fM86 : M86.1 c = M85.1 c := by rw [← eM86]; exact ef1_X3_workOn _ _ _ (by omega)
              rw [show et_X3_receive w M = M86 from by simp only [et_X3_receive, if_neg c58, er59, er60, eM61, er62, eM63, er64, eM65, if_neg c66, if_neg c72, if_neg c77, if_neg c78, if_pos c80, er81, eM83, eM85, eM86]]
              exact (fM86).trans ((fM85).trans ((fM83).trans ((fM65).trans ((fM63).trans (fM61)))))
            · skip
              by_cases c87 : r59 = (3 : Int32)
              · skip
                obtain ⟨M88, eM88⟩ : ∃ z, et_X3_workOn w M65 (1 : Int32) = z := ⟨_, rfl⟩
                have fM88 : M88.1 c = M65.1 c := by rw [← eM88]; exact ef1_X3_workOn _ _ _ (by omega)
                rw [show et_X3_receive w M = M88 from by simp only [et_X3_receive, if_neg c58, er59, er60, eM61, er62, eM63, er64, eM65, if_neg c66, if_neg c72, if_neg c77, if_neg c78, if_neg c80, if_pos c87, eM88]]
                exact (fM88).trans ((fM65).trans ((fM63).trans (fM61)))
              · skip
                by_cases c89 : r59 = (4 : Int32)
                · skip
                  obtain ⟨r90, er90⟩ : ∃ z, et_X2_mark M65 (M65.1 (w + 3) 10) = z := ⟨_, rfl⟩
                  obtain ⟨r91, er91⟩ : ∃ z, et_X11_at (w + 2) 3 M65 r90 = z := ⟨_, rfl⟩
                  obtain ⟨M92, eM92⟩ : ∃ z, et_X3_call w M65 r91 = z := ⟨_, rfl⟩
                  have fM92 : M92.1 c = M65.1 c := by rw [← eM92]; exact ef1_X3_call _ _ _ (by omega)
                  rw [show et_X3_receive w M = M92 from by simp only [et_X3_receive, if_neg c58, er59, er60, eM61, er62, eM63, er64, eM65, if_neg c66, if_neg c72, if_neg c77, if_neg c78, if_neg c80, if_neg c87, if_pos c89, er90, er91, eM92]]
                  exact (fM92).trans ((fM65).trans ((fM63).trans (fM61)))
                · skip
                  by_cases c93 : r59 = (5 : Int32)
                  · skip
                    obtain ⟨r94, er94⟩ : ∃ z, et_X0_escape w M65 (M.1 (w + 3) 13) = z := ⟨_, rfl⟩
                    obtain ⟨M95, eM95⟩ : ∃ z, et_X3_go w M65 r94 (M65.2 (w + 3) 12) = z := ⟨_, rfl⟩
                    have fM95 : M95.1 c = M65.1 c := by rw [← eM95]; exact ef1_X3_go _ _ _ _ (by omega)
                    rw [show et_X3_receive w M = M95 from by simp only [et_X3_receive, if_neg c58, er59, er60, eM61, er62, eM63, er64, eM65, if_neg c66, if_neg c72, if_neg c77, if_neg c78, if_neg c80, if_neg c87, if_neg c89, if_pos c93, er94, eM95]]
                    exact (fM95).trans ((fM65).trans ((fM63).trans (fM61)))
                  · skip
                    by_cases c96 : r59 = (8 : Int32)
                    · skip
                      obtain ⟨M97, eM97⟩ : ∃ z, et_X3_receiveWind w M65 (M.1 (w + 3) 13) = z := ⟨_, rfl⟩
                      have fM97 : M97.1 c = M65.1 c := by rw [← eM97]; exact ef1_X3_receiveWind _ _ _ (by omega)
                      rw [show et_X3_receive w M = M97 from by simp only [et_X3_receive, if_neg c58, er59, er60, eM61, er62, eM63, er64, eM65, if_neg c66, if_neg c72, if_neg c77, if_neg c78, if_neg c80, if_neg c87, if_neg c89, if_neg c93, if_pos c96, eM97]]
                      exact (fM97).trans ((fM65).trans ((fM63).trans (fM61)))
                    · skip
                      by_cases c98 : r59 = (10 : Int32)
                      · skip
                        obtain ⟨r99, er99⟩ : ∃ z, et_X0_escape w M65 (M.1 (w + 3) 13) = z := ⟨_, rfl⟩
                        obtain ⟨r100, er100⟩ : ∃ z, et_X11_at (w + 23) 301 M65 r99 = z := ⟨_, rfl⟩
                        obtain ⟨r101, er101⟩ : ∃ z, et_X9_next w M65 (M65.1 (w + 3) 14) r100 = z := ⟨_, rfl⟩
                        obtain ⟨M102, eM102⟩ : ∃ z, em_pI M65 (w + 3) 14 r101 = z := ⟨_, rfl⟩
                        have fM102 : M102.1 c = M65.1 c := by rw [← eM102]; exact ef_pI' _ _ _ _ (by omega)
                        obtain ⟨r103, er103⟩ : ∃ z, et_X0_escape w M102 (M.1 (w + 3) 13) = z := ⟨_, rfl⟩
                        obtain ⟨r104, er104⟩ : ∃ z, et_X0_kept w M102 (M.1 (w + 3) 13) = z := ⟨_, rfl⟩
                        obtain ⟨M105, eM105⟩ : ∃ z, et_X3_go w M102 r103 r104 = z := ⟨_, rfl⟩
                        have fM105 : M105.1 c = M102.1 c := by rw [← eM105]; exact ef1_X3_go _ _ _ _ (by omega)
                        rw [show et_X3_receive w M = M105 from by simp only [et_X3_receive, if_neg c58, er59, er60, eM61, er62, eM63, er64, eM65, if_neg c66, if_neg c72, if_neg c77, if_neg c78, if_neg c80, if_neg c87, if_neg c89, if_neg c93, if_neg c96, if_pos c98, er99, er100, er101, eM102, er103, er104, eM105]]
                        exact (fM105).trans ((fM102).trans ((fM65).trans ((fM63).trans (fM61))))
                      · skip
                        obtain ⟨r106, er106⟩ : ∃ z, et_X0_escape w M65 (M.1 (w + 3) 13) = z := ⟨_, rfl⟩
                        obtain ⟨r107, er107⟩ : ∃ z, et_X0_kept w M65 (M.1 (w + 3) 13) = z := ⟨_, rfl⟩
                        obtain ⟨M108, eM108⟩ : ∃ z, et_X3_go w M65 r106 r107 = z := ⟨_, rfl⟩
                        have fM108 : M108.1 c = M65.1 c := by rw [← eM108]; exact ef1_X3_go _ _ _ _ (by omega)
                        rw [show et_X3_receive w M = M108 from by simp only [et_X3_receive, if_neg c58, er59, er60, eM61, er62, eM63, er64, eM65, if_neg c66, if_neg c72, if_neg c77, if_neg c78, if_neg c80, if_neg c87, if_neg c89, if_neg c93, if_neg c96, if_neg c98, er106, er107, eM108]]
                        exact (fM108).trans ((fM65).trans ((fM63).trans (fM61)))
theorem ef2_X3_receive  (w : Nat) (M : em_M) {c : Nat} (h : c < w ∨ w + 23 < c) : (et_X3_receive w M).2 c = M.2 c := by
  by_cases c58 : (M.1 (w + 3) 13) = 0
  · skip
    obtain ⟨M114, eM114⟩ : ∃ z, et_X4_over (w + 4) M (M.2 (w + 3) 12) = z := ⟨_, rfl⟩
    have fM114 : M114.2 c = M.2 c := by rw [← eM114]; exact ef2_X4_over _ _ _ (by omega)
    rw [show et_X3_receive w M = M114 from by simp only [et_X3_receive, if_pos c58, eM114]]
    exact fM114
  · skip
    obtain ⟨r59, er59⟩ : ∃ z, et_X0_sort w M (M.1 (w + 3) 13) = z := ⟨_, rfl⟩
    obtain ⟨r60, er60⟩ : ∃ z, et_X0_below w M (M.1 (w + 3) 13) = z := ⟨_, rfl⟩
    obtain ⟨M61, eM61⟩ : ∃ z, em_pI M (w + 3) 13 r60 = z := ⟨_, rfl⟩
    have fM61 : M61.2 c = M.2 c := by rw [← eM61]; exact rfl
    obtain ⟨r62, er62⟩ : ∃ z, et_X0_expression w M61 (M.1 (w + 3) 13) = z := ⟨_, rfl⟩
    obtain ⟨M63, eM63⟩ : ∃ z, em_pI M61 (w + 3) 10 r62 = z := ⟨_, rfl⟩
    have fM63 : M63.2 c = M61.2 c := by rw [← eM63]; exact rfl
    obtain ⟨r64, er64⟩ : ∃ z, et_X0_scope w M63 (M.1 (w + 3) 13) = z := ⟨_, rfl⟩
    obtain ⟨M65, eM65⟩ : ∃ z, em_pI M63 (w + 3) 11 r64 = z := ⟨_, rfl⟩
    have fM65 : M65.2 c = M63.2 c := by rw [← eM65]; exact rfl
    by_cases c66 : r59 = (1 : Int32)
    · skip
      obtain ⟨r67, er67⟩ : ∃ z, et_X11_isNumber M65 (M65.2 (w + 3) 12) = z := ⟨_, rfl⟩
      by_cases c68 : r67 = 0
      · skip
        obtain ⟨M71, eM71⟩ : ∃ z, em_pI M65 (w + 4) 0 (2 : Int32) = z := ⟨_, rfl⟩
        have fM71 : M71.2 c = M65.2 c := by rw [← eM71]; exact rfl
        rw [show et_X3_receive w M = M71 from by simp only [et_X3_receive, if_neg c58, er59, er60, eM61, er62, eM63, er64, eM65, if_pos c66, er67, if_pos c68, eM71]]
        exact (fM71).trans ((fM65).trans ((fM63).trans (fM61)))
      · skip
        by_cases c69 : (lg_cmp (M65.2 (w + 3) 12) (0 : Int64)) = 0
        · skip
          rw [show et_X3_receive w M = et_X3_receive_187 w M65 (M.1 (w + 3) 13) r59 (2 : Int32) from by simp only [et_X3_receive, if_neg c58, er59, er60, eM61, er62, eM63, er64, eM65, if_pos c66, er67, if_neg c68, if_pos c69]]
          exact ((ef2_X3_receive_187 _ _ _ _ _ (by omega))).trans ((fM65).trans ((fM63).trans (fM61)))
        · skip
          rw [show et_X3_receive w M = et_X3_receive_187 w M65 (M.1 (w + 3) 13) r59 (1 : Int32) from by simp only [et_X3_receive, if_neg c58, er59, er60, eM61, er62, eM63, er64, eM65, if_pos c66, er67, if_neg c68, if_neg c69]]
          exact ((ef2_X3_receive_187 _ _ _ _ _ (by omega))).trans ((fM65).trans ((fM63).trans (fM61)))
    · skip
      by_cases c72 : r59 = (6 : Int32)
      · skip
        obtain ⟨r73, er73⟩ : ∃ z, et_X11_isNumber M65 (M65.2 (w + 3) 12) = z := ⟨_, rfl⟩
        by_cases c74 : r73 = 0
        · skip
          obtain ⟨M76, eM76⟩ : ∃ z, em_pI M65 (w + 4) 0 (2 : Int32) = z := ⟨_, rfl⟩
          have fM76 : M76.2 c = M65.2 c := by rw [← eM76]; exact rfl
          rw [show et_X3_receive w M = M76 from by simp only [et_X3_receive, if_neg c58, er59, er60, eM61, er62, eM63, er64, eM65, if_neg c66, if_pos c72, er73, if_pos c74, eM76]]
          exact (fM76).trans ((fM65).trans ((fM63).trans (fM61)))
        · skip
          obtain ⟨M75, eM75⟩ : ∃ z, et_X4_write (w + 4) M65 (((M65.2 (w + 3) 12)).toInt32) = z := ⟨_, rfl⟩
          have fM75 : M75.2 c = M65.2 c := by rw [← eM75]; exact ef2_X4_write _ _ _ (by omega)
          rw [show et_X3_receive w M = M75 from by simp only [et_X3_receive, if_neg c58, er59, er60, eM61, er62, eM63, er64, eM65, if_neg c66, if_pos c72, er73, if_neg c74, eM75]]
          exact (fM75).trans ((fM65).trans ((fM63).trans (fM61)))
      · skip
        by_cases c77 : r59 = (7 : Int32)
        · skip
          obtain ⟨r109, er109⟩ : ∃ z, et_X11_isNumber M65 (M65.2 (w + 3) 12) = z := ⟨_, rfl⟩
          by_cases c110 : r109 = 0
          · skip
            obtain ⟨M113, eM113⟩ : ∃ z, em_pI M65 (w + 4) 0 (2 : Int32) = z := ⟨_, rfl⟩
            have fM113 : M113.2 c = M65.2 c := by rw [← eM113]; exact rfl
            rw [show et_X3_receive w M = M113 from by simp only [et_X3_receive, if_neg c58, er59, er60, eM61, er62, eM63, er64, eM65, if_neg c66, if_neg c72, if_pos c77, er109, if_pos c110, eM113]]
            exact (fM113).trans ((fM65).trans ((fM63).trans (fM61)))
          · skip
            obtain ⟨r111, er111⟩ : ∃ z, et_X2_mark M65 (M65.1 (w + 3) 10) = z := ⟨_, rfl⟩
            obtain ⟨M112, eM112⟩ : ∃ z, et_X11_put (w + 1) 4 M65 r111 (((M65.2 (w + 3) 12)).toInt32) = z := ⟨_, rfl⟩
            have fM112 : M112.2 c = M65.2 c := by rw [← eM112]; exact (congrFun ef_put12 _)
            rw [show et_X3_receive w M = M112 from by simp only [et_X3_receive, if_neg c58, er59, er60, eM61, er62, eM63, er64, eM65, if_neg c66, if_neg c72, if_pos c77, er109, if_neg c110, er111, eM112]]
            exact (fM112).trans ((fM65).trans ((fM63).trans (fM61)))
        · skip
          by_cases c78 : r59 = (0 : Int32)
          · skip
            obtain ⟨M79, eM79⟩ : ∃ z, et_X3_receiveOp w M65 (M.1 (w + 3) 13) = z := ⟨_, rfl⟩
            have fM79 : M79.2 c = M65.2 c := by rw [← eM79]; exact ef2_X3_receiveOp _ _ _ (by omega)
            rw [show et_X3_receive w M = M79 from by simp only [et_X3_receive, if_neg c58, er59, er60, eM61, er62, eM63, er64, eM65, if_neg c66, if_neg c72, if_neg c77, if_pos c78, eM79]]
            exact (fM79).trans ((fM65).trans ((fM63).trans (fM61)))
          · skip
            by_cases c80 : r59 = (2 : Int32)
            · skip
              obtain ⟨r81, er81⟩ : ∃ z, et_X2_mark M65 (M65.1 (w + 3) 10) = z := ⟨_, rfl⟩
              obtain ⟨r82, M83, eM83⟩ : ∃ y z, et_X7_bind w M65 (M65.1 (w + 3) 11) r81 (M65.2 (w + 3) 12) = (y, z) := ⟨_, _, rfl⟩
              have fM83 : M83.2 c = M65.2 c := by
                have q : (et_X7_bind w M65 (M65.1 (w + 3) 11) r81 (M65.2 (w + 3) 12)).2.2 c = M65.2 c := ef2_X7_bind _ _ _ _ _ (by omega)
                rw [eM83] at q
                exact q
              obtain ⟨M85, eM85⟩ : ∃ z, em_pI M83 (w + 3) 11 r82 = z := ⟨_, rfl⟩
              have fM85 : M85.2 c = M83.2 c := by rw [← eM85]; exact rfl
              obtain ⟨M86, eM86⟩ : ∃ z, et_X3_workOn w M85 (1 : Int32) = z := ⟨_, rfl⟩
              have fM86 : M86.2 c = M85.2 c := by rw [← eM86]; exact ef2_X3_workOn _ _ _ (by omega)
              rw [show et_X3_receive w M = M86 from by simp only [et_X3_receive, if_neg c58, er59, er60, eM61, er62, eM63, er64, eM65, if_neg c66, if_neg c72, if_neg c77, if_neg c78, if_pos c80, er81, eM83, eM85, eM86]]
              exact (fM86).trans ((fM85).trans ((fM83).trans ((fM65).trans ((fM63).trans (fM61)))))
            · skip
              by_cases c87 : r59 = (3 : Int32)
              · skip
                obtain ⟨M88, eM88⟩ : ∃ z, et_X3_workOn w M65 (1 : Int32) = z := ⟨_, rfl⟩
                have fM88 : M88.2 c = M65.2 c := by rw [← eM88]; exact ef2_X3_workOn _ _ _ (by omega)
                rw [show et_X3_receive w M = M88 from by simp only [et_X3_receive, if_neg c58, er59, er60, eM61, er62, eM63, er64, eM65, if_neg c66, if_neg c72, if_neg c77, if_neg c78, if_neg c80, if_pos c87, eM88]]
                exact (fM88).trans ((fM65).trans ((fM63).trans (fM61)))
              · skip
                by_cases c89 : r59 = (4 : Int32)
                · skip
                  obtain ⟨r90, er90⟩ : ∃ z, et_X2_mark M65 (M65.1 (w + 3) 10) = z := ⟨_, rfl⟩
                  obtain ⟨r91, er91⟩ : ∃ z, et_X11_at (w + 2) 3 M65 r90 = z := ⟨_, rfl⟩
                  obtain ⟨M92, eM92⟩ : ∃ z, et_X3_call w M65 r91 = z := ⟨_, rfl⟩
                  have fM92 : M92.2 c = M65.2 c := by rw [← eM92]; exact ef2_X3_call _ _ _ (by omega)
                  rw [show et_X3_receive w M = M92 from by simp only [et_X3_receive, if_neg c58, er59, er60, eM61, er62, eM63, er64, eM65, if_neg c66, if_neg c72, if_neg c77, if_neg c78, if_neg c80, if_neg c87, if_pos c89, er90, er91, eM92]]
                  exact (fM92).trans ((fM65).trans ((fM63).trans (fM61)))
                · skip
                  by_cases c93 : r59 = (5 : Int32)
                  · skip
                    obtain ⟨r94, er94⟩ : ∃ z, et_X0_escape w M65 (M.1 (w + 3) 13) = z := ⟨_, rfl⟩
                    obtain ⟨M95, eM95⟩ : ∃ z, et_X3_go w M65 r94 (M65.2 (w + 3) 12) = z := ⟨_, rfl⟩
                    have fM95 : M95.2 c = M65.2 c := by rw [← eM95]; exact ef2_X3_go _ _ _ _ (by omega)
                    rw [show et_X3_receive w M = M95 from by simp only [et_X3_receive, if_neg c58, er59, er60, eM61, er62, eM63, er64, eM65, if_neg c66, if_neg c72, if_neg c77, if_neg c78, if_neg c80, if_neg c87, if_neg c89, if_pos c93, er94, eM95]]
                    exact (fM95).trans ((fM65).trans ((fM63).trans (fM61)))
                  · skip
                    by_cases c96 : r59 = (8 : Int32)
                    · skip
                      obtain ⟨M97, eM97⟩ : ∃ z, et_X3_receiveWind w M65 (M.1 (w + 3) 13) = z := ⟨_, rfl⟩
                      have fM97 : M97.2 c = M65.2 c := by rw [← eM97]; exact ef2_X3_receiveWind _ _ _ (by omega)
                      rw [show et_X3_receive w M = M97 from by simp only [et_X3_receive, if_neg c58, er59, er60, eM61, er62, eM63, er64, eM65, if_neg c66, if_neg c72, if_neg c77, if_neg c78, if_neg c80, if_neg c87, if_neg c89, if_neg c93, if_pos c96, eM97]]
                      exact (fM97).trans ((fM65).trans ((fM63).trans (fM61)))
                    · skip
                      by_cases c98 : r59 = (10 : Int32)
                      · skip
                        obtain ⟨r99, er99⟩ : ∃ z, et_X0_escape w M65 (M.1 (w + 3) 13) = z := ⟨_, rfl⟩
                        obtain ⟨r100, er100⟩ : ∃ z, et_X11_at (w + 23) 301 M65 r99 = z := ⟨_, rfl⟩
                        obtain ⟨r101, er101⟩ : ∃ z, et_X9_next w M65 (M65.1 (w + 3) 14) r100 = z := ⟨_, rfl⟩
                        obtain ⟨M102, eM102⟩ : ∃ z, em_pI M65 (w + 3) 14 r101 = z := ⟨_, rfl⟩
                        have fM102 : M102.2 c = M65.2 c := by rw [← eM102]; exact rfl
                        obtain ⟨r103, er103⟩ : ∃ z, et_X0_escape w M102 (M.1 (w + 3) 13) = z := ⟨_, rfl⟩
                        obtain ⟨r104, er104⟩ : ∃ z, et_X0_kept w M102 (M.1 (w + 3) 13) = z := ⟨_, rfl⟩
                        obtain ⟨M105, eM105⟩ : ∃ z, et_X3_go w M102 r103 r104 = z := ⟨_, rfl⟩
                        have fM105 : M105.2 c = M102.2 c := by rw [← eM105]; exact ef2_X3_go _ _ _ _ (by omega)
                        rw [show et_X3_receive w M = M105 from by simp only [et_X3_receive, if_neg c58, er59, er60, eM61, er62, eM63, er64, eM65, if_neg c66, if_neg c72, if_neg c77, if_neg c78, if_neg c80, if_neg c87, if_neg c89, if_neg c93, if_neg c96, if_pos c98, er99, er100, er101, eM102, er103, er104, eM105]]
                        exact (fM105).trans ((fM102).trans ((fM65).trans ((fM63).trans (fM61))))
                      · skip
                        obtain ⟨r106, er106⟩ : ∃ z, et_X0_escape w M65 (M.1 (w + 3) 13) = z := ⟨_, rfl⟩
                        obtain ⟨r107, er107⟩ : ∃ z, et_X0_kept w M65 (M.1 (w + 3) 13) = z := ⟨_, rfl⟩
                        obtain ⟨M108, eM108⟩ : ∃ z, et_X3_go w M65 r106 r107 = z := ⟨_, rfl⟩
                        have fM108 : M108.2 c = M65.2 c := by rw [← eM108]; exact ef2_X3_go _ _ _ _ (by omega)
                        rw [show et_X3_receive w M = M108 from by simp only [et_X3_receive, if_neg c58, er59, er60, eM61, er62, eM63, er64, eM65, if_neg c66, if_neg c72, if_neg c77, if_neg c78, if_neg c80, if_neg c87, if_neg c89, if_neg c93, if_neg c96, if_neg c98, er106, er107, eM108]]
                        exact (fM108).trans ((fM65).trans ((fM63).trans (fM61)))
theorem ef1_X3_move_2 (w : Nat) {c : Nat} (h : c < w ∨ w + 23 < c) : ∀ (fu : Nat) (M : em_M) (n made : Int32), (et_X3_move_2 w fu M n made).2.1 c = M.1 c := by
  intro fu
  induction fu with
  | zero => intros; rfl
  | succ fu ih =>
    intro M n made
    by_cases c13 : n ≤ made
    · skip
      rw [show et_X3_move_2 w (fu + 1) M n made = (made, M) from by simp only [et_X3_move_2, if_pos c13]]
    · skip
      by_cases c14 : (M.1 (w + 4) 0) = (-5 : Int32)
      · skip
        obtain ⟨M15, eM15⟩ : ∃ z, em_pI M (w + 4) 1 ((M.1 (w + 4) 1) + (1 : Int32)) = z := ⟨_, rfl⟩
        have fM15 : M15.1 c = M.1 c := by rw [← eM15]; exact ef_pI' _ _ _ _ (by omega)
        by_cases c16 : (M15.1 (w + 3) 9) = 0
        · skip
          obtain ⟨M17, eM17⟩ : ∃ z, et_X3_work w M15 = z := ⟨_, rfl⟩
          have fM17 : M17.1 c = M15.1 c := by rw [← eM17]; exact ef1_X3_work _ _ (by omega)
          by_cases c18 : (M17.1 (w + 4) 0) = (-5 : Int32)
          · skip
            by_cases c19 : (M17.1 (w + 4) 1) < (300 : Int32)
            · skip
              rw [show et_X3_move_2 w (fu + 1) M n made = et_X3_move_2 w fu M17 n (made + (1 : Int32)) from by simp only [et_X3_move_2, if_neg c13, if_pos c14, eM15, if_pos c16, eM17, if_pos c18, if_pos c19]]
              exact (ih _ _ _).trans ((fM17).trans (fM15))
            · skip
              obtain ⟨M20, eM20⟩ : ∃ z, em_pI M17 (w + 4) 0 (8 : Int32) = z := ⟨_, rfl⟩
              have fM20 : M20.1 c = M17.1 c := by rw [← eM20]; exact ef_pI' _ _ _ _ (by omega)
              rw [show et_X3_move_2 w (fu + 1) M n made = et_X3_move_2 w fu M20 n (made + (1 : Int32)) from by simp only [et_X3_move_2, if_neg c13, if_pos c14, eM15, if_pos c16, eM17, if_pos c18, if_neg c19, eM20]]
              exact (ih _ _ _).trans ((fM20).trans ((fM17).trans (fM15)))
          · skip
            rw [show et_X3_move_2 w (fu + 1) M n made = et_X3_move_2 w fu M17 n (made + (1 : Int32)) from by simp only [et_X3_move_2, if_neg c13, if_pos c14, eM15, if_pos c16, eM17, if_neg c18]]
            exact (ih _ _ _).trans ((fM17).trans (fM15))
        · skip
          obtain ⟨M21, eM21⟩ : ∃ z, et_X3_receive w M15 = z := ⟨_, rfl⟩
          have fM21 : M21.1 c = M15.1 c := by rw [← eM21]; exact ef1_X3_receive _ _ (by omega)
          by_cases c22 : (M21.1 (w + 4) 0) = (-5 : Int32)
          · skip
            by_cases c23 : (M21.1 (w + 4) 1) < (300 : Int32)
            · skip
              rw [show et_X3_move_2 w (fu + 1) M n made = et_X3_move_2 w fu M21 n (made + (1 : Int32)) from by simp only [et_X3_move_2, if_neg c13, if_pos c14, eM15, if_neg c16, eM21, if_pos c22, if_pos c23]]
              exact (ih _ _ _).trans ((fM21).trans (fM15))
            · skip
              obtain ⟨M24, eM24⟩ : ∃ z, em_pI M21 (w + 4) 0 (8 : Int32) = z := ⟨_, rfl⟩
              have fM24 : M24.1 c = M21.1 c := by rw [← eM24]; exact ef_pI' _ _ _ _ (by omega)
              rw [show et_X3_move_2 w (fu + 1) M n made = et_X3_move_2 w fu M24 n (made + (1 : Int32)) from by simp only [et_X3_move_2, if_neg c13, if_pos c14, eM15, if_neg c16, eM21, if_pos c22, if_neg c23, eM24]]
              exact (ih _ _ _).trans ((fM24).trans ((fM21).trans (fM15)))
          · skip
            rw [show et_X3_move_2 w (fu + 1) M n made = et_X3_move_2 w fu M21 n (made + (1 : Int32)) from by simp only [et_X3_move_2, if_neg c13, if_pos c14, eM15, if_neg c16, eM21, if_neg c22]]
            exact (ih _ _ _).trans ((fM21).trans (fM15))
      · skip
        rw [show et_X3_move_2 w (fu + 1) M n made = (made, M) from by simp only [et_X3_move_2, if_neg c13, if_neg c14]]
theorem ef1_X3_move (w : Nat) (M : em_M) (n : Int32) {c : Nat} (h : c < w ∨ w + 23 < c) : (et_X3_move w M n).2.1 c = M.1 c := ef1_X3_move_2 w h _ _ _ _
theorem ef2_X3_move_2 (w : Nat) {c : Nat} (h : c < w ∨ w + 23 < c) : ∀ (fu : Nat) (M : em_M) (n made : Int32), (et_X3_move_2 w fu M n made).2.2 c = M.2 c := by
  intro fu
  induction fu with
  | zero => intros; rfl
  | succ fu ih =>
    intro M n made
    by_cases c13 : n ≤ made
    · skip
      rw [show et_X3_move_2 w (fu + 1) M n made = (made, M) from by simp only [et_X3_move_2, if_pos c13]]
    · skip
      by_cases c14 : (M.1 (w + 4) 0) = (-5 : Int32)
      · skip
        obtain ⟨M15, eM15⟩ : ∃ z, em_pI M (w + 4) 1 ((M.1 (w + 4) 1) + (1 : Int32)) = z := ⟨_, rfl⟩
        have fM15 : M15.2 c = M.2 c := by rw [← eM15]; exact rfl
        by_cases c16 : (M15.1 (w + 3) 9) = 0
        · skip
          obtain ⟨M17, eM17⟩ : ∃ z, et_X3_work w M15 = z := ⟨_, rfl⟩
          have fM17 : M17.2 c = M15.2 c := by rw [← eM17]; exact ef2_X3_work _ _ (by omega)
          by_cases c18 : (M17.1 (w + 4) 0) = (-5 : Int32)
          · skip
            by_cases c19 : (M17.1 (w + 4) 1) < (300 : Int32)
            · skip
              rw [show et_X3_move_2 w (fu + 1) M n made = et_X3_move_2 w fu M17 n (made + (1 : Int32)) from by simp only [et_X3_move_2, if_neg c13, if_pos c14, eM15, if_pos c16, eM17, if_pos c18, if_pos c19]]
              exact (ih _ _ _).trans ((fM17).trans (fM15))
            · skip
              obtain ⟨M20, eM20⟩ : ∃ z, em_pI M17 (w + 4) 0 (8 : Int32) = z := ⟨_, rfl⟩
              have fM20 : M20.2 c = M17.2 c := by rw [← eM20]; exact rfl
              rw [show et_X3_move_2 w (fu + 1) M n made = et_X3_move_2 w fu M20 n (made + (1 : Int32)) from by simp only [et_X3_move_2, if_neg c13, if_pos c14, eM15, if_pos c16, eM17, if_pos c18, if_neg c19, eM20]]
              exact (ih _ _ _).trans ((fM20).trans ((fM17).trans (fM15)))
          · skip
            rw [show et_X3_move_2 w (fu + 1) M n made = et_X3_move_2 w fu M17 n (made + (1 : Int32)) from by simp only [et_X3_move_2, if_neg c13, if_pos c14, eM15, if_pos c16, eM17, if_neg c18]]
            exact (ih _ _ _).trans ((fM17).trans (fM15))
        · skip
          obtain ⟨M21, eM21⟩ : ∃ z, et_X3_receive w M15 = z := ⟨_, rfl⟩
          have fM21 : M21.2 c = M15.2 c := by rw [← eM21]; exact ef2_X3_receive _ _ (by omega)
          by_cases c22 : (M21.1 (w + 4) 0) = (-5 : Int32)
          · skip
            by_cases c23 : (M21.1 (w + 4) 1) < (300 : Int32)
            · skip
              rw [show et_X3_move_2 w (fu + 1) M n made = et_X3_move_2 w fu M21 n (made + (1 : Int32)) from by simp only [et_X3_move_2, if_neg c13, if_pos c14, eM15, if_neg c16, eM21, if_pos c22, if_pos c23]]
              exact (ih _ _ _).trans ((fM21).trans (fM15))
            · skip
              obtain ⟨M24, eM24⟩ : ∃ z, em_pI M21 (w + 4) 0 (8 : Int32) = z := ⟨_, rfl⟩
              have fM24 : M24.2 c = M21.2 c := by rw [← eM24]; exact rfl
              rw [show et_X3_move_2 w (fu + 1) M n made = et_X3_move_2 w fu M24 n (made + (1 : Int32)) from by simp only [et_X3_move_2, if_neg c13, if_pos c14, eM15, if_neg c16, eM21, if_pos c22, if_neg c23, eM24]]
              exact (ih _ _ _).trans ((fM24).trans ((fM21).trans (fM15)))
          · skip
            rw [show et_X3_move_2 w (fu + 1) M n made = et_X3_move_2 w fu M21 n (made + (1 : Int32)) from by simp only [et_X3_move_2, if_neg c13, if_pos c14, eM15, if_neg c16, eM21, if_neg c22]]
            exact (ih _ _ _).trans ((fM21).trans (fM15))
      · skip
        rw [show et_X3_move_2 w (fu + 1) M n made = (made, M) from by simp only [et_X3_move_2, if_neg c13, if_neg c14]]
theorem ef2_X3_move (w : Nat) (M : em_M) (n : Int32) {c : Nat} (h : c < w ∨ w + 23 < c) : (et_X3_move w M n).2.2 c = M.2 c := ef2_X3_move_2 w h _ _ _ _
theorem ef1_X3_copyFrom  (w v : Nat) (M : em_M) {c : Nat} (h : c < w ∨ w + 23 < c) : (et_X3_copyFrom w v M).1 c = M.1 c := by
  obtain ⟨M14, eM14⟩ : ∃ z, et_X4_copyFrom (w + 4) (v + 4) M = z := ⟨_, rfl⟩
  have fM14 : M14.1 c = M.1 c := by rw [← eM14]; exact ef1_X4_copyFrom _ _ _ (by omega)
  obtain ⟨M15, eM15⟩ : ∃ z, et_X7_copyFrom w v M14 = z := ⟨_, rfl⟩
  have fM15 : M15.1 c = M14.1 c := by rw [← eM15]; exact ef1_X7_copyFrom _ _ _ (by omega)
  obtain ⟨M16, eM16⟩ : ∃ z, et_X0_copyFrom w v M15 = z := ⟨_, rfl⟩
  have fM16 : M16.1 c = M15.1 c := by rw [← eM16]; exact ef1_X0_copyFrom _ _ _ (by omega)
  obtain ⟨M17, eM17⟩ : ∃ z, et_X9_copyFrom w v M16 = z := ⟨_, rfl⟩
  have fM17 : M17.1 c = M16.1 c := by rw [← eM17]; exact ef1_X9_copyFrom _ _ _ (by omega)
  obtain ⟨M18, eM18⟩ : ∃ z, et_X11_copyRow (v + 22) 301 (w + 22) 301 M17 = z := ⟨_, rfl⟩
  have fM18 : M18.1 c = M17.1 c := by rw [← eM18]; exact ef_cpI _ _ _ _ _ (by omega)
  obtain ⟨M19, eM19⟩ : ∃ z, et_X11_copyRow (v + 23) 301 (w + 23) 301 M18 = z := ⟨_, rfl⟩
  have fM19 : M19.1 c = M18.1 c := by rw [← eM19]; exact ef_cpI _ _ _ _ _ (by omega)
  obtain ⟨M20, eM20⟩ : ∃ z, em_pI M19 (w + 3) 8 (M19.1 (v + 3) 8) = z := ⟨_, rfl⟩
  have fM20 : M20.1 c = M19.1 c := by rw [← eM20]; exact ef_pI' _ _ _ _ (by omega)
  obtain ⟨M21, eM21⟩ : ∃ z, em_pI M20 (w + 3) 9 (M20.1 (v + 3) 9) = z := ⟨_, rfl⟩
  have fM21 : M21.1 c = M20.1 c := by rw [← eM21]; exact ef_pI' _ _ _ _ (by omega)
  obtain ⟨M22, eM22⟩ : ∃ z, em_pI M21 (w + 3) 10 (M21.1 (v + 3) 10) = z := ⟨_, rfl⟩
  have fM22 : M22.1 c = M21.1 c := by rw [← eM22]; exact ef_pI' _ _ _ _ (by omega)
  obtain ⟨M23, eM23⟩ : ∃ z, em_pI M22 (w + 3) 11 (M22.1 (v + 3) 11) = z := ⟨_, rfl⟩
  have fM23 : M23.1 c = M22.1 c := by rw [← eM23]; exact ef_pI' _ _ _ _ (by omega)
  obtain ⟨M24, eM24⟩ : ∃ z, em_pL M23 (w + 3) 12 (M23.2 (v + 3) 12) = z := ⟨_, rfl⟩
  have fM24 : M24.1 c = M23.1 c := by rw [← eM24]; exact rfl
  obtain ⟨M25, eM25⟩ : ∃ z, em_pI M24 (w + 3) 13 (M24.1 (v + 3) 13) = z := ⟨_, rfl⟩
  have fM25 : M25.1 c = M24.1 c := by rw [← eM25]; exact ef_pI' _ _ _ _ (by omega)
  obtain ⟨M26, eM26⟩ : ∃ z, em_pI M25 (w + 3) 14 (M25.1 (v + 3) 14) = z := ⟨_, rfl⟩
  have fM26 : M26.1 c = M25.1 c := by rw [← eM26]; exact ef_pI' _ _ _ _ (by omega)
  rw [show et_X3_copyFrom w v M = M26 from by simp only [et_X3_copyFrom, eM14, eM15, eM16, eM17, eM18, eM19, eM20, eM21, eM22, eM23, eM24, eM25, eM26]]
  exact (fM26).trans ((fM25).trans ((fM24).trans ((fM23).trans ((fM22).trans ((fM21).trans ((fM20).trans ((fM19).trans ((fM18).trans ((fM17).trans ((fM16).trans ((fM15).trans (fM14))))))))))))
theorem ef2_X3_copyFrom  (w v : Nat) (M : em_M) {c : Nat} (h : c < w ∨ w + 23 < c) : (et_X3_copyFrom w v M).2 c = M.2 c := by
  obtain ⟨M14, eM14⟩ : ∃ z, et_X4_copyFrom (w + 4) (v + 4) M = z := ⟨_, rfl⟩
  have fM14 : M14.2 c = M.2 c := by rw [← eM14]; exact ef2_X4_copyFrom _ _ _ (by omega)
  obtain ⟨M15, eM15⟩ : ∃ z, et_X7_copyFrom w v M14 = z := ⟨_, rfl⟩
  have fM15 : M15.2 c = M14.2 c := by rw [← eM15]; exact ef2_X7_copyFrom _ _ _ (by omega)
  obtain ⟨M16, eM16⟩ : ∃ z, et_X0_copyFrom w v M15 = z := ⟨_, rfl⟩
  have fM16 : M16.2 c = M15.2 c := by rw [← eM16]; exact ef2_X0_copyFrom _ _ _ (by omega)
  obtain ⟨M17, eM17⟩ : ∃ z, et_X9_copyFrom w v M16 = z := ⟨_, rfl⟩
  have fM17 : M17.2 c = M16.2 c := by rw [← eM17]; exact ef2_X9_copyFrom _ _ _ (by omega)
  obtain ⟨M18, eM18⟩ : ∃ z, et_X11_copyRow (v + 22) 301 (w + 22) 301 M17 = z := ⟨_, rfl⟩
  have fM18 : M18.2 c = M17.2 c := by rw [← eM18]; exact rfl
  obtain ⟨M19, eM19⟩ : ∃ z, et_X11_copyRow (v + 23) 301 (w + 23) 301 M18 = z := ⟨_, rfl⟩
  have fM19 : M19.2 c = M18.2 c := by rw [← eM19]; exact rfl
  obtain ⟨M20, eM20⟩ : ∃ z, em_pI M19 (w + 3) 8 (M19.1 (v + 3) 8) = z := ⟨_, rfl⟩
  have fM20 : M20.2 c = M19.2 c := by rw [← eM20]; exact rfl
  obtain ⟨M21, eM21⟩ : ∃ z, em_pI M20 (w + 3) 9 (M20.1 (v + 3) 9) = z := ⟨_, rfl⟩
  have fM21 : M21.2 c = M20.2 c := by rw [← eM21]; exact rfl
  obtain ⟨M22, eM22⟩ : ∃ z, em_pI M21 (w + 3) 10 (M21.1 (v + 3) 10) = z := ⟨_, rfl⟩
  have fM22 : M22.2 c = M21.2 c := by rw [← eM22]; exact rfl
  obtain ⟨M23, eM23⟩ : ∃ z, em_pI M22 (w + 3) 11 (M22.1 (v + 3) 11) = z := ⟨_, rfl⟩
  have fM23 : M23.2 c = M22.2 c := by rw [← eM23]; exact rfl
  obtain ⟨M24, eM24⟩ : ∃ z, em_pL M23 (w + 3) 12 (M23.2 (v + 3) 12) = z := ⟨_, rfl⟩
  have fM24 : M24.2 c = M23.2 c := by rw [← eM24]; exact ef_pL' _ _ _ _ (by omega)
  obtain ⟨M25, eM25⟩ : ∃ z, em_pI M24 (w + 3) 13 (M24.1 (v + 3) 13) = z := ⟨_, rfl⟩
  have fM25 : M25.2 c = M24.2 c := by rw [← eM25]; exact rfl
  obtain ⟨M26, eM26⟩ : ∃ z, em_pI M25 (w + 3) 14 (M25.1 (v + 3) 14) = z := ⟨_, rfl⟩
  have fM26 : M26.2 c = M25.2 c := by rw [← eM26]; exact rfl
  rw [show et_X3_copyFrom w v M = M26 from by simp only [et_X3_copyFrom, eM14, eM15, eM16, eM17, eM18, eM19, eM20, eM21, eM22, eM23, eM24, eM25, eM26]]
  exact (fM26).trans ((fM25).trans ((fM24).trans ((fM23).trans ((fM22).trans ((fM21).trans ((fM20).trans ((fM19).trans ((fM18).trans ((fM17).trans ((fM16).trans ((fM15).trans (fM14))))))))))))
theorem ef1_X1_copyFrom  (k j : Nat) (M : em_M) {c : Nat} (h : c < k ∨ k + 33 < c) : (et_X1_copyFrom k j M).1 c = M.1 c := by
  obtain ⟨M6, eM6⟩ : ∃ z, et_X10_copyFrom (k + 10) (j + 10) M = z := ⟨_, rfl⟩
  have fM6 : M6.1 c = M.1 c := by rw [← eM6]; exact ef1_X10_copyFrom _ _ _ (by omega)
  obtain ⟨M7, eM7⟩ : ∃ z, et_X3_copyFrom (k + 10) (j + 10) M6 = z := ⟨_, rfl⟩
  have fM7 : M7.1 c = M6.1 c := by rw [← eM7]; exact ef1_X3_copyFrom _ _ _ (by omega)
  obtain ⟨M8, eM8⟩ : ∃ z, et_X6_copyFrom (k + 1) (j + 1) M7 = z := ⟨_, rfl⟩
  have fM8 : M8.1 c = M7.1 c := by rw [← eM8]; exact ef1_X6_copyFrom _ _ _ (by omega)
  obtain ⟨M9, eM9⟩ : ∃ z, et_X6_copyFrom (k + 4) (j + 4) M8 = z := ⟨_, rfl⟩
  have fM9 : M9.1 c = M8.1 c := by rw [← eM9]; exact ef1_X6_copyFrom _ _ _ (by omega)
  obtain ⟨M10, eM10⟩ : ∃ z, et_X6_copyFrom (k + 7) (j + 7) M9 = z := ⟨_, rfl⟩
  have fM10 : M10.1 c = M9.1 c := by rw [← eM10]; exact ef1_X6_copyFrom _ _ _ (by omega)
  rw [show et_X1_copyFrom k j M = M10 from by simp only [et_X1_copyFrom, eM6, eM7, eM8, eM9, eM10]]
  exact (fM10).trans ((fM9).trans ((fM8).trans ((fM7).trans (fM6))))
theorem ef2_X1_copyFrom  (k j : Nat) (M : em_M) {c : Nat} (h : c < k ∨ k + 33 < c) : (et_X1_copyFrom k j M).2 c = M.2 c := by
  obtain ⟨M6, eM6⟩ : ∃ z, et_X10_copyFrom (k + 10) (j + 10) M = z := ⟨_, rfl⟩
  have fM6 : M6.2 c = M.2 c := by rw [← eM6]; exact ef2_X10_copyFrom _ _ _ (by omega)
  obtain ⟨M7, eM7⟩ : ∃ z, et_X3_copyFrom (k + 10) (j + 10) M6 = z := ⟨_, rfl⟩
  have fM7 : M7.2 c = M6.2 c := by rw [← eM7]; exact ef2_X3_copyFrom _ _ _ (by omega)
  obtain ⟨M8, eM8⟩ : ∃ z, et_X6_copyFrom (k + 1) (j + 1) M7 = z := ⟨_, rfl⟩
  have fM8 : M8.2 c = M7.2 c := by rw [← eM8]; exact ef2_X6_copyFrom _ _ _ (by omega)
  obtain ⟨M9, eM9⟩ : ∃ z, et_X6_copyFrom (k + 4) (j + 4) M8 = z := ⟨_, rfl⟩
  have fM9 : M9.2 c = M8.2 c := by rw [← eM9]; exact ef2_X6_copyFrom _ _ _ (by omega)
  obtain ⟨M10, eM10⟩ : ∃ z, et_X6_copyFrom (k + 7) (j + 7) M9 = z := ⟨_, rfl⟩
  have fM10 : M10.2 c = M9.2 c := by rw [← eM10]; exact ef2_X6_copyFrom _ _ _ (by omega)
  rw [show et_X1_copyFrom k j M = M10 from by simp only [et_X1_copyFrom, eM6, eM7, eM8, eM9, eM10]]
  exact (fM10).trans ((fM9).trans ((fM8).trans ((fM7).trans (fM6))))
