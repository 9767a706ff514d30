theorem ef1_X8_become_12 (t : Nat) {c : Nat} : ∀ (fu : Nat) (M : em_M) (k : Int32), (et_X8_become_12 t fu M k).1 c = M.1 c := by
  intro fu
  induction fu with
  | zero => intros; rfl
  | succ fu ih =>
    intro M k
    rw [et_X8_become_12]
    split
    · rfl
    · exact ih _ _
theorem ef2_X8_become_12 (t : Nat) {c : Nat} (h : c ≠ t + 1) : ∀ (fu : Nat) (M : em_M) (k : Int32), (et_X8_become_12 t fu M k).2 c = M.2 c := by
  intro fu
  induction fu with
  | zero => intros; rfl
  | succ fu ih =>
    intro M k
    rw [et_X8_become_12]
    split
    · rfl
    · exact (ih _ _).trans (ef_pL' _ _ _ _ h)
theorem ef1_X8_become (t : Nat) (M : em_M) (s n : Int32) {c : Nat} (h : c < t ∨ t + 1 < c) : (et_X8_become t M s n).1 c = M.1 c := by
  rw [et_X8_become]
  exact (ef1_X8_become_12 _ _ _ _).trans ((ef_pI' _ _ _ _ (by omega)).trans (ef_pI' _ _ _ _ (by omega)))
theorem ef2_X8_become (t : Nat) (M : em_M) (s n : Int32) {c : Nat} (h : c < t ∨ t + 1 < c) : (et_X8_become t M s n).2 c = M.2 c := by
  rw [et_X8_become]
  exact ef2_X8_become_12 _ (by omega) _ _ _
theorem ef1_X12_copies_2 (a an b bn : Nat) {c : Nat} (h : c ≠ b) : ∀ (fu : Nat) (M : em_M) (k : Int32), (et_X12_copies_2 a an b bn fu M k).1 c = M.1 c := by
  intro fu
  induction fu with
  | zero => intros; rfl
  | succ fu ih =>
    intro M k
    rw [et_X12_copies_2]
    split
    · rfl
    · exact (ih _ _).trans (ef_pI' _ _ _ _ h)
theorem ef1_X12_copies (a an b bn : Nat) (M : em_M) {c : Nat} (h : c ≠ b) : (et_X12_copies a an b bn M).1 c = M.1 c := by
  rw [et_X12_copies]
  exact ef1_X12_copies_2 a an b bn h _ _ _
theorem ef2_X12_copies_2 (a an b bn : Nat) {c : Nat} (h : c ≠ b) : ∀ (fu : Nat) (M : em_M) (k : Int32), (et_X12_copies_2 a an b bn fu M k).2 c = M.2 c := by
  intro fu
  induction fu with
  | zero => intros; rfl
  | succ fu ih =>
    intro M k
    rw [et_X12_copies_2]
    split
    · rfl
    · exact (ih _ _).trans (rfl)
theorem ef2_X12_copies (a an b bn : Nat) (M : em_M) {c : Nat} (h : c ≠ b) : (et_X12_copies a an b bn M).2 c = M.2 c := by
  rw [et_X12_copies]
  exact ef2_X12_copies_2 a an b bn h _ _ _
theorem ef1_X12_is (M : em_M) (s : Int32) {c : Nat} (h : c < 118 ∨ 131 < c) : (et_X12_is M s).2.1 c = M.1 c := by
  rw [et_X12_is]
  dsimp only
  split
  · exact ef_pI' _ _ _ _ (by omega)
  · rfl
theorem ef2_X12_is (M : em_M) (s : Int32) {c : Nat} (h : c < 118 ∨ 131 < c) : (et_X12_is M s).2.2 c = M.2 c := by
  rw [et_X12_is]
  dsimp only
  split
  · exact rfl
  · rfl
theorem ef1_X2_end_44    {c : Nat} (h : c < 1 ∨ 10 < c) : ∀ (fu : Nat) (M : em_M) (line : Int32) (e : Int32), (et_X2_end_44  fu M line e).2.1 c = M.1 c := by
  intro fu
  induction fu with
  | zero => intros; rfl
  | succ fu ih =>
    intro M line e
    by_cases c12 : (M.1 1 1) ≤ e
    · skip
      rw [show et_X2_end_44  (fu + 1) M line e = (line, M) from by simp only [et_X2_end_44, if_pos c12]]
      all_goals rfl
    · skip
      obtain ⟨M13, eM13⟩ : ∃ z, et_X2_handDown M e = z := ⟨_, rfl⟩
      have fM13 : M13.1 c = M.1 c := by rw [← eM13]; exact (ef1_X2_handDown _ _ (by omega))
      obtain ⟨M14, eM14⟩ : ∃ z, et_X2_countIn M13 line e = z := ⟨_, rfl⟩
      have fM14 : M14.1 c = M13.1 c := by rw [← eM14]; exact (ef1_X2_countIn _ _ _ (by omega))
      rw [show et_X2_end_44  (fu + 1) M line e = et_X2_end_44 fu M14 line (e + (1 : Int32)) from by simp only [et_X2_end_44, if_neg c12, eM13, eM14]]
      exact (ih _ _ _).trans ((fM14).trans (fM13))
theorem ef2_X2_end_44    {c : Nat} (h : c < 1 ∨ 10 < c) : ∀ (fu : Nat) (M : em_M) (line : Int32) (e : Int32), (et_X2_end_44  fu M line e).2.2 c = M.2 c := by
  intro fu
  induction fu with
  | zero => intros; rfl
  | succ fu ih =>
    intro M line e
    by_cases c12 : (M.1 1 1) ≤ e
    · skip
      rw [show et_X2_end_44  (fu + 1) M line e = (line, M) from by simp only [et_X2_end_44, if_pos c12]]
      all_goals rfl
    · skip
      obtain ⟨M13, eM13⟩ : ∃ z, et_X2_handDown M e = z := ⟨_, rfl⟩
      have fM13 : M13.2 c = M.2 c := by rw [← eM13]; exact (ef2_X2_handDown _ _ (by omega))
      obtain ⟨M14, eM14⟩ : ∃ z, et_X2_countIn M13 line e = z := ⟨_, rfl⟩
      have fM14 : M14.2 c = M13.2 c := by rw [← eM14]; exact (ef2_X2_countIn _ _ _ (by omega))
      rw [show et_X2_end_44  (fu + 1) M line e = et_X2_end_44 fu M14 line (e + (1 : Int32)) from by simp only [et_X2_end_44, if_neg c12, eM13, eM14]]
      exact (ih _ _ _).trans ((fM14).trans (fM13))
theorem ef1_X2_end  (M : em_M) (root : Int32) {c : Nat} (h : c < 1 ∨ 10 < c) : (et_X2_end M root).2.1 c = M.1 c := by
  obtain ⟨M8, eM8⟩ : ∃ z, em_pI M 1 0 ((M.1 1 0) + (1 : Int32)) = z := ⟨_, rfl⟩
  have fM8 : M8.1 c = M.1 c := by rw [← eM8]; exact ef_pI' _ _ _ _ (by omega)
  obtain ⟨M9, eM9⟩ : ∃ z, et_X11_put 7 8 M8 (M.1 1 0) root = z := ⟨_, rfl⟩
  have fM9 : M9.1 c = M8.1 c := by rw [← eM9]; exact ef_put1 (by omega)
  obtain ⟨M10, eM10⟩ : ∃ z, et_X11_put 5 800 M9 root (1 : Int32) = z := ⟨_, rfl⟩
  have fM10 : M10.1 c = M9.1 c := by rw [← eM10]; exact ef_put1 (by omega)
  obtain ⟨M11, eM11⟩ : ∃ z, et_X11_put 6 800 M10 root (1 : Int32) = z := ⟨_, rfl⟩
  have fM11 : M11.1 c = M10.1 c := by rw [← eM11]; exact ef_put1 (by omega)
  rw [show et_X2_end M root = et_X2_end_44 (((M11.1 1 1).toInt - (root).toInt).toNat + 1) M11 (M.1 1 0) root from by simp only [et_X2_end, eM8, eM9, eM10, eM11]]
  exact ((ef1_X2_end_44  (by omega) _ _ _ _)).trans ((fM11).trans ((fM10).trans ((fM9).trans (fM8))))
theorem ef2_X2_end  (M : em_M) (root : Int32) {c : Nat} (h : c < 1 ∨ 10 < c) : (et_X2_end M root).2.2 c = M.2 c := by
  obtain ⟨M8, eM8⟩ : ∃ z, em_pI M 1 0 ((M.1 1 0) + (1 : Int32)) = z := ⟨_, rfl⟩
  have fM8 : M8.2 c = M.2 c := by rw [← eM8]; exact rfl
  obtain ⟨M9, eM9⟩ : ∃ z, et_X11_put 7 8 M8 (M.1 1 0) root = z := ⟨_, rfl⟩
  have fM9 : M9.2 c = M8.2 c := by rw [← eM9]; exact (congrFun ef_put12 _)
  obtain ⟨M10, eM10⟩ : ∃ z, et_X11_put 5 800 M9 root (1 : Int32) = z := ⟨_, rfl⟩
  have fM10 : M10.2 c = M9.2 c := by rw [← eM10]; exact (congrFun ef_put12 _)
  obtain ⟨M11, eM11⟩ : ∃ z, et_X11_put 6 800 M10 root (1 : Int32) = z := ⟨_, rfl⟩
  have fM11 : M11.2 c = M10.2 c := by rw [← eM11]; exact (congrFun ef_put12 _)
  rw [show et_X2_end M root = et_X2_end_44 (((M11.1 1 1).toInt - (root).toInt).toNat + 1) M11 (M.1 1 0) root from by simp only [et_X2_end, eM8, eM9, eM10, eM11]]
  exact ((ef2_X2_end_44  (by omega) _ _ _ _)).trans ((fM11).trans ((fM10).trans ((fM9).trans (fM8))))
theorem ef1_X5_parts_3 (E : em_M → Int32 → Int32 × em_M) (within : Int32)  {c : Nat} (h : c < 1 ∨ 10 < c) (hE : ∀ (M : em_M) (x : Int32), (E M x).2.1 c = M.1 c) : ∀ (fu : Nat) (M : em_M) (e : Int32) (n : Int32) (k : Int32), (et_X5_parts_3 E within fu M e n k).2.1 c = M.1 c := by
  intro fu
  induction fu with
  | zero => intros; rfl
  | succ fu ih =>
    intro M e n k
    by_cases c25 : n ≤ k
    · skip
      obtain ⟨r26, M27, eM27⟩ : ∃ y z, et_X5_passed M (41 : Int32) = (y, z) := ⟨_, _, rfl⟩
      have fM27 : M27.1 c = M.1 c := by
        have q : (et_X5_passed M (41 : Int32)).2.1 c = M.1 c := (ef1_X5_passed _ _ (by omega))
        rw [eM27] at q
        exact q
      by_cases c29 : r26 = 0
      · skip
        rw [show et_X5_parts_3 E within (fu + 1) M e n k = ((-1 : Int32), M27) from by simp only [et_X5_parts_3, if_pos c25, eM27, if_pos c29]]
        show M27.1 c = M.1 c
        exact fM27
      · skip
        rw [show et_X5_parts_3 E within (fu + 1) M e n k = (e, M27) from by simp only [et_X5_parts_3, if_pos c25, eM27, if_neg c29]]
        show M27.1 c = M.1 c
        exact fM27
    · skip
      by_cases c30 : k = 0
      · skip
        obtain ⟨r40, M41, eM41⟩ : ∃ y z, et_X5_passed M (40 : Int32) = (y, z) := ⟨_, _, rfl⟩
        have fM41 : M41.1 c = M.1 c := by
          have q : (et_X5_passed M (40 : Int32)).2.1 c = M.1 c := (ef1_X5_passed _ _ (by omega))
          rw [eM41] at q
          exact q
        by_cases c43 : r40 = 0
        · skip
          rw [show et_X5_parts_3 E within (fu + 1) M e n k = ((-1 : Int32), M41) from by simp only [et_X5_parts_3, if_neg c25, if_pos c30, eM41, if_pos c43]]
          show M41.1 c = M.1 c
          exact fM41
        · skip
          obtain ⟨r44, M45, eM45⟩ : ∃ y z, E M41 within = (y, z) := ⟨_, _, rfl⟩
          have fM45 : M45.1 c = M41.1 c := by
            have q : (E M41 within).2.1 c = M41.1 c := hE _ _
            rw [eM45] at q
            exact q
          by_cases c47 : 0 ≤ r44
          · skip
            obtain ⟨M48, eM48⟩ : ∃ z, et_X2_link M45 e k r44 = z := ⟨_, rfl⟩
            have fM48 : M48.1 c = M45.1 c := by rw [← eM48]; exact (ef1_X2_link _ _ _ _ (by omega))
            rw [show et_X5_parts_3 E within (fu + 1) M e n k = et_X5_parts_3 E within fu M48 e n (k + (1 : Int32)) from by simp only [et_X5_parts_3, if_neg c25, if_pos c30, eM41, if_neg c43, eM45, if_pos c47, eM48]]
            exact (ih _ _ _ _).trans ((fM48).trans ((fM45).trans (fM41)))
          · skip
            rw [show et_X5_parts_3 E within (fu + 1) M e n k = ((-1 : Int32), M45) from by simp only [et_X5_parts_3, if_neg c25, if_pos c30, eM41, if_neg c43, eM45, if_neg c47]]
            show M45.1 c = M.1 c
            exact (fM45).trans (fM41)
      · skip
        obtain ⟨r31, M32, eM32⟩ : ∃ y z, et_X5_passed M (44 : Int32) = (y, z) := ⟨_, _, rfl⟩
        have fM32 : M32.1 c = M.1 c := by
          have q : (et_X5_passed M (44 : Int32)).2.1 c = M.1 c := (ef1_X5_passed _ _ (by omega))
          rw [eM32] at q
          exact q
        by_cases c34 : r31 = 0
        · skip
          rw [show et_X5_parts_3 E within (fu + 1) M e n k = ((-1 : Int32), M32) from by simp only [et_X5_parts_3, if_neg c25, if_neg c30, eM32, if_pos c34]]
          show M32.1 c = M.1 c
          exact fM32
        · skip
          obtain ⟨r35, M36, eM36⟩ : ∃ y z, E M32 within = (y, z) := ⟨_, _, rfl⟩
          have fM36 : M36.1 c = M32.1 c := by
            have q : (E M32 within).2.1 c = M32.1 c := hE _ _
            rw [eM36] at q
            exact q
          by_cases c38 : 0 ≤ r35
          · skip
            obtain ⟨M39, eM39⟩ : ∃ z, et_X2_link M36 e k r35 = z := ⟨_, rfl⟩
            have fM39 : M39.1 c = M36.1 c := by rw [← eM39]; exact (ef1_X2_link _ _ _ _ (by omega))
            rw [show et_X5_parts_3 E within (fu + 1) M e n k = et_X5_parts_3 E within fu M39 e n (k + (1 : Int32)) from by simp only [et_X5_parts_3, if_neg c25, if_neg c30, eM32, if_neg c34, eM36, if_pos c38, eM39]]
            exact (ih _ _ _ _).trans ((fM39).trans ((fM36).trans (fM32)))
          · skip
            rw [show et_X5_parts_3 E within (fu + 1) M e n k = ((-1 : Int32), M36) from by simp only [et_X5_parts_3, if_neg c25, if_neg c30, eM32, if_neg c34, eM36, if_neg c38]]
            show M36.1 c = M.1 c
            exact (fM36).trans (fM32)
theorem ef2_X5_parts_3 (E : em_M → Int32 → Int32 × em_M) (within : Int32)  {c : Nat} (h : c < 1 ∨ 10 < c) (hE : ∀ (M : em_M) (x : Int32), (E M x).2.2 c = M.2 c) : ∀ (fu : Nat) (M : em_M) (e : Int32) (n : Int32) (k : Int32), (et_X5_parts_3 E within fu M e n k).2.2 c = M.2 c := by
  intro fu
  induction fu with
  | zero => intros; rfl
  | succ fu ih =>
    intro M e n k
    by_cases c25 : n ≤ k
    · skip
      obtain ⟨r26, M27, eM27⟩ : ∃ y z, et_X5_passed M (41 : Int32) = (y, z) := ⟨_, _, rfl⟩
      have fM27 : M27.2 c = M.2 c := by
        have q : (et_X5_passed M (41 : Int32)).2.2 c = M.2 c := (ef2_X5_passed _ _ (by omega))
        rw [eM27] at q
        exact q
      by_cases c29 : r26 = 0
      · skip
        rw [show et_X5_parts_3 E within (fu + 1) M e n k = ((-1 : Int32), M27) from by simp only [et_X5_parts_3, if_pos c25, eM27, if_pos c29]]
        show M27.2 c = M.2 c
        exact fM27
      · skip
        rw [show et_X5_parts_3 E within (fu + 1) M e n k = (e, M27) from by simp only [et_X5_parts_3, if_pos c25, eM27, if_neg c29]]
        show M27.2 c = M.2 c
        exact fM27
    · skip
      by_cases c30 : k = 0
      · skip
        obtain ⟨r40, M41, eM41⟩ : ∃ y z, et_X5_passed M (40 : Int32) = (y, z) := ⟨_, _, rfl⟩
        have fM41 : M41.2 c = M.2 c := by
          have q : (et_X5_passed M (40 : Int32)).2.2 c = M.2 c := (ef2_X5_passed _ _ (by omega))
          rw [eM41] at q
          exact q
        by_cases c43 : r40 = 0
        · skip
          rw [show et_X5_parts_3 E within (fu + 1) M e n k = ((-1 : Int32), M41) from by simp only [et_X5_parts_3, if_neg c25, if_pos c30, eM41, if_pos c43]]
          show M41.2 c = M.2 c
          exact fM41
        · skip
          obtain ⟨r44, M45, eM45⟩ : ∃ y z, E M41 within = (y, z) := ⟨_, _, rfl⟩
          have fM45 : M45.2 c = M41.2 c := by
            have q : (E M41 within).2.2 c = M41.2 c := hE _ _
            rw [eM45] at q
            exact q
          by_cases c47 : 0 ≤ r44
          · skip
            obtain ⟨M48, eM48⟩ : ∃ z, et_X2_link M45 e k r44 = z := ⟨_, rfl⟩
            have fM48 : M48.2 c = M45.2 c := by rw [← eM48]; exact (ef2_X2_link _ _ _ _ (by omega))
            rw [show et_X5_parts_3 E within (fu + 1) M e n k = et_X5_parts_3 E within fu M48 e n (k + (1 : Int32)) from by simp only [et_X5_parts_3, if_neg c25, if_pos c30, eM41, if_neg c43, eM45, if_pos c47, eM48]]
            exact (ih _ _ _ _).trans ((fM48).trans ((fM45).trans (fM41)))
          · skip
            rw [show et_X5_parts_3 E within (fu + 1) M e n k = ((-1 : Int32), M45) from by simp only [et_X5_parts_3, if_neg c25, if_pos c30, eM41, if_neg c43, eM45, if_neg c47]]
            show M45.2 c = M.2 c
            exact (fM45).trans (fM41)
      · skip
        obtain ⟨r31, M32, eM32⟩ : ∃ y z, et_X5_passed M (44 : Int32) = (y, z) := ⟨_, _, rfl⟩
        have fM32 : M32.2 c = M.2 c := by
          have q : (et_X5_passed M (44 : Int32)).2.2 c = M.2 c := (ef2_X5_passed _ _ (by omega))
          rw [eM32] at q
          exact q
        by_cases c34 : r31 = 0
        · skip
          rw [show et_X5_parts_3 E within (fu + 1) M e n k = ((-1 : Int32), M32) from by simp only [et_X5_parts_3, if_neg c25, if_neg c30, eM32, if_pos c34]]
          show M32.2 c = M.2 c
          exact fM32
        · skip
          obtain ⟨r35, M36, eM36⟩ : ∃ y z, E M32 within = (y, z) := ⟨_, _, rfl⟩
          have fM36 : M36.2 c = M32.2 c := by
            have q : (E M32 within).2.2 c = M32.2 c := hE _ _
            rw [eM36] at q
            exact q
          by_cases c38 : 0 ≤ r35
          · skip
            obtain ⟨M39, eM39⟩ : ∃ z, et_X2_link M36 e k r35 = z := ⟨_, rfl⟩
            have fM39 : M39.2 c = M36.2 c := by rw [← eM39]; exact (ef2_X2_link _ _ _ _ (by omega))
            rw [show et_X5_parts_3 E within (fu + 1) M e n k = et_X5_parts_3 E within fu M39 e n (k + (1 : Int32)) from by simp only [et_X5_parts_3, if_neg c25, if_neg c30, eM32, if_neg c34, eM36, if_pos c38, eM39]]
            exact (ih _ _ _ _).trans ((fM39).trans ((fM36).trans (fM32)))
          · skip
            rw [show et_X5_parts_3 E within (fu + 1) M e n k = ((-1 : Int32), M36) from by simp only [et_X5_parts_3, if_neg c25, if_neg c30, eM32, if_neg c34, eM36, if_neg c38]]
            show M36.2 c = M.2 c
            exact (fM36).trans (fM32)
theorem ef1_X5_parts (E : em_M → Int32 → Int32 × em_M) (M : em_M) (e : Int32) (n : Int32) (within : Int32) {c : Nat} (h : c < 1 ∨ 10 < c) (hE : ∀ (M : em_M) (x : Int32), (E M x).2.1 c = M.1 c) : (et_X5_parts E M e n within).2.1 c = M.1 c := by
  rw [show et_X5_parts E M e n within = et_X5_parts_3 E within (n.toNatClampNeg + 1) M e n (0 : Int32) from by simp only [et_X5_parts]]
  exact (ef1_X5_parts_3 _ _ (by omega) hE _ _ _ _ _)
theorem ef2_X5_parts (E : em_M → Int32 → Int32 × em_M) (M : em_M) (e : Int32) (n : Int32) (within : Int32) {c : Nat} (h : c < 1 ∨ 10 < c) (hE : ∀ (M : em_M) (x : Int32), (E M x).2.2 c = M.2 c) : (et_X5_parts E M e n within).2.2 c = M.2 c := by
  rw [show et_X5_parts E M e n within = et_X5_parts_3 E within (n.toNatClampNeg + 1) M e n (0 : Int32) from by simp only [et_X5_parts]]
  exact (ef2_X5_parts_3 _ _ (by omega) hE _ _ _ _ _)
theorem ef1_X5_list_15_5 (E : em_M → Int32 → Int32 × em_M) (within : Int32) (M : em_M) (x2 : Int32) (x3 : Int32) {c : Nat} (h : c < 1 ∨ 10 < c) (hE : ∀ (M : em_M) (x : Int32), (E M x).2.1 c = M.1 c) : (et_X5_list_15_5 E within M x2 x3).2.1 c = M.1 c := by
  obtain ⟨r152, M153, eM153⟩ : ∃ y z, E M within = (y, z) := ⟨_, _, rfl⟩
  have fM153 : M153.1 c = M.1 c := by
    have q : (E M within).2.1 c = M.1 c := hE _ _
    rw [eM153] at q
    exact q
  by_cases c155 : 0 ≤ r152
  · skip
    obtain ⟨M156, eM156⟩ : ∃ z, et_X2_link M153 x3 (0 : Int32) r152 = z := ⟨_, rfl⟩
    have fM156 : M156.1 c = M153.1 c := by rw [← eM156]; exact (ef1_X2_link _ _ _ _ (by omega))
    obtain ⟨r157, M158, eM158⟩ : ∃ y z, et_X5_passed M156 (93 : Int32) = (y, z) := ⟨_, _, rfl⟩
    have fM158 : M158.1 c = M156.1 c := by
      have q : (et_X5_passed M156 (93 : Int32)).2.1 c = M156.1 c := (ef1_X5_passed _ _ (by omega))
      rw [eM158] at q
      exact q
    by_cases c160 : r157 = 0
    · skip
      rw [show et_X5_list_15_5 E within M x2 x3 = ((-1 : Int32), M158) from by simp only [et_X5_list_15_5, eM153, if_pos c155, eM156, eM158, if_pos c160]]
      show M158.1 c = M.1 c
      exact (fM158).trans ((fM156).trans (fM153))
    · skip
      rw [show et_X5_list_15_5 E within M x2 x3 = (x2, M158) from by simp only [et_X5_list_15_5, eM153, if_pos c155, eM156, eM158, if_neg c160]]
      show M158.1 c = M.1 c
      exact (fM158).trans ((fM156).trans (fM153))
  · skip
    rw [show et_X5_list_15_5 E within M x2 x3 = ((-1 : Int32), M153) from by simp only [et_X5_list_15_5, eM153, if_neg c155]]
    show M153.1 c = M.1 c
    exact fM153
theorem ef2_X5_list_15_5 (E : em_M → Int32 → Int32 × em_M) (within : Int32) (M : em_M) (x2 : Int32) (x3 : Int32) {c : Nat} (h : c < 1 ∨ 10 < c) (hE : ∀ (M : em_M) (x : Int32), (E M x).2.2 c = M.2 c) : (et_X5_list_15_5 E within M x2 x3).2.2 c = M.2 c := by
  obtain ⟨r152, M153, eM153⟩ : ∃ y z, E M within = (y, z) := ⟨_, _, rfl⟩
  have fM153 : M153.2 c = M.2 c := by
    have q : (E M within).2.2 c = M.2 c := hE _ _
    rw [eM153] at q
    exact q
  by_cases c155 : 0 ≤ r152
  · skip
    obtain ⟨M156, eM156⟩ : ∃ z, et_X2_link M153 x3 (0 : Int32) r152 = z := ⟨_, rfl⟩
    have fM156 : M156.2 c = M153.2 c := by rw [← eM156]; exact (ef2_X2_link _ _ _ _ (by omega))
    obtain ⟨r157, M158, eM158⟩ : ∃ y z, et_X5_passed M156 (93 : Int32) = (y, z) := ⟨_, _, rfl⟩
    have fM158 : M158.2 c = M156.2 c := by
      have q : (et_X5_passed M156 (93 : Int32)).2.2 c = M156.2 c := (ef2_X5_passed _ _ (by omega))
      rw [eM158] at q
      exact q
    by_cases c160 : r157 = 0
    · skip
      rw [show et_X5_list_15_5 E within M x2 x3 = ((-1 : Int32), M158) from by simp only [et_X5_list_15_5, eM153, if_pos c155, eM156, eM158, if_pos c160]]
      show M158.2 c = M.2 c
      exact (fM158).trans ((fM156).trans (fM153))
    · skip
      rw [show et_X5_list_15_5 E within M x2 x3 = (x2, M158) from by simp only [et_X5_list_15_5, eM153, if_pos c155, eM156, eM158, if_neg c160]]
      show M158.2 c = M.2 c
      exact (fM158).trans ((fM156).trans (fM153))
  · skip
    rw [show et_X5_list_15_5 E within M x2 x3 = ((-1 : Int32), M153) from by simp only [et_X5_list_15_5, eM153, if_neg c155]]
    show M153.2 c = M.2 c
    exact fM153
theorem ef1_X5_list_15_4 (E : em_M → Int32 → Int32 × em_M) (within : Int32) (M : em_M) (x2 : Int32) (x3 : Int32) {c : Nat} (h : c < 1 ∨ 10 < c) (hE : ∀ (M : em_M) (x : Int32), (E M x).2.1 c = M.1 c) : (et_X5_list_15_4 E within M x2 x3).2.1 c = M.1 c := by
  obtain ⟨r135, M136, eM136⟩ : ∃ y z, E M within = (y, z) := ⟨_, _, rfl⟩
  have fM136 : M136.1 c = M.1 c := by
    have q : (E M within).2.1 c = M.1 c := hE _ _
    rw [eM136] at q
    exact q
  by_cases c138 : 0 ≤ r135
  · skip
    obtain ⟨M139, eM139⟩ : ∃ z, et_X2_link M136 x3 (0 : Int32) r135 = z := ⟨_, rfl⟩
    have fM139 : M139.1 c = M136.1 c := by rw [← eM139]; exact (ef1_X2_link _ _ _ _ (by omega))
    obtain ⟨r140, M141, eM141⟩ : ∃ y z, et_X5_passed M139 (93 : Int32) = (y, z) := ⟨_, _, rfl⟩
    have fM141 : M141.1 c = M139.1 c := by
      have q : (et_X5_passed M139 (93 : Int32)).2.1 c = M139.1 c := (ef1_X5_passed _ _ (by omega))
      rw [eM141] at q
      exact q
    by_cases c143 : r140 = 0
    · skip
      obtain ⟨r144, M145, eM145⟩ : ∃ y z, et_X5_passed M141 (44 : Int32) = (y, z) := ⟨_, _, rfl⟩
      have fM145 : M145.1 c = M141.1 c := by
        have q : (et_X5_passed M141 (44 : Int32)).2.1 c = M141.1 c := (ef1_X5_passed _ _ (by omega))
        rw [eM145] at q
        exact q
      by_cases c147 : r144 = 0
      · skip
        rw [show et_X5_list_15_4 E within M x2 x3 = ((-1 : Int32), M145) from by simp only [et_X5_list_15_4, eM136, if_pos c138, eM139, eM141, if_pos c143, eM145, if_pos c147]]
        show M145.1 c = M.1 c
        exact (fM145).trans ((fM141).trans ((fM139).trans (fM136)))
      · skip
        obtain ⟨r148, M149, eM149⟩ : ∃ y z, et_X2_add M145 (14 : Int32) (0 : Int32) = (y, z) := ⟨_, _, rfl⟩
        have fM149 : M149.1 c = M145.1 c := by
          have q : (et_X2_add M145 (14 : Int32) (0 : Int32)).2.1 c = M145.1 c := (ef1_X2_add _ _ _ (by omega))
          rw [eM149] at q
          exact q
        obtain ⟨M151, eM151⟩ : ∃ z, et_X2_link M149 x3 (1 : Int32) r148 = z := ⟨_, rfl⟩
        have fM151 : M151.1 c = M149.1 c := by rw [← eM151]; exact (ef1_X2_link _ _ _ _ (by omega))
        rw [show et_X5_list_15_4 E within M x2 x3 = et_X5_list_15_5 E within M151 x2 r148 from by simp only [et_X5_list_15_4, eM136, if_pos c138, eM139, eM141, if_pos c143, eM145, if_neg c147, eM149, eM151]]
        exact ((ef1_X5_list_15_5 _ _ _ _ _ (by omega) hE)).trans ((fM151).trans ((fM149).trans ((fM145).trans ((fM141).trans ((fM139).trans (fM136))))))
    · skip
      rw [show et_X5_list_15_4 E within M x2 x3 = (x2, M141) from by simp only [et_X5_list_15_4, eM136, if_pos c138, eM139, eM141, if_neg c143]]
      show M141.1 c = M.1 c
      exact (fM141).trans ((fM139).trans (fM136))
  · skip
    rw [show et_X5_list_15_4 E within M x2 x3 = ((-1 : Int32), M136) from by simp only [et_X5_list_15_4, eM136, if_neg c138]]
    show M136.1 c = M.1 c
    exact fM136
theorem ef2_X5_list_15_4 (E : em_M → Int32 → Int32 × em_M) (within : Int32) (M : em_M) (x2 : Int32) (x3 : Int32) {c : Nat} (h : c < 1 ∨ 10 < c) (hE : ∀ (M : em_M) (x : Int32), (E M x).2.2 c = M.2 c) : (et_X5_list_15_4 E within M x2 x3).2.2 c = M.2 c := by
  obtain ⟨r135, M136, eM136⟩ : ∃ y z, E M within = (y, z) := ⟨_, _, rfl⟩
  have fM136 : M136.2 c = M.2 c := by
    have q : (E M within).2.2 c = M.2 c := hE _ _
    rw [eM136] at q
    exact q
  by_cases c138 : 0 ≤ r135
  · skip
    obtain ⟨M139, eM139⟩ : ∃ z, et_X2_link M136 x3 (0 : Int32) r135 = z := ⟨_, rfl⟩
    have fM139 : M139.2 c = M136.2 c := by rw [← eM139]; exact (ef2_X2_link _ _ _ _ (by omega))
    obtain ⟨r140, M141, eM141⟩ : ∃ y z, et_X5_passed M139 (93 : Int32) = (y, z) := ⟨_, _, rfl⟩
    have fM141 : M141.2 c = M139.2 c := by
      have q : (et_X5_passed M139 (93 : Int32)).2.2 c = M139.2 c := (ef2_X5_passed _ _ (by omega))
      rw [eM141] at q
      exact q
    by_cases c143 : r140 = 0
    · skip
      obtain ⟨r144, M145, eM145⟩ : ∃ y z, et_X5_passed M141 (44 : Int32) = (y, z) := ⟨_, _, rfl⟩
      have fM145 : M145.2 c = M141.2 c := by
        have q : (et_X5_passed M141 (44 : Int32)).2.2 c = M141.2 c := (ef2_X5_passed _ _ (by omega))
        rw [eM145] at q
        exact q
      by_cases c147 : r144 = 0
      · skip
        rw [show et_X5_list_15_4 E within M x2 x3 = ((-1 : Int32), M145) from by simp only [et_X5_list_15_4, eM136, if_pos c138, eM139, eM141, if_pos c143, eM145, if_pos c147]]
        show M145.2 c = M.2 c
        exact (fM145).trans ((fM141).trans ((fM139).trans (fM136)))
      · skip
        obtain ⟨r148, M149, eM149⟩ : ∃ y z, et_X2_add M145 (14 : Int32) (0 : Int32) = (y, z) := ⟨_, _, rfl⟩
        have fM149 : M149.2 c = M145.2 c := by
          have q : (et_X2_add M145 (14 : Int32) (0 : Int32)).2.2 c = M145.2 c := (ef2_X2_add _ _ _ (by omega))
          rw [eM149] at q
          exact q
        obtain ⟨M151, eM151⟩ : ∃ z, et_X2_link M149 x3 (1 : Int32) r148 = z := ⟨_, rfl⟩
        have fM151 : M151.2 c = M149.2 c := by rw [← eM151]; exact (ef2_X2_link _ _ _ _ (by omega))
        rw [show et_X5_list_15_4 E within M x2 x3 = et_X5_list_15_5 E within M151 x2 r148 from by simp only [et_X5_list_15_4, eM136, if_pos c138, eM139, eM141, if_pos c143, eM145, if_neg c147, eM149, eM151]]
        exact ((ef2_X5_list_15_5 _ _ _ _ _ (by omega) hE)).trans ((fM151).trans ((fM149).trans ((fM145).trans ((fM141).trans ((fM139).trans (fM136))))))
    · skip
      rw [show et_X5_list_15_4 E within M x2 x3 = (x2, M141) from by simp only [et_X5_list_15_4, eM136, if_pos c138, eM139, eM141, if_neg c143]]
      show M141.2 c = M.2 c
      exact (fM141).trans ((fM139).trans (fM136))
  · skip
    rw [show et_X5_list_15_4 E within M x2 x3 = ((-1 : Int32), M136) from by simp only [et_X5_list_15_4, eM136, if_neg c138]]
    show M136.2 c = M.2 c
    exact fM136
theorem ef1_X5_list_15_3 (E : em_M → Int32 → Int32 × em_M) (within : Int32) (M : em_M) (x2 : Int32) (x3 : Int32) {c : Nat} (h : c < 1 ∨ 10 < c) (hE : ∀ (M : em_M) (x : Int32), (E M x).2.1 c = M.1 c) : (et_X5_list_15_3 E within M x2 x3).2.1 c = M.1 c := by
  obtain ⟨r118, M119, eM119⟩ : ∃ y z, E M within = (y, z) := ⟨_, _, rfl⟩
  have fM119 : M119.1 c = M.1 c := by
    have q : (E M within).2.1 c = M.1 c := hE _ _
    rw [eM119] at q
    exact q
  by_cases c121 : 0 ≤ r118
  · skip
    obtain ⟨M122, eM122⟩ : ∃ z, et_X2_link M119 x3 (0 : Int32) r118 = z := ⟨_, rfl⟩
    have fM122 : M122.1 c = M119.1 c := by rw [← eM122]; exact (ef1_X2_link _ _ _ _ (by omega))
    obtain ⟨r123, M124, eM124⟩ : ∃ y z, et_X5_passed M122 (93 : Int32) = (y, z) := ⟨_, _, rfl⟩
    have fM124 : M124.1 c = M122.1 c := by
      have q : (et_X5_passed M122 (93 : Int32)).2.1 c = M122.1 c := (ef1_X5_passed _ _ (by omega))
      rw [eM124] at q
      exact q
    by_cases c126 : r123 = 0
    · skip
      obtain ⟨r127, M128, eM128⟩ : ∃ y z, et_X5_passed M124 (44 : Int32) = (y, z) := ⟨_, _, rfl⟩
      have fM128 : M128.1 c = M124.1 c := by
        have q : (et_X5_passed M124 (44 : Int32)).2.1 c = M124.1 c := (ef1_X5_passed _ _ (by omega))
        rw [eM128] at q
        exact q
      by_cases c130 : r127 = 0
      · skip
        rw [show et_X5_list_15_3 E within M x2 x3 = ((-1 : Int32), M128) from by simp only [et_X5_list_15_3, eM119, if_pos c121, eM122, eM124, if_pos c126, eM128, if_pos c130]]
        show M128.1 c = M.1 c
        exact (fM128).trans ((fM124).trans ((fM122).trans (fM119)))
      · skip
        obtain ⟨r131, M132, eM132⟩ : ∃ y z, et_X2_add M128 (14 : Int32) (0 : Int32) = (y, z) := ⟨_, _, rfl⟩
        have fM132 : M132.1 c = M128.1 c := by
          have q : (et_X2_add M128 (14 : Int32) (0 : Int32)).2.1 c = M128.1 c := (ef1_X2_add _ _ _ (by omega))
          rw [eM132] at q
          exact q
        obtain ⟨M134, eM134⟩ : ∃ z, et_X2_link M132 x3 (1 : Int32) r131 = z := ⟨_, rfl⟩
        have fM134 : M134.1 c = M132.1 c := by rw [← eM134]; exact (ef1_X2_link _ _ _ _ (by omega))
        rw [show et_X5_list_15_3 E within M x2 x3 = et_X5_list_15_4 E within M134 x2 r131 from by simp only [et_X5_list_15_3, eM119, if_pos c121, eM122, eM124, if_pos c126, eM128, if_neg c130, eM132, eM134]]
        exact ((ef1_X5_list_15_4 _ _ _ _ _ (by omega) hE)).trans ((fM134).trans ((fM132).trans ((fM128).trans ((fM124).trans ((fM122).trans (fM119))))))
    · skip
      rw [show et_X5_list_15_3 E within M x2 x3 = (x2, M124) from by simp only [et_X5_list_15_3, eM119, if_pos c121, eM122, eM124, if_neg c126]]
      show M124.1 c = M.1 c
      exact (fM124).trans ((fM122).trans (fM119))
  · skip
    rw [show et_X5_list_15_3 E within M x2 x3 = ((-1 : Int32), M119) from by simp only [et_X5_list_15_3, eM119, if_neg c121]]
    show M119.1 c = M.1 c
    exact fM119
theorem ef2_X5_list_15_3 (E : em_M → Int32 → Int32 × em_M) (within : Int32) (M : em_M) (x2 : Int32) (x3 : Int32) {c : Nat} (h : c < 1 ∨ 10 < c) (hE : ∀ (M : em_M) (x : Int32), (E M x).2.2 c = M.2 c) : (et_X5_list_15_3 E within M x2 x3).2.2 c = M.2 c := by
  obtain ⟨r118, M119, eM119⟩ : ∃ y z, E M within = (y, z) := ⟨_, _, rfl⟩
  have fM119 : M119.2 c = M.2 c := by
    have q : (E M within).2.2 c = M.2 c := hE _ _
    rw [eM119] at q
    exact q
  by_cases c121 : 0 ≤ r118
  · skip
    obtain ⟨M122, eM122⟩ : ∃ z, et_X2_link M119 x3 (0 : Int32) r118 = z := ⟨_, rfl⟩
    have fM122 : M122.2 c = M119.2 c := by rw [← eM122]; exact (ef2_X2_link _ _ _ _ (by omega))
    obtain ⟨r123, M124, eM124⟩ : ∃ y z, et_X5_passed M122 (93 : Int32) = (y, z) := ⟨_, _, rfl⟩
    have fM124 : M124.2 c = M122.2 c := by
      have q : (et_X5_passed M122 (93 : Int32)).2.2 c = M122.2 c := (ef2_X5_passed _ _ (by omega))
      rw [eM124] at q
      exact q
    by_cases c126 : r123 = 0
    · skip
      obtain ⟨r127, M128, eM128⟩ : ∃ y z, et_X5_passed M124 (44 : Int32) = (y, z) := ⟨_, _, rfl⟩
      have fM128 : M128.2 c = M124.2 c := by
        have q : (et_X5_passed M124 (44 : Int32)).2.2 c = M124.2 c := (ef2_X5_passed _ _ (by omega))
        rw [eM128] at q
        exact q
      by_cases c130 : r127 = 0
      · skip
        rw [show et_X5_list_15_3 E within M x2 x3 = ((-1 : Int32), M128) from by simp only [et_X5_list_15_3, eM119, if_pos c121, eM122, eM124, if_pos c126, eM128, if_pos c130]]
        show M128.2 c = M.2 c
        exact (fM128).trans ((fM124).trans ((fM122).trans (fM119)))
      · skip
        obtain ⟨r131, M132, eM132⟩ : ∃ y z, et_X2_add M128 (14 : Int32) (0 : Int32) = (y, z) := ⟨_, _, rfl⟩
        have fM132 : M132.2 c = M128.2 c := by
          have q : (et_X2_add M128 (14 : Int32) (0 : Int32)).2.2 c = M128.2 c := (ef2_X2_add _ _ _ (by omega))
          rw [eM132] at q
          exact q
        obtain ⟨M134, eM134⟩ : ∃ z, et_X2_link M132 x3 (1 : Int32) r131 = z := ⟨_, rfl⟩
        have fM134 : M134.2 c = M132.2 c := by rw [← eM134]; exact (ef2_X2_link _ _ _ _ (by omega))
        rw [show et_X5_list_15_3 E within M x2 x3 = et_X5_list_15_4 E within M134 x2 r131 from by simp only [et_X5_list_15_3, eM119, if_pos c121, eM122, eM124, if_pos c126, eM128, if_neg c130, eM132, eM134]]
        exact ((ef2_X5_list_15_4 _ _ _ _ _ (by omega) hE)).trans ((fM134).trans ((fM132).trans ((fM128).trans ((fM124).trans ((fM122).trans (fM119))))))
    · skip
      rw [show et_X5_list_15_3 E within M x2 x3 = (x2, M124) from by simp only [et_X5_list_15_3, eM119, if_pos c121, eM122, eM124, if_neg c126]]
      show M124.2 c = M.2 c
      exact (fM124).trans ((fM122).trans (fM119))
  · skip
    rw [show et_X5_list_15_3 E within M x2 x3 = ((-1 : Int32), M119) from by simp only [et_X5_list_15_3, eM119, if_neg c121]]
    show M119.2 c = M.2 c
    exact fM119
theorem ef1_X5_list_15_2 (E : em_M → Int32 → Int32 × em_M) (within : Int32) (M : em_M) (x2 : Int32) (x3 : Int32) {c : Nat} (h : c < 1 ∨ 10 < c) (hE : ∀ (M : em_M) (x : Int32), (E M x).2.1 c = M.1 c) : (et_X5_list_15_2 E within M x2 x3).2.1 c = M.1 c := by
  obtain ⟨r101, M102, eM102⟩ : ∃ y z, E M within = (y, z) := ⟨_, _, rfl⟩
  have fM102 : M102.1 c = M.1 c := by
    have q : (E M within).2.1 c = M.1 c := hE _ _
    rw [eM102] at q
    exact q
  by_cases c104 : 0 ≤ r101
  · skip
    obtain ⟨M105, eM105⟩ : ∃ z, et_X2_link M102 x3 (0 : Int32) r101 = z := ⟨_, rfl⟩
    have fM105 : M105.1 c = M102.1 c := by rw [← eM105]; exact (ef1_X2_link _ _ _ _ (by omega))
    obtain ⟨r106, M107, eM107⟩ : ∃ y z, et_X5_passed M105 (93 : Int32) = (y, z) := ⟨_, _, rfl⟩
    have fM107 : M107.1 c = M105.1 c := by
      have q : (et_X5_passed M105 (93 : Int32)).2.1 c = M105.1 c := (ef1_X5_passed _ _ (by omega))
      rw [eM107] at q
      exact q
    by_cases c109 : r106 = 0
    · skip
      obtain ⟨r110, M111, eM111⟩ : ∃ y z, et_X5_passed M107 (44 : Int32) = (y, z) := ⟨_, _, rfl⟩
      have fM111 : M111.1 c = M107.1 c := by
        have q : (et_X5_passed M107 (44 : Int32)).2.1 c = M107.1 c := (ef1_X5_passed _ _ (by omega))
        rw [eM111] at q
        exact q
      by_cases c113 : r110 = 0
      · skip
        rw [show et_X5_list_15_2 E within M x2 x3 = ((-1 : Int32), M111) from by simp only [et_X5_list_15_2, eM102, if_pos c104, eM105, eM107, if_pos c109, eM111, if_pos c113]]
        show M111.1 c = M.1 c
        exact (fM111).trans ((fM107).trans ((fM105).trans (fM102)))
      · skip
        obtain ⟨r114, M115, eM115⟩ : ∃ y z, et_X2_add M111 (14 : Int32) (0 : Int32) = (y, z) := ⟨_, _, rfl⟩
        have fM115 : M115.1 c = M111.1 c := by
          have q : (et_X2_add M111 (14 : Int32) (0 : Int32)).2.1 c = M111.1 c := (ef1_X2_add _ _ _ (by omega))
          rw [eM115] at q
          exact q
        obtain ⟨M117, eM117⟩ : ∃ z, et_X2_link M115 x3 (1 : Int32) r114 = z := ⟨_, rfl⟩
        have fM117 : M117.1 c = M115.1 c := by rw [← eM117]; exact (ef1_X2_link _ _ _ _ (by omega))
        rw [show et_X5_list_15_2 E within M x2 x3 = et_X5_list_15_3 E within M117 x2 r114 from by simp only [et_X5_list_15_2, eM102, if_pos c104, eM105, eM107, if_pos c109, eM111, if_neg c113, eM115, eM117]]
        exact ((ef1_X5_list_15_3 _ _ _ _ _ (by omega) hE)).trans ((fM117).trans ((fM115).trans ((fM111).trans ((fM107).trans ((fM105).trans (fM102))))))
    · skip
      rw [show et_X5_list_15_2 E within M x2 x3 = (x2, M107) from by simp only [et_X5_list_15_2, eM102, if_pos c104, eM105, eM107, if_neg c109]]
      show M107.1 c = M.1 c
      exact (fM107).trans ((fM105).trans (fM102))
  · skip
    rw [show et_X5_list_15_2 E within M x2 x3 = ((-1 : Int32), M102) from by simp only [et_X5_list_15_2, eM102, if_neg c104]]
    show M102.1 c = M.1 c
    exact fM102
theorem ef2_X5_list_15_2 (E : em_M → Int32 → Int32 × em_M) (within : Int32) (M : em_M) (x2 : Int32) (x3 : Int32) {c : Nat} (h : c < 1 ∨ 10 < c) (hE : ∀ (M : em_M) (x : Int32), (E M x).2.2 c = M.2 c) : (et_X5_list_15_2 E within M x2 x3).2.2 c = M.2 c := by
  obtain ⟨r101, M102, eM102⟩ : ∃ y z, E M within = (y, z) := ⟨_, _, rfl⟩
  have fM102 : M102.2 c = M.2 c := by
    have q : (E M within).2.2 c = M.2 c := hE _ _
    rw [eM102] at q
    exact q
  by_cases c104 : 0 ≤ r101
  · skip
    obtain ⟨M105, eM105⟩ : ∃ z, et_X2_link M102 x3 (0 : Int32) r101 = z := ⟨_, rfl⟩
    have fM105 : M105.2 c = M102.2 c := by rw [← eM105]; exact (ef2_X2_link _ _ _ _ (by omega))
    obtain ⟨r106, M107, eM107⟩ : ∃ y z, et_X5_passed M105 (93 : Int32) = (y, z) := ⟨_, _, rfl⟩
    have fM107 : M107.2 c = M105.2 c := by
      have q : (et_X5_passed M105 (93 : Int32)).2.2 c = M105.2 c := (ef2_X5_passed _ _ (by omega))
      rw [eM107] at q
      exact q
    by_cases c109 : r106 = 0
    · skip
      obtain ⟨r110, M111, eM111⟩ : ∃ y z, et_X5_passed M107 (44 : Int32) = (y, z) := ⟨_, _, rfl⟩
      have fM111 : M111.2 c = M107.2 c := by
        have q : (et_X5_passed M107 (44 : Int32)).2.2 c = M107.2 c := (ef2_X5_passed _ _ (by omega))
        rw [eM111] at q
        exact q
      by_cases c113 : r110 = 0
      · skip
        rw [show et_X5_list_15_2 E within M x2 x3 = ((-1 : Int32), M111) from by simp only [et_X5_list_15_2, eM102, if_pos c104, eM105, eM107, if_pos c109, eM111, if_pos c113]]
        show M111.2 c = M.2 c
        exact (fM111).trans ((fM107).trans ((fM105).trans (fM102)))
      · skip
        obtain ⟨r114, M115, eM115⟩ : ∃ y z, et_X2_add M111 (14 : Int32) (0 : Int32) = (y, z) := ⟨_, _, rfl⟩
        have fM115 : M115.2 c = M111.2 c := by
          have q : (et_X2_add M111 (14 : Int32) (0 : Int32)).2.2 c = M111.2 c := (ef2_X2_add _ _ _ (by omega))
          rw [eM115] at q
          exact q
        obtain ⟨M117, eM117⟩ : ∃ z, et_X2_link M115 x3 (1 : Int32) r114 = z := ⟨_, rfl⟩
        have fM117 : M117.2 c = M115.2 c := by rw [← eM117]; exact (ef2_X2_link _ _ _ _ (by omega))
        rw [show et_X5_list_15_2 E within M x2 x3 = et_X5_list_15_3 E within M117 x2 r114 from by simp only [et_X5_list_15_2, eM102, if_pos c104, eM105, eM107, if_pos c109, eM111, if_neg c113, eM115, eM117]]
        exact ((ef2_X5_list_15_3 _ _ _ _ _ (by omega) hE)).trans ((fM117).trans ((fM115).trans ((fM111).trans ((fM107).trans ((fM105).trans (fM102))))))
    · skip
      rw [show et_X5_list_15_2 E within M x2 x3 = (x2, M107) from by simp only [et_X5_list_15_2, eM102, if_pos c104, eM105, eM107, if_neg c109]]
      show M107.2 c = M.2 c
      exact (fM107).trans ((fM105).trans (fM102))
  · skip
    rw [show et_X5_list_15_2 E within M x2 x3 = ((-1 : Int32), M102) from by simp only [et_X5_list_15_2, eM102, if_neg c104]]
    show M102.2 c = M.2 c
    exact fM102
theorem ef1_X5_list_15_1 (E : em_M → Int32 → Int32 × em_M) (within : Int32) (M : em_M) (x2 : Int32) (x3 : Int32) {c : Nat} (h : c < 1 ∨ 10 < c) (hE : ∀ (M : em_M) (x : Int32), (E M x).2.1 c = M.1 c) : (et_X5_list_15_1 E within M x2 x3).2.1 c = M.1 c := by
  obtain ⟨r84, M85, eM85⟩ : ∃ y z, E M within = (y, z) := ⟨_, _, rfl⟩
  have fM85 : M85.1 c = M.1 c := by
    have q : (E M within).2.1 c = M.1 c := hE _ _
    rw [eM85] at q
    exact q
  by_cases c87 : 0 ≤ r84
  · skip
    obtain ⟨M88, eM88⟩ : ∃ z, et_X2_link M85 x3 (0 : Int32) r84 = z := ⟨_, rfl⟩
    have fM88 : M88.1 c = M85.1 c := by rw [← eM88]; exact (ef1_X2_link _ _ _ _ (by omega))
    obtain ⟨r89, M90, eM90⟩ : ∃ y z, et_X5_passed M88 (93 : Int32) = (y, z) := ⟨_, _, rfl⟩
    have fM90 : M90.1 c = M88.1 c := by
      have q : (et_X5_passed M88 (93 : Int32)).2.1 c = M88.1 c := (ef1_X5_passed _ _ (by omega))
      rw [eM90] at q
      exact q
    by_cases c92 : r89 = 0
    · skip
      obtain ⟨r93, M94, eM94⟩ : ∃ y z, et_X5_passed M90 (44 : Int32) = (y, z) := ⟨_, _, rfl⟩
      have fM94 : M94.1 c = M90.1 c := by
        have q : (et_X5_passed M90 (44 : Int32)).2.1 c = M90.1 c := (ef1_X5_passed _ _ (by omega))
        rw [eM94] at q
        exact q
      by_cases c96 : r93 = 0
      · skip
        rw [show et_X5_list_15_1 E within M x2 x3 = ((-1 : Int32), M94) from by simp only [et_X5_list_15_1, eM85, if_pos c87, eM88, eM90, if_pos c92, eM94, if_pos c96]]
        show M94.1 c = M.1 c
        exact (fM94).trans ((fM90).trans ((fM88).trans (fM85)))
      · skip
        obtain ⟨r97, M98, eM98⟩ : ∃ y z, et_X2_add M94 (14 : Int32) (0 : Int32) = (y, z) := ⟨_, _, rfl⟩
        have fM98 : M98.1 c = M94.1 c := by
          have q : (et_X2_add M94 (14 : Int32) (0 : Int32)).2.1 c = M94.1 c := (ef1_X2_add _ _ _ (by omega))
          rw [eM98] at q
          exact q
        obtain ⟨M100, eM100⟩ : ∃ z, et_X2_link M98 x3 (1 : Int32) r97 = z := ⟨_, rfl⟩
        have fM100 : M100.1 c = M98.1 c := by rw [← eM100]; exact (ef1_X2_link _ _ _ _ (by omega))
        rw [show et_X5_list_15_1 E within M x2 x3 = et_X5_list_15_2 E within M100 x2 r97 from by simp only [et_X5_list_15_1, eM85, if_pos c87, eM88, eM90, if_pos c92, eM94, if_neg c96, eM98, eM100]]
        exact ((ef1_X5_list_15_2 _ _ _ _ _ (by omega) hE)).trans ((fM100).trans ((fM98).trans ((fM94).trans ((fM90).trans ((fM88).trans (fM85))))))
    · skip
      rw [show et_X5_list_15_1 E within M x2 x3 = (x2, M90) from by simp only [et_X5_list_15_1, eM85, if_pos c87, eM88, eM90, if_neg c92]]
      show M90.1 c = M.1 c
      exact (fM90).trans ((fM88).trans (fM85))
  · skip
    rw [show et_X5_list_15_1 E within M x2 x3 = ((-1 : Int32), M85) from by simp only [et_X5_list_15_1, eM85, if_neg c87]]
    show M85.1 c = M.1 c
    exact fM85
theorem ef2_X5_list_15_1 (E : em_M → Int32 → Int32 × em_M) (within : Int32) (M : em_M) (x2 : Int32) (x3 : Int32) {c : Nat} (h : c < 1 ∨ 10 < c) (hE : ∀ (M : em_M) (x : Int32), (E M x).2.2 c = M.2 c) : (et_X5_list_15_1 E within M x2 x3).2.2 c = M.2 c := by
  obtain ⟨r84, M85, eM85⟩ : ∃ y z, E M within = (y, z) := ⟨_, _, rfl⟩
  have fM85 : M85.2 c = M.2 c := by
    have q : (E M within).2.2 c = M.2 c := hE _ _
    rw [eM85] at q
    exact q
  by_cases c87 : 0 ≤ r84
  · skip
    obtain ⟨M88, eM88⟩ : ∃ z, et_X2_link M85 x3 (0 : Int32) r84 = z := ⟨_, rfl⟩
    have fM88 : M88.2 c = M85.2 c := by rw [← eM88]; exact (ef2_X2_link _ _ _ _ (by omega))
    obtain ⟨r89, M90, eM90⟩ : ∃ y z, et_X5_passed M88 (93 : Int32) = (y, z) := ⟨_, _, rfl⟩
    have fM90 : M90.2 c = M88.2 c := by
      have q : (et_X5_passed M88 (93 : Int32)).2.2 c = M88.2 c := (ef2_X5_passed _ _ (by omega))
      rw [eM90] at q
      exact q
    by_cases c92 : r89 = 0
    · skip
      obtain ⟨r93, M94, eM94⟩ : ∃ y z, et_X5_passed M90 (44 : Int32) = (y, z) := ⟨_, _, rfl⟩
      have fM94 : M94.2 c = M90.2 c := by
        have q : (et_X5_passed M90 (44 : Int32)).2.2 c = M90.2 c := (ef2_X5_passed _ _ (by omega))
        rw [eM94] at q
        exact q
      by_cases c96 : r93 = 0
      · skip
        rw [show et_X5_list_15_1 E within M x2 x3 = ((-1 : Int32), M94) from by simp only [et_X5_list_15_1, eM85, if_pos c87, eM88, eM90, if_pos c92, eM94, if_pos c96]]
        show M94.2 c = M.2 c
        exact (fM94).trans ((fM90).trans ((fM88).trans (fM85)))
      · skip
        obtain ⟨r97, M98, eM98⟩ : ∃ y z, et_X2_add M94 (14 : Int32) (0 : Int32) = (y, z) := ⟨_, _, rfl⟩
        have fM98 : M98.2 c = M94.2 c := by
          have q : (et_X2_add M94 (14 : Int32) (0 : Int32)).2.2 c = M94.2 c := (ef2_X2_add _ _ _ (by omega))
          rw [eM98] at q
          exact q
        obtain ⟨M100, eM100⟩ : ∃ z, et_X2_link M98 x3 (1 : Int32) r97 = z := ⟨_, rfl⟩
        have fM100 : M100.2 c = M98.2 c := by rw [← eM100]; exact (ef2_X2_link _ _ _ _ (by omega))
        rw [show et_X5_list_15_1 E within M x2 x3 = et_X5_list_15_2 E within M100 x2 r97 from by simp only [et_X5_list_15_1, eM85, if_pos c87, eM88, eM90, if_pos c92, eM94, if_neg c96, eM98, eM100]]
        exact ((ef2_X5_list_15_2 _ _ _ _ _ (by omega) hE)).trans ((fM100).trans ((fM98).trans ((fM94).trans ((fM90).trans ((fM88).trans (fM85))))))
    · skip
      rw [show et_X5_list_15_1 E within M x2 x3 = (x2, M90) from by simp only [et_X5_list_15_1, eM85, if_pos c87, eM88, eM90, if_neg c92]]
      show M90.2 c = M.2 c
      exact (fM90).trans ((fM88).trans (fM85))
  · skip
    rw [show et_X5_list_15_1 E within M x2 x3 = ((-1 : Int32), M85) from by simp only [et_X5_list_15_1, eM85, if_neg c87]]
    show M85.2 c = M.2 c
    exact fM85
theorem ef1_X5_list (E : em_M → Int32 → Int32 × em_M) (M : em_M) (within : Int32) {c : Nat} (h : c < 1 ∨ 10 < c) (hE : ∀ (M : em_M) (x : Int32), (E M x).2.1 c = M.1 c) : (et_X5_list E M within).2.1 c = M.1 c := by
  obtain ⟨r81, M82, eM82⟩ : ∃ y z, et_X2_add M (3 : Int32) (0 : Int32) = (y, z) := ⟨_, _, rfl⟩
  have fM82 : M82.1 c = M.1 c := by
    have q : (et_X2_add M (3 : Int32) (0 : Int32)).2.1 c = M.1 c := (ef1_X2_add _ _ _ (by omega))
    rw [eM82] at q
    exact q
  rw [show et_X5_list E M within = et_X5_list_15_1 E within M82 r81 r81 from by simp only [et_X5_list, eM82]]
  exact ((ef1_X5_list_15_1 _ _ _ _ _ (by omega) hE)).trans (fM82)
theorem ef2_X5_list (E : em_M → Int32 → Int32 × em_M) (M : em_M) (within : Int32) {c : Nat} (h : c < 1 ∨ 10 < c) (hE : ∀ (M : em_M) (x : Int32), (E M x).2.2 c = M.2 c) : (et_X5_list E M within).2.2 c = M.2 c := by
  obtain ⟨r81, M82, eM82⟩ : ∃ y z, et_X2_add M (3 : Int32) (0 : Int32) = (y, z) := ⟨_, _, rfl⟩
  have fM82 : M82.2 c = M.2 c := by
    have q : (et_X2_add M (3 : Int32) (0 : Int32)).2.2 c = M.2 c := (ef2_X2_add _ _ _ (by omega))
    rw [eM82] at q
    exact q
  rw [show et_X5_list E M within = et_X5_list_15_1 E within M82 r81 r81 from by simp only [et_X5_list, eM82]]
  exact ((ef2_X5_list_15_1 _ _ _ _ _ (by omega) hE)).trans (fM82)
theorem ef1_X5_exprB (E : em_M → Int32 → Int32 × em_M) (M : em_M) (within : Int32) {c : Nat} (h : c < 1 ∨ 10 < c) (hE : ∀ (M : em_M) (x : Int32), (E M x).2.1 c = M.1 c) : (et_X5_exprB E M within).2.1 c = M.1 c := by
  obtain ⟨r84, er84⟩ : ∃ z, et_X5_sign M = z := ⟨_, rfl⟩
  obtain ⟨r85, er85⟩ : ∃ z, et_X5_isDigit M r84 = z := ⟨_, rfl⟩
  by_cases c86 : r85 = 0
  · skip
    obtain ⟨r87, er87⟩ : ∃ z, et_X5_isLetter M r84 = z := ⟨_, rfl⟩
    by_cases c88 : r87 = 0
    · skip
      by_cases c89 : (7 : Int32) ≤ within
      · skip
        rw [show et_X5_exprB E M within = ((-1 : Int32), M) from by simp only [et_X5_exprB, er84, er85, if_pos c86, er87, if_pos c88, if_pos c89]]
        all_goals rfl
      · skip
        obtain ⟨r90, er90⟩ : ∃ z, et_X5_kindBy M r84 = z := ⟨_, rfl⟩
        by_cases c91 : 0 ≤ r90
        · skip
          obtain ⟨M92, eM92⟩ : ∃ z, em_pI M 9 1 ((M.1 9 1) + (1 : Int32)) = z := ⟨_, rfl⟩
          have fM92 : M92.1 c = M.1 c := by rw [← eM92]; exact ef_pI' _ _ _ _ (by omega)
          by_cases c93 : r90 = (3 : Int32)
          · skip
            obtain ⟨r157, M158, eM158⟩ : ∃ y z, et_X5_list E M92 (within + (1 : Int32)) = (y, z) := ⟨_, _, rfl⟩
            have fM158 : M158.1 c = M92.1 c := by
              have q : (et_X5_list E M92 (within + (1 : Int32))).2.1 c = M92.1 c := (ef1_X5_list _ _ _ (by omega) hE)
              rw [eM158] at q
              exact q
            rw [show et_X5_exprB E M within = (r157, M158) from by simp only [et_X5_exprB, er84, er85, if_pos c86, er87, if_pos c88, if_neg c89, er90, if_pos c91, eM92, if_pos c93, eM158]]
            show M158.1 c = M.1 c
            exact (fM158).trans (fM92)
          · skip
            by_cases c94 : r90 = (4 : Int32)
            · skip
              obtain ⟨r150, M151, eM151⟩ : ∃ y z, et_X2_add M92 r90 (r84 - (70 : Int32)) = (y, z) := ⟨_, _, rfl⟩
              have fM151 : M151.1 c = M92.1 c := by
                have q : (et_X2_add M92 r90 (r84 - (70 : Int32))).2.1 c = M92.1 c := (ef1_X2_add _ _ _ (by omega))
                rw [eM151] at q
                exact q
              obtain ⟨r153, er153⟩ : ∃ z, et_X5_howMany M151 r90 = z := ⟨_, rfl⟩
              obtain ⟨r154, M155, eM155⟩ : ∃ y z, et_X5_parts E M151 r150 r153 (within + (1 : Int32)) = (y, z) := ⟨_, _, rfl⟩
              have fM155 : M155.1 c = M151.1 c := by
                have q : (et_X5_parts E M151 r150 r153 (within + (1 : Int32))).2.1 c = M151.1 c := (ef1_X5_parts _ _ _ _ _ (by omega) hE)
                rw [eM155] at q
                exact q
              rw [show et_X5_exprB E M within = (r154, M155) from by simp only [et_X5_exprB, er84, er85, if_pos c86, er87, if_pos c88, if_neg c89, er90, if_pos c91, eM92, if_neg c93, if_pos c94, eM151, er153, eM155]]
              show M155.1 c = M.1 c
              exact (fM155).trans ((fM151).trans (fM92))
            · skip
              by_cases c95 : r90 = (2 : Int32)
              · skip
                obtain ⟨r96, er96⟩ : ∃ z, et_X5_sign M92 = z := ⟨_, rfl⟩
                obtain ⟨r97, er97⟩ : ∃ z, et_X5_isLetter M92 r96 = z := ⟨_, rfl⟩
                by_cases c98 : r97 = 0
                · skip
                  rw [show et_X5_exprB E M within = ((-1 : Int32), M92) from by simp only [et_X5_exprB, er84, er85, if_pos c86, er87, if_pos c88, if_neg c89, er90, if_pos c91, eM92, if_neg c93, if_neg c94, if_pos c95, er96, er97, if_pos c98]]
                  show M92.1 c = M.1 c
                  exact fM92
                · skip
                  obtain ⟨M99, eM99⟩ : ∃ z, em_pI M92 9 1 ((M92.1 9 1) + (1 : Int32)) = z := ⟨_, rfl⟩
                  have fM99 : M99.1 c = M92.1 c := by rw [← eM99]; exact ef_pI' _ _ _ _ (by omega)
                  obtain ⟨r100, M101, eM101⟩ : ∃ y z, et_X2_add M99 r90 (r96 - (97 : Int32)) = (y, z) := ⟨_, _, rfl⟩
                  have fM101 : M101.1 c = M99.1 c := by
                    have q : (et_X2_add M99 r90 (r96 - (97 : Int32))).2.1 c = M99.1 c := (ef1_X2_add _ _ _ (by omega))
                    rw [eM101] at q
                    exact q
                  obtain ⟨r103, er103⟩ : ∃ z, et_X5_howMany M101 r90 = z := ⟨_, rfl⟩
                  obtain ⟨r104, M105, eM105⟩ : ∃ y z, et_X5_parts E M101 r100 r103 (within + (1 : Int32)) = (y, z) := ⟨_, _, rfl⟩
                  have fM105 : M105.1 c = M101.1 c := by
                    have q : (et_X5_parts E M101 r100 r103 (within + (1 : Int32))).2.1 c = M101.1 c := (ef1_X5_parts _ _ _ _ _ (by omega) hE)
                    rw [eM105] at q
                    exact q
                  rw [show et_X5_exprB E M within = (r104, M105) from by simp only [et_X5_exprB, er84, er85, if_pos c86, er87, if_pos c88, if_neg c89, er90, if_pos c91, eM92, if_neg c93, if_neg c94, if_pos c95, er96, er97, if_neg c98, eM99, eM101, er103, eM105]]
                  show M105.1 c = M.1 c
                  exact (fM105).trans ((fM101).trans ((fM99).trans (fM92)))
              · skip
                by_cases c107 : r90 = (13 : Int32)
                · skip
                  obtain ⟨r108, er108⟩ : ∃ z, et_X5_sign M92 = z := ⟨_, rfl⟩
                  obtain ⟨r109, er109⟩ : ∃ z, et_X5_isLetter M92 r108 = z := ⟨_, rfl⟩
                  by_cases c110 : r109 = 0
                  · skip
                    rw [show et_X5_exprB E M within = ((-1 : Int32), M92) from by simp only [et_X5_exprB, er84, er85, if_pos c86, er87, if_pos c88, if_neg c89, er90, if_pos c91, eM92, if_neg c93, if_neg c94, if_neg c95, if_pos c107, er108, er109, if_pos c110]]
                    show M92.1 c = M.1 c
                    exact fM92
                  · skip
                    obtain ⟨M111, eM111⟩ : ∃ z, em_pI M92 9 1 ((M92.1 9 1) + (1 : Int32)) = z := ⟨_, rfl⟩
                    have fM111 : M111.1 c = M92.1 c := by rw [← eM111]; exact ef_pI' _ _ _ _ (by omega)
                    obtain ⟨r112, M113, eM113⟩ : ∃ y z, et_X2_add M111 r90 (r108 - (97 : Int32)) = (y, z) := ⟨_, _, rfl⟩
                    have fM113 : M113.1 c = M111.1 c := by
                      have q : (et_X2_add M111 r90 (r108 - (97 : Int32))).2.1 c = M111.1 c := (ef1_X2_add _ _ _ (by omega))
                      rw [eM113] at q
                      exact q
                    obtain ⟨r115, er115⟩ : ∃ z, et_X5_howMany M113 r90 = z := ⟨_, rfl⟩
                    obtain ⟨r116, M117, eM117⟩ : ∃ y z, et_X5_parts E M113 r112 r115 (within + (1 : Int32)) = (y, z) := ⟨_, _, rfl⟩
                    have fM117 : M117.1 c = M113.1 c := by
                      have q : (et_X5_parts E M113 r112 r115 (within + (1 : Int32))).2.1 c = M113.1 c := (ef1_X5_parts _ _ _ _ _ (by omega) hE)
                      rw [eM117] at q
                      exact q
                    rw [show et_X5_exprB E M within = (r116, M117) from by simp only [et_X5_exprB, er84, er85, if_pos c86, er87, if_pos c88, if_neg c89, er90, if_pos c91, eM92, if_neg c93, if_neg c94, if_neg c95, if_pos c107, er108, er109, if_neg c110, eM111, eM113, er115, eM117]]
                    show M117.1 c = M.1 c
                    exact (fM117).trans ((fM113).trans ((fM111).trans (fM92)))
                · skip
                  by_cases c119 : r90 = (5 : Int32)
                  · skip
                    obtain ⟨r120, er120⟩ : ∃ z, et_X5_sign M92 = z := ⟨_, rfl⟩
                    obtain ⟨r121, er121⟩ : ∃ z, et_X5_isLetter M92 r120 = z := ⟨_, rfl⟩
                    by_cases c122 : r121 = 0
                    · skip
                      rw [show et_X5_exprB E M within = ((-1 : Int32), M92) from by simp only [et_X5_exprB, er84, er85, if_pos c86, er87, if_pos c88, if_neg c89, er90, if_pos c91, eM92, if_neg c93, if_neg c94, if_neg c95, if_neg c107, if_pos c119, er120, er121, if_pos c122]]
                      show M92.1 c = M.1 c
                      exact fM92
                    · skip
                      obtain ⟨M123, eM123⟩ : ∃ z, em_pI M92 9 1 ((M92.1 9 1) + (1 : Int32)) = z := ⟨_, rfl⟩
                      have fM123 : M123.1 c = M92.1 c := by rw [← eM123]; exact ef_pI' _ _ _ _ (by omega)
                      obtain ⟨r124, M125, eM125⟩ : ∃ y z, et_X2_add M123 r90 (r120 - (97 : Int32)) = (y, z) := ⟨_, _, rfl⟩
                      have fM125 : M125.1 c = M123.1 c := by
                        have q : (et_X2_add M123 r90 (r120 - (97 : Int32))).2.1 c = M123.1 c := (ef1_X2_add _ _ _ (by omega))
                        rw [eM125] at q
                        exact q
                      obtain ⟨r127, er127⟩ : ∃ z, et_X5_howMany M125 r90 = z := ⟨_, rfl⟩
                      obtain ⟨r128, M129, eM129⟩ : ∃ y z, et_X5_parts E M125 r124 r127 (within + (1 : Int32)) = (y, z) := ⟨_, _, rfl⟩
                      have fM129 : M129.1 c = M125.1 c := by
                        have q : (et_X5_parts E M125 r124 r127 (within + (1 : Int32))).2.1 c = M125.1 c := (ef1_X5_parts _ _ _ _ _ (by omega) hE)
                        rw [eM129] at q
                        exact q
                      rw [show et_X5_exprB E M within = (r128, M129) from by simp only [et_X5_exprB, er84, er85, if_pos c86, er87, if_pos c88, if_neg c89, er90, if_pos c91, eM92, if_neg c93, if_neg c94, if_neg c95, if_neg c107, if_pos c119, er120, er121, if_neg c122, eM123, eM125, er127, eM129]]
                      show M129.1 c = M.1 c
                      exact (fM129).trans ((fM125).trans ((fM123).trans (fM92)))
                  · skip
                    by_cases c131 : r90 = (7 : Int32)
                    · skip
                      obtain ⟨r139, er139⟩ : ∃ z, et_X5_sign M92 = z := ⟨_, rfl⟩
                      obtain ⟨r140, er140⟩ : ∃ z, et_X5_isLetter M92 r139 = z := ⟨_, rfl⟩
                      by_cases c141 : r140 = 0
                      · skip
                        rw [show et_X5_exprB E M within = ((-1 : Int32), M92) from by simp only [et_X5_exprB, er84, er85, if_pos c86, er87, if_pos c88, if_neg c89, er90, if_pos c91, eM92, if_neg c93, if_neg c94, if_neg c95, if_neg c107, if_neg c119, if_pos c131, er139, er140, if_pos c141]]
                        show M92.1 c = M.1 c
                        exact fM92
                      · skip
                        obtain ⟨M142, eM142⟩ : ∃ z, em_pI M92 9 1 ((M92.1 9 1) + (1 : Int32)) = z := ⟨_, rfl⟩
                        have fM142 : M142.1 c = M92.1 c := by rw [← eM142]; exact ef_pI' _ _ _ _ (by omega)
                        obtain ⟨r143, M144, eM144⟩ : ∃ y z, et_X2_add M142 r90 (r139 - (97 : Int32)) = (y, z) := ⟨_, _, rfl⟩
                        have fM144 : M144.1 c = M142.1 c := by
                          have q : (et_X2_add M142 r90 (r139 - (97 : Int32))).2.1 c = M142.1 c := (ef1_X2_add _ _ _ (by omega))
                          rw [eM144] at q
                          exact q
                        obtain ⟨r146, er146⟩ : ∃ z, et_X5_howMany M144 r90 = z := ⟨_, rfl⟩
                        obtain ⟨r147, M148, eM148⟩ : ∃ y z, et_X5_parts E M144 r143 r146 (within + (1 : Int32)) = (y, z) := ⟨_, _, rfl⟩
                        have fM148 : M148.1 c = M144.1 c := by
                          have q : (et_X5_parts E M144 r143 r146 (within + (1 : Int32))).2.1 c = M144.1 c := (ef1_X5_parts _ _ _ _ _ (by omega) hE)
                          rw [eM148] at q
                          exact q
                        rw [show et_X5_exprB E M within = (r147, M148) from by simp only [et_X5_exprB, er84, er85, if_pos c86, er87, if_pos c88, if_neg c89, er90, if_pos c91, eM92, if_neg c93, if_neg c94, if_neg c95, if_neg c107, if_neg c119, if_pos c131, er139, er140, if_neg c141, eM142, eM144, er146, eM148]]
                        show M148.1 c = M.1 c
                        exact (fM148).trans ((fM144).trans ((fM142).trans (fM92)))
                    · skip
                      obtain ⟨r132, M133, eM133⟩ : ∃ y z, et_X2_add M92 r90 r84 = (y, z) := ⟨_, _, rfl⟩
                      have fM133 : M133.1 c = M92.1 c := by
                        have q : (et_X2_add M92 r90 r84).2.1 c = M92.1 c := (ef1_X2_add _ _ _ (by omega))
                        rw [eM133] at q
                        exact q
                      obtain ⟨r135, er135⟩ : ∃ z, et_X5_howMany M133 r90 = z := ⟨_, rfl⟩
                      obtain ⟨r136, M137, eM137⟩ : ∃ y z, et_X5_parts E M133 r132 r135 (within + (1 : Int32)) = (y, z) := ⟨_, _, rfl⟩
                      have fM137 : M137.1 c = M133.1 c := by
                        have q : (et_X5_parts E M133 r132 r135 (within + (1 : Int32))).2.1 c = M133.1 c := (ef1_X5_parts _ _ _ _ _ (by omega) hE)
                        rw [eM137] at q
                        exact q
                      rw [show et_X5_exprB E M within = (r136, M137) from by simp only [et_X5_exprB, er84, er85, if_pos c86, er87, if_pos c88, if_neg c89, er90, if_pos c91, eM92, if_neg c93, if_neg c94, if_neg c95, if_neg c107, if_neg c119, if_neg c131, eM133, er135, eM137]]
                      show M137.1 c = M.1 c
                      exact (fM137).trans ((fM133).trans (fM92))
        · skip
          rw [show et_X5_exprB E M within = ((-1 : Int32), M) from by simp only [et_X5_exprB, er84, er85, if_pos c86, er87, if_pos c88, if_neg c89, er90, if_neg c91]]
          all_goals rfl
    · skip
      obtain ⟨M160, eM160⟩ : ∃ z, em_pI M 9 1 ((M.1 9 1) + (1 : Int32)) = z := ⟨_, rfl⟩
      have fM160 : M160.1 c = M.1 c := by rw [← eM160]; exact ef_pI' _ _ _ _ (by omega)
      obtain ⟨r161, M162, eM162⟩ : ∃ y z, et_X2_add M160 (12 : Int32) (r84 - (97 : Int32)) = (y, z) := ⟨_, _, rfl⟩
      have fM162 : M162.1 c = M160.1 c := by
        have q : (et_X2_add M160 (12 : Int32) (r84 - (97 : Int32))).2.1 c = M160.1 c := (ef1_X2_add _ _ _ (by omega))
        rw [eM162] at q
        exact q
      rw [show et_X5_exprB E M within = (r161, M162) from by simp only [et_X5_exprB, er84, er85, if_pos c86, er87, if_neg c88, eM160, eM162]]
      show M162.1 c = M.1 c
      exact (fM162).trans (fM160)
  · skip
    obtain ⟨r164, M165, eM165⟩ : ∃ y z, et_X5_digits M = (y, z) := ⟨_, _, rfl⟩
    have fM165 : M165.1 c = M.1 c := by
      have q : (et_X5_digits M).2.1 c = M.1 c := (ef1_X5_digits _ (by omega))
      rw [eM165] at q
      exact q
    rw [show et_X5_exprB E M within = (r164, M165) from by simp only [et_X5_exprB, er84, er85, if_neg c86, eM165]]
    show M165.1 c = M.1 c
    exact fM165
theorem ef2_X5_exprB (E : em_M → Int32 → Int32 × em_M) (M : em_M) (within : Int32) {c : Nat} (h : c < 1 ∨ 10 < c) (hE : ∀ (M : em_M) (x : Int32), (E M x).2.2 c = M.2 c) : (et_X5_exprB E M within).2.2 c = M.2 c := by
  obtain ⟨r84, er84⟩ : ∃ z, et_X5_sign M = z := ⟨_, rfl⟩
  obtain ⟨r85, er85⟩ : ∃ z, et_X5_isDigit M r84 = z := ⟨_, rfl⟩
  by_cases c86 : r85 = 0
  · skip
    obtain ⟨r87, er87⟩ : ∃ z, et_X5_isLetter M r84 = z := ⟨_, rfl⟩
    by_cases c88 : r87 = 0
    · skip
      by_cases c89 : (7 : Int32) ≤ within
      · skip
        rw [show et_X5_exprB E M within = ((-1 : Int32), M) from by simp only [et_X5_exprB, er84, er85, if_pos c86, er87, if_pos c88, if_pos c89]]
        all_goals rfl
      · skip
        obtain ⟨r90, er90⟩ : ∃ z, et_X5_kindBy M r84 = z := ⟨_, rfl⟩
        by_cases c91 : 0 ≤ r90
        · skip
          obtain ⟨M92, eM92⟩ : ∃ z, em_pI M 9 1 ((M.1 9 1) + (1 : Int32)) = z := ⟨_, rfl⟩
          have fM92 : M92.2 c = M.2 c := by rw [← eM92]; exact rfl
          by_cases c93 : r90 = (3 : Int32)
          · skip
            obtain ⟨r157, M158, eM158⟩ : ∃ y z, et_X5_list E M92 (within + (1 : Int32)) = (y, z) := ⟨_, _, rfl⟩
            have fM158 : M158.2 c = M92.2 c := by
              have q : (et_X5_list E M92 (within + (1 : Int32))).2.2 c = M92.2 c := (ef2_X5_list _ _ _ (by omega) hE)
              rw [eM158] at q
              exact q
            rw [show et_X5_exprB E M within = (r157, M158) from by simp only [et_X5_exprB, er84, er85, if_pos c86, er87, if_pos c88, if_neg c89, er90, if_pos c91, eM92, if_pos c93, eM158]]
            show M158.2 c = M.2 c
            exact (fM158).trans (fM92)
          · skip
            by_cases c94 : r90 = (4 : Int32)
            · skip
              obtain ⟨r150, M151, eM151⟩ : ∃ y z, et_X2_add M92 r90 (r84 - (70 : Int32)) = (y, z) := ⟨_, _, rfl⟩
              have fM151 : M151.2 c = M92.2 c := by
                have q : (et_X2_add M92 r90 (r84 - (70 : Int32))).2.2 c = M92.2 c := (ef2_X2_add _ _ _ (by omega))
                rw [eM151] at q
                exact q
              obtain ⟨r153, er153⟩ : ∃ z, et_X5_howMany M151 r90 = z := ⟨_, rfl⟩
              obtain ⟨r154, M155, eM155⟩ : ∃ y z, et_X5_parts E M151 r150 r153 (within + (1 : Int32)) = (y, z) := ⟨_, _, rfl⟩
              have fM155 : M155.2 c = M151.2 c := by
                have q : (et_X5_parts E M151 r150 r153 (within + (1 : Int32))).2.2 c = M151.2 c := (ef2_X5_parts _ _ _ _ _ (by omega) hE)
                rw [eM155] at q
                exact q
              rw [show et_X5_exprB E M within = (r154, M155) from by simp only [et_X5_exprB, er84, er85, if_pos c86, er87, if_pos c88, if_neg c89, er90, if_pos c91, eM92, if_neg c93, if_pos c94, eM151, er153, eM155]]
              show M155.2 c = M.2 c
              exact (fM155).trans ((fM151).trans (fM92))
            · skip
              by_cases c95 : r90 = (2 : Int32)
              · skip
                obtain ⟨r96, er96⟩ : ∃ z, et_X5_sign M92 = z := ⟨_, rfl⟩
                obtain ⟨r97, er97⟩ : ∃ z, et_X5_isLetter M92 r96 = z := ⟨_, rfl⟩
                by_cases c98 : r97 = 0
                · skip
                  rw [show et_X5_exprB E M within = ((-1 : Int32), M92) from by simp only [et_X5_exprB, er84, er85, if_pos c86, er87, if_pos c88, if_neg c89, er90, if_pos c91, eM92, if_neg c93, if_neg c94, if_pos c95, er96, er97, if_pos c98]]
                  show M92.2 c = M.2 c
                  exact fM92
                · skip
                  obtain ⟨M99, eM99⟩ : ∃ z, em_pI M92 9 1 ((M92.1 9 1) + (1 : Int32)) = z := ⟨_, rfl⟩
                  have fM99 : M99.2 c = M92.2 c := by rw [← eM99]; exact rfl
                  obtain ⟨r100, M101, eM101⟩ : ∃ y z, et_X2_add M99 r90 (r96 - (97 : Int32)) = (y, z) := ⟨_, _, rfl⟩
                  have fM101 : M101.2 c = M99.2 c := by
                    have q : (et_X2_add M99 r90 (r96 - (97 : Int32))).2.2 c = M99.2 c := (ef2_X2_add _ _ _ (by omega))
                    rw [eM101] at q
                    exact q
                  obtain ⟨r103, er103⟩ : ∃ z, et_X5_howMany M101 r90 = z := ⟨_, rfl⟩
                  obtain ⟨r104, M105, eM105⟩ : ∃ y z, et_X5_parts E M101 r100 r103 (within + (1 : Int32)) = (y, z) := ⟨_, _, rfl⟩
                  have fM105 : M105.2 c = M101.2 c := by
                    have q : (et_X5_parts E M101 r100 r103 (within + (1 : Int32))).2.2 c = M101.2 c := (ef2_X5_parts _ _ _ _ _ (by omega) hE)
                    rw [eM105] at q
                    exact q
                  rw [show et_X5_exprB E M within = (r104, M105) from by simp only [et_X5_exprB, er84, er85, if_pos c86, er87, if_pos c88, if_neg c89, er90, if_pos c91, eM92, if_neg c93, if_neg c94, if_pos c95, er96, er97, if_neg c98, eM99, eM101, er103, eM105]]
                  show M105.2 c = M.2 c
                  exact (fM105).trans ((fM101).trans ((fM99).trans (fM92)))
              · skip
                by_cases c107 : r90 = (13 : Int32)
                · skip
                  obtain ⟨r108, er108⟩ : ∃ z, et_X5_sign M92 = z := ⟨_, rfl⟩
                  obtain ⟨r109, er109⟩ : ∃ z, et_X5_isLetter M92 r108 = z := ⟨_, rfl⟩
                  by_cases c110 : r109 = 0
                  · skip
                    rw [show et_X5_exprB E M within = ((-1 : Int32), M92) from by simp only [et_X5_exprB, er84, er85, if_pos c86, er87, if_pos c88, if_neg c89, er90, if_pos c91, eM92, if_neg c93, if_neg c94, if_neg c95, if_pos c107, er108, er109, if_pos c110]]
                    show M92.2 c = M.2 c
                    exact fM92
                  · skip
                    obtain ⟨M111, eM111⟩ : ∃ z, em_pI M92 9 1 ((M92.1 9 1) + (1 : Int32)) = z := ⟨_, rfl⟩
                    have fM111 : M111.2 c = M92.2 c := by rw [← eM111]; exact rfl
                    obtain ⟨r112, M113, eM113⟩ : ∃ y z, et_X2_add M111 r90 (r108 - (97 : Int32)) = (y, z) := ⟨_, _, rfl⟩
                    have fM113 : M113.2 c = M111.2 c := by
                      have q : (et_X2_add M111 r90 (r108 - (97 : Int32))).2.2 c = M111.2 c := (ef2_X2_add _ _ _ (by omega))
                      rw [eM113] at q
                      exact q
                    obtain ⟨r115, er115⟩ : ∃ z, et_X5_howMany M113 r90 = z := ⟨_, rfl⟩
                    obtain ⟨r116, M117, eM117⟩ : ∃ y z, et_X5_parts E M113 r112 r115 (within + (1 : Int32)) = (y, z) := ⟨_, _, rfl⟩
                    have fM117 : M117.2 c = M113.2 c := by
                      have q : (et_X5_parts E M113 r112 r115 (within + (1 : Int32))).2.2 c = M113.2 c := (ef2_X5_parts _ _ _ _ _ (by omega) hE)
                      rw [eM117] at q
                      exact q
                    rw [show et_X5_exprB E M within = (r116, M117) from by simp only [et_X5_exprB, er84, er85, if_pos c86, er87, if_pos c88, if_neg c89, er90, if_pos c91, eM92, if_neg c93, if_neg c94, if_neg c95, if_pos c107, er108, er109, if_neg c110, eM111, eM113, er115, eM117]]
                    show M117.2 c = M.2 c
                    exact (fM117).trans ((fM113).trans ((fM111).trans (fM92)))
                · skip
                  by_cases c119 : r90 = (5 : Int32)
                  · skip
                    obtain ⟨r120, er120⟩ : ∃ z, et_X5_sign M92 = z := ⟨_, rfl⟩
                    obtain ⟨r121, er121⟩ : ∃ z, et_X5_isLetter M92 r120 = z := ⟨_, rfl⟩
                    by_cases c122 : r121 = 0
                    · skip
                      rw [show et_X5_exprB E M within = ((-1 : Int32), M92) from by simp only [et_X5_exprB, er84, er85, if_pos c86, er87, if_pos c88, if_neg c89, er90, if_pos c91, eM92, if_neg c93, if_neg c94, if_neg c95, if_neg c107, if_pos c119, er120, er121, if_pos c122]]
                      show M92.2 c = M.2 c
                      exact fM92
                    · skip
                      obtain ⟨M123, eM123⟩ : ∃ z, em_pI M92 9 1 ((M92.1 9 1) + (1 : Int32)) = z := ⟨_, rfl⟩
                      have fM123 : M123.2 c = M92.2 c := by rw [← eM123]; exact rfl
                      obtain ⟨r124, M125, eM125⟩ : ∃ y z, et_X2_add M123 r90 (r120 - (97 : Int32)) = (y, z) := ⟨_, _, rfl⟩
                      have fM125 : M125.2 c = M123.2 c := by
                        have q : (et_X2_add M123 r90 (r120 - (97 : Int32))).2.2 c = M123.2 c := (ef2_X2_add _ _ _ (by omega))
                        rw [eM125] at q
                        exact q
                      obtain ⟨r127, er127⟩ : ∃ z, et_X5_howMany M125 r90 = z := ⟨_, rfl⟩
                      obtain ⟨r128, M129, eM129⟩ : ∃ y z, et_X5_parts E M125 r124 r127 (within + (1 : Int32)) = (y, z) := ⟨_, _, rfl⟩
                      have fM129 : M129.2 c = M125.2 c := by
                        have q : (et_X5_parts E M125 r124 r127 (within + (1 : Int32))).2.2 c = M125.2 c := (ef2_X5_parts _ _ _ _ _ (by omega) hE)
                        rw [eM129] at q
                        exact q
                      rw [show et_X5_exprB E M within = (r128, M129) from by simp only [et_X5_exprB, er84, er85, if_pos c86, er87, if_pos c88, if_neg c89, er90, if_pos c91, eM92, if_neg c93, if_neg c94, if_neg c95, if_neg c107, if_pos c119, er120, er121, if_neg c122, eM123, eM125, er127, eM129]]
                      show M129.2 c = M.2 c
                      exact (fM129).trans ((fM125).trans ((fM123).trans (fM92)))
                  · skip
                    by_cases c131 : r90 = (7 : Int32)
                    · skip
                      obtain ⟨r139, er139⟩ : ∃ z, et_X5_sign M92 = z := ⟨_, rfl⟩
                      obtain ⟨r140, er140⟩ : ∃ z, et_X5_isLetter M92 r139 = z := ⟨_, rfl⟩
                      by_cases c141 : r140 = 0
                      · skip
                        rw [show et_X5_exprB E M within = ((-1 : Int32), M92) from by simp only [et_X5_exprB, er84, er85, if_pos c86, er87, if_pos c88, if_neg c89, er90, if_pos c91, eM92, if_neg c93, if_neg c94, if_neg c95, if_neg c107, if_neg c119, if_pos c131, er139, er140, if_pos c141]]
                        show M92.2 c = M.2 c
                        exact fM92
                      · skip
                        obtain ⟨M142, eM142⟩ : ∃ z, em_pI M92 9 1 ((M92.1 9 1) + (1 : Int32)) = z := ⟨_, rfl⟩
                        have fM142 : M142.2 c = M92.2 c := by rw [← eM142]; exact rfl
                        obtain ⟨r143, M144, eM144⟩ : ∃ y z, et_X2_add M142 r90 (r139 - (97 : Int32)) = (y, z) := ⟨_, _, rfl⟩
                        have fM144 : M144.2 c = M142.2 c := by
                          have q : (et_X2_add M142 r90 (r139 - (97 : Int32))).2.2 c = M142.2 c := (ef2_X2_add _ _ _ (by omega))
                          rw [eM144] at q
                          exact q
                        obtain ⟨r146, er146⟩ : ∃ z, et_X5_howMany M144 r90 = z := ⟨_, rfl⟩
                        obtain ⟨r147, M148, eM148⟩ : ∃ y z, et_X5_parts E M144 r143 r146 (within + (1 : Int32)) = (y, z) := ⟨_, _, rfl⟩
                        have fM148 : M148.2 c = M144.2 c := by
                          have q : (et_X5_parts E M144 r143 r146 (within + (1 : Int32))).2.2 c = M144.2 c := (ef2_X5_parts _ _ _ _ _ (by omega) hE)
                          rw [eM148] at q
                          exact q
                        rw [show et_X5_exprB E M within = (r147, M148) from by simp only [et_X5_exprB, er84, er85, if_pos c86, er87, if_pos c88, if_neg c89, er90, if_pos c91, eM92, if_neg c93, if_neg c94, if_neg c95, if_neg c107, if_neg c119, if_pos c131, er139, er140, if_neg c141, eM142, eM144, er146, eM148]]
                        show M148.2 c = M.2 c
                        exact (fM148).trans ((fM144).trans ((fM142).trans (fM92)))
                    · skip
                      obtain ⟨r132, M133, eM133⟩ : ∃ y z, et_X2_add M92 r90 r84 = (y, z) := ⟨_, _, rfl⟩
                      have fM133 : M133.2 c = M92.2 c := by
                        have q : (et_X2_add M92 r90 r84).2.2 c = M92.2 c := (ef2_X2_add _ _ _ (by omega))
                        rw [eM133] at q
                        exact q
                      obtain ⟨r135, er135⟩ : ∃ z, et_X5_howMany M133 r90 = z := ⟨_, rfl⟩
                      obtain ⟨r136, M137, eM137⟩ : ∃ y z, et_X5_parts E M133 r132 r135 (within + (1 : Int32)) = (y, z) := ⟨_, _, rfl⟩
                      have fM137 : M137.2 c = M133.2 c := by
                        have q : (et_X5_parts E M133 r132 r135 (within + (1 : Int32))).2.2 c = M133.2 c := (ef2_X5_parts _ _ _ _ _ (by omega) hE)
                        rw [eM137] at q
                        exact q
                      rw [show et_X5_exprB E M within = (r136, M137) from by simp only [et_X5_exprB, er84, er85, if_pos c86, er87, if_pos c88, if_neg c89, er90, if_pos c91, eM92, if_neg c93, if_neg c94, if_neg c95, if_neg c107, if_neg c119, if_neg c131, eM133, er135, eM137]]
                      show M137.2 c = M.2 c
                      exact (fM137).trans ((fM133).trans (fM92))
        · skip
          rw [show et_X5_exprB E M within = ((-1 : Int32), M) from by simp only [et_X5_exprB, er84, er85, if_pos c86, er87, if_pos c88, if_neg c89, er90, if_neg c91]]
          all_goals rfl
    · skip
      obtain ⟨M160, eM160⟩ : ∃ z, em_pI M 9 1 ((M.1 9 1) + (1 : Int32)) = z := ⟨_, rfl⟩
      have fM160 : M160.2 c = M.2 c := by rw [← eM160]; exact rfl
      obtain ⟨r161, M162, eM162⟩ : ∃ y z, et_X2_add M160 (12 : Int32) (r84 - (97 : Int32)) = (y, z) := ⟨_, _, rfl⟩
      have fM162 : M162.2 c = M160.2 c := by
        have q : (et_X2_add M160 (12 : Int32) (r84 - (97 : Int32))).2.2 c = M160.2 c := (ef2_X2_add _ _ _ (by omega))
        rw [eM162] at q
        exact q
      rw [show et_X5_exprB E M within = (r161, M162) from by simp only [et_X5_exprB, er84, er85, if_pos c86, er87, if_neg c88, eM160, eM162]]
      show M162.2 c = M.2 c
      exact (fM162).trans (fM160)
  · skip
    obtain ⟨r164, M165, eM165⟩ : ∃ y z, et_X5_digits M = (y, z) := ⟨_, _, rfl⟩
    have fM165 : M165.2 c = M.2 c := by
      have q : (et_X5_digits M).2.2 c = M.2 c := (ef2_X5_digits _ (by omega))
      rw [eM165] at q
      exact q
    rw [show et_X5_exprB E M within = (r164, M165) from by simp only [et_X5_exprB, er84, er85, if_neg c86, eM165]]
    show M165.2 c = M.2 c
    exact fM165
theorem ef1_X5_expr {c : Nat} (h : c < 1 ∨ 10 < c) : ∀ (d : Nat) (M : em_M) (x : Int32), (et_X5_expr d M x).2.1 c = M.1 c := by
  intro d
  induction d with
  | zero => exact fun M x => ef1_X5_exprB (fun M _ => (0, M)) M x h (fun _ _ => rfl)
  | succ d ih => exact fun M x => ef1_X5_exprB (et_X5_expr d) M x h ih
theorem ef2_X5_expr {c : Nat} (h : c < 1 ∨ 10 < c) : ∀ (d : Nat) (M : em_M) (x : Int32), (et_X5_expr d M x).2.2 c = M.2 c := by
  intro d
  induction d with
  | zero => exact fun M x => ef2_X5_exprB (fun M _ => (0, M)) M x h (fun _ _ => rfl)
  | succ d ih => exact fun M x => ef2_X5_exprB (et_X5_expr d) M x h ih
theorem ef1_X5_take  (M : em_M) {c : Nat} (h : c < 1 ∨ 10 < c) : (et_X5_take M).2.1 c = M.1 c := by
  obtain ⟨M15, eM15⟩ : ∃ z, em_pI M 9 1 (0 : Int32) = z := ⟨_, rfl⟩
  have fM15 : M15.1 c = M.1 c := by rw [← eM15]; exact ef_pI' _ _ _ _ (by omega)
  obtain ⟨r16, M17, eM17⟩ : ∃ y z, et_X5_expr 7 M15 (0 : Int32) = (y, z) := ⟨_, _, rfl⟩
  have fM17 : M17.1 c = M15.1 c := by
    have q : (et_X5_expr 7 M15 (0 : Int32)).2.1 c = M15.1 c := (ef1_X5_expr (by omega) _ _ _)
    rw [eM17] at q
    exact q
  by_cases c19 : r16 = (M.1 1 1)
  · skip
    by_cases c22 : (M17.1 9 1) = (M17.1 9 0)
    · skip
      obtain ⟨M25, eM25⟩ : ∃ z, em_pI M17 9 0 (0 : Int32) = z := ⟨_, rfl⟩
      have fM25 : M25.1 c = M17.1 c := by rw [← eM25]; exact ef_pI' _ _ _ _ (by omega)
      obtain ⟨r26, M27, eM27⟩ : ∃ y z, et_X2_end M25 (M.1 1 1) = (y, z) := ⟨_, _, rfl⟩
      have fM27 : M27.1 c = M25.1 c := by
        have q : (et_X2_end M25 (M.1 1 1)).2.1 c = M25.1 c := (ef1_X2_end _ _ (by omega))
        rw [eM27] at q
        exact q
      rw [show et_X5_take M = (r26, M27) from by simp only [et_X5_take, eM15, eM17, if_pos c19, if_pos c22, eM25, eM27]]
      show M27.1 c = M.1 c
      exact (fM27).trans ((fM25).trans ((fM17).trans (fM15)))
    · skip
      obtain ⟨M23, eM23⟩ : ∃ z, em_pI M17 9 0 (0 : Int32) = z := ⟨_, rfl⟩
      have fM23 : M23.1 c = M17.1 c := by rw [← eM23]; exact ef_pI' _ _ _ _ (by omega)
      obtain ⟨M24, eM24⟩ : ∃ z, em_pI M23 1 1 (M.1 1 1) = z := ⟨_, rfl⟩
      have fM24 : M24.1 c = M23.1 c := by rw [← eM24]; exact ef_pI' _ _ _ _ (by omega)
      rw [show et_X5_take M = (((-10 : Int32) - (M24.1 9 1)), M24) from by simp only [et_X5_take, eM15, eM17, if_pos c19, if_neg c22, eM23, eM24]]
      show M24.1 c = M.1 c
      exact (fM24).trans ((fM23).trans ((fM17).trans (fM15)))
  · skip
    obtain ⟨M20, eM20⟩ : ∃ z, em_pI M17 9 0 (0 : Int32) = z := ⟨_, rfl⟩
    have fM20 : M20.1 c = M17.1 c := by rw [← eM20]; exact ef_pI' _ _ _ _ (by omega)
    obtain ⟨M21, eM21⟩ : ∃ z, em_pI M20 1 1 (M.1 1 1) = z := ⟨_, rfl⟩
    have fM21 : M21.1 c = M20.1 c := by rw [← eM21]; exact ef_pI' _ _ _ _ (by omega)
    rw [show et_X5_take M = (((-10 : Int32) - (M21.1 9 1)), M21) from by simp only [et_X5_take, eM15, eM17, if_neg c19, eM20, eM21]]
    show M21.1 c = M.1 c
    exact (fM21).trans ((fM20).trans ((fM17).trans (fM15)))
theorem ef2_X5_take  (M : em_M) {c : Nat} (h : c < 1 ∨ 10 < c) : (et_X5_take M).2.2 c = M.2 c := by
  obtain ⟨M15, eM15⟩ : ∃ z, em_pI M 9 1 (0 : Int32) = z := ⟨_, rfl⟩
  have fM15 : M15.2 c = M.2 c := by rw [← eM15]; exact rfl
  obtain ⟨r16, M17, eM17⟩ : ∃ y z, et_X5_expr 7 M15 (0 : Int32) = (y, z) := ⟨_, _, rfl⟩
  have fM17 : M17.2 c = M15.2 c := by
    have q : (et_X5_expr 7 M15 (0 : Int32)).2.2 c = M15.2 c := (ef2_X5_expr (by omega) _ _ _)
    rw [eM17] at q
    exact q
  by_cases c19 : r16 = (M.1 1 1)
  · skip
    by_cases c22 : (M17.1 9 1) = (M17.1 9 0)
    · skip
      obtain ⟨M25, eM25⟩ : ∃ z, em_pI M17 9 0 (0 : Int32) = z := ⟨_, rfl⟩
      have fM25 : M25.2 c = M17.2 c := by rw [← eM25]; exact rfl
      obtain ⟨r26, M27, eM27⟩ : ∃ y z, et_X2_end M25 (M.1 1 1) = (y, z) := ⟨_, _, rfl⟩
      have fM27 : M27.2 c = M25.2 c := by
        have q : (et_X2_end M25 (M.1 1 1)).2.2 c = M25.2 c := (ef2_X2_end _ _ (by omega))
        rw [eM27] at q
        exact q
      rw [show et_X5_take M = (r26, M27) from by simp only [et_X5_take, eM15, eM17, if_pos c19, if_pos c22, eM25, eM27]]
      show M27.2 c = M.2 c
      exact (fM27).trans ((fM25).trans ((fM17).trans (fM15)))
    · skip
      obtain ⟨M23, eM23⟩ : ∃ z, em_pI M17 9 0 (0 : Int32) = z := ⟨_, rfl⟩
      have fM23 : M23.2 c = M17.2 c := by rw [← eM23]; exact rfl
      obtain ⟨M24, eM24⟩ : ∃ z, em_pI M23 1 1 (M.1 1 1) = z := ⟨_, rfl⟩
      have fM24 : M24.2 c = M23.2 c := by rw [← eM24]; exact rfl
      rw [show et_X5_take M = (((-10 : Int32) - (M24.1 9 1)), M24) from by simp only [et_X5_take, eM15, eM17, if_pos c19, if_neg c22, eM23, eM24]]
      show M24.2 c = M.2 c
      exact (fM24).trans ((fM23).trans ((fM17).trans (fM15)))
  · skip
    obtain ⟨M20, eM20⟩ : ∃ z, em_pI M17 9 0 (0 : Int32) = z := ⟨_, rfl⟩
    have fM20 : M20.2 c = M17.2 c := by rw [← eM20]; exact rfl
    obtain ⟨M21, eM21⟩ : ∃ z, em_pI M20 1 1 (M.1 1 1) = z := ⟨_, rfl⟩
    have fM21 : M21.2 c = M20.2 c := by rw [← eM21]; exact rfl
    rw [show et_X5_take M = (((-10 : Int32) - (M21.1 9 1)), M21) from by simp only [et_X5_take, eM15, eM17, if_neg c19, eM20, eM21]]
    show M21.2 c = M.2 c
    exact (fM21).trans ((fM20).trans ((fM17).trans (fM15)))
theorem ef1_X11_feed  (M : em_M) (sign : Int32) {c : Nat} (h : c < 0 ∨ 117 < c) : (et_X11_feed M sign).2.1 c = M.1 c := by
  by_cases c6 : sign < 0
  · skip
    rw [show et_X11_feed M sign = ((-2 : Int32), M) from by simp only [et_X11_feed, if_pos c6]]
    all_goals rfl
  · skip
    by_cases c7 : sign ≤ (127 : Int32)
    · skip
      obtain ⟨r8, M9, eM9⟩ : ∃ y z, et_X5_append M sign = (y, z) := ⟨_, _, rfl⟩
      have fM9 : M9.1 c = M.1 c := by
        have q : (et_X5_append M sign).2.1 c = M.1 c := (ef1_X5_append _ _ (by omega))
        rw [eM9] at q
        exact q
      rw [show et_X11_feed M sign = (r8, M9) from by simp only [et_X11_feed, if_neg c6, if_pos c7, eM9]]
      show M9.1 c = M.1 c
      exact fM9
    · skip
      rw [show et_X11_feed M sign = ((-2 : Int32), M) from by simp only [et_X11_feed, if_neg c6, if_neg c7]]
      all_goals rfl
theorem ef2_X11_feed  (M : em_M) (sign : Int32) {c : Nat} (h : c < 0 ∨ 117 < c) : (et_X11_feed M sign).2.2 c = M.2 c := by
  by_cases c6 : sign < 0
  · skip
    rw [show et_X11_feed M sign = ((-2 : Int32), M) from by simp only [et_X11_feed, if_pos c6]]
    all_goals rfl
  · skip
    by_cases c7 : sign ≤ (127 : Int32)
    · skip
      obtain ⟨r8, M9, eM9⟩ : ∃ y z, et_X5_append M sign = (y, z) := ⟨_, _, rfl⟩
      have fM9 : M9.2 c = M.2 c := by
        have q : (et_X5_append M sign).2.2 c = M.2 c := (ef2_X5_append _ _ (by omega))
        rw [eM9] at q
        exact q
      rw [show et_X11_feed M sign = (r8, M9) from by simp only [et_X11_feed, if_neg c6, if_pos c7, eM9]]
      show M9.2 c = M.2 c
      exact fM9
    · skip
      rw [show et_X11_feed M sign = ((-2 : Int32), M) from by simp only [et_X11_feed, if_neg c6, if_neg c7]]
      all_goals rfl
theorem ef1_X11_line  (M : em_M) {c : Nat} (h : c < 0 ∨ 117 < c) : (et_X11_line M).2.1 c = M.1 c := by
  by_cases c5 : (M.1 1 0) < (8 : Int32)
  · skip
    obtain ⟨r6, M7, eM7⟩ : ∃ y z, et_X5_take M = (y, z) := ⟨_, _, rfl⟩
    have fM7 : M7.1 c = M.1 c := by
      have q : (et_X5_take M).2.1 c = M.1 c := (ef1_X5_take _ (by omega))
      rw [eM7] at q
      exact q
    rw [show et_X11_line M = (r6, M7) from by simp only [et_X11_line, if_pos c5, eM7]]
    show M7.1 c = M.1 c
    exact fM7
  · skip
    rw [show et_X11_line M = ((-4 : Int32), M) from by simp only [et_X11_line, if_neg c5]]
    all_goals rfl
theorem ef2_X11_line  (M : em_M) {c : Nat} (h : c < 0 ∨ 117 < c) : (et_X11_line M).2.2 c = M.2 c := by
  by_cases c5 : (M.1 1 0) < (8 : Int32)
  · skip
    obtain ⟨r6, M7, eM7⟩ : ∃ y z, et_X5_take M = (y, z) := ⟨_, _, rfl⟩
    have fM7 : M7.2 c = M.2 c := by
      have q : (et_X5_take M).2.2 c = M.2 c := (ef2_X5_take _ (by omega))
      rw [eM7] at q
      exact q
    rw [show et_X11_line M = (r6, M7) from by simp only [et_X11_line, if_pos c5, eM7]]
    show M7.2 c = M.2 c
    exact fM7
  · skip
    rw [show et_X11_line M = ((-4 : Int32), M) from by simp only [et_X11_line, if_neg c5]]
    all_goals rfl
theorem ef1_X11_define  (M : em_M) (function : Int32) (line : Int32) {c : Nat} (h : c < 0 ∨ 117 < c) : (et_X11_define M function line).2.1 c = M.1 c := by
  obtain ⟨r10, er10⟩ : ∃ z, et_X11_isFunction M function = z := ⟨_, rfl⟩
  by_cases c11 : r10 = 0
  · skip
    rw [show et_X11_define M function line = ((-1 : Int32), M) from by simp only [et_X11_define, er10, if_pos c11]]
    all_goals rfl
  · skip
    by_cases c12 : line = (-1 : Int32)
    · skip
      obtain ⟨r13, er13⟩ : ∃ z, et_X11_at 23 3 M function = z := ⟨_, rfl⟩
      obtain ⟨M14, eM14⟩ : ∃ z, et_X11_put 23 3 M function (-5 : Int32) = z := ⟨_, rfl⟩
      have fM14 : M14.1 c = M.1 c := by rw [← eM14]; exact ef_put1 (by omega)
      rw [show et_X11_define M function line = (r13, M14) from by simp only [et_X11_define, er10, if_neg c11, if_pos c12, er13, eM14]]
      show M14.1 c = M.1 c
      exact fM14
    · skip
      obtain ⟨r15, er15⟩ : ∃ z, et_X2_has M line = z := ⟨_, rfl⟩
      by_cases c16 : r15 = 0
      · skip
        rw [show et_X11_define M function line = ((-1 : Int32), M) from by simp only [et_X11_define, er10, if_neg c11, if_neg c12, er15, if_pos c16]]
        all_goals rfl
      · skip
        obtain ⟨r17, er17⟩ : ∃ z, et_X11_at 23 3 M function = z := ⟨_, rfl⟩
        obtain ⟨M18, eM18⟩ : ∃ z, et_X11_put 23 3 M function line = z := ⟨_, rfl⟩
        have fM18 : M18.1 c = M.1 c := by rw [← eM18]; exact ef_put1 (by omega)
        rw [show et_X11_define M function line = (r17, M18) from by simp only [et_X11_define, er10, if_neg c11, if_neg c12, er15, if_neg c16, er17, eM18]]
        show M18.1 c = M.1 c
        exact fM18
theorem ef2_X11_define  (M : em_M) (function : Int32) (line : Int32) {c : Nat} (h : c < 0 ∨ 117 < c) : (et_X11_define M function line).2.2 c = M.2 c := by
  obtain ⟨r10, er10⟩ : ∃ z, et_X11_isFunction M function = z := ⟨_, rfl⟩
  by_cases c11 : r10 = 0
  · skip
    rw [show et_X11_define M function line = ((-1 : Int32), M) from by simp only [et_X11_define, er10, if_pos c11]]
    all_goals rfl
  · skip
    by_cases c12 : line = (-1 : Int32)
    · skip
      obtain ⟨r13, er13⟩ : ∃ z, et_X11_at 23 3 M function = z := ⟨_, rfl⟩
      obtain ⟨M14, eM14⟩ : ∃ z, et_X11_put 23 3 M function (-5 : Int32) = z := ⟨_, rfl⟩
      have fM14 : M14.2 c = M.2 c := by rw [← eM14]; exact (congrFun ef_put12 _)
      rw [show et_X11_define M function line = (r13, M14) from by simp only [et_X11_define, er10, if_neg c11, if_pos c12, er13, eM14]]
      show M14.2 c = M.2 c
      exact fM14
    · skip
      obtain ⟨r15, er15⟩ : ∃ z, et_X2_has M line = z := ⟨_, rfl⟩
      by_cases c16 : r15 = 0
      · skip
        rw [show et_X11_define M function line = ((-1 : Int32), M) from by simp only [et_X11_define, er10, if_neg c11, if_neg c12, er15, if_pos c16]]
        all_goals rfl
      · skip
        obtain ⟨r17, er17⟩ : ∃ z, et_X11_at 23 3 M function = z := ⟨_, rfl⟩
        obtain ⟨M18, eM18⟩ : ∃ z, et_X11_put 23 3 M function line = z := ⟨_, rfl⟩
        have fM18 : M18.2 c = M.2 c := by rw [← eM18]; exact (congrFun ef_put12 _)
        rw [show et_X11_define M function line = (r17, M18) from by simp only [et_X11_define, er10, if_neg c11, if_neg c12, er15, if_neg c16, er17, eM18]]
        show M18.2 c = M.2 c
        exact fM18
theorem ef1_X11_value  (M : em_M) (name : Int32) (v : Int32) {c : Nat} (h : c < 0 ∨ 117 < c) : (et_X11_value M name v).2.1 c = M.1 c := by
  obtain ⟨r5, er5⟩ : ∃ z, et_X11_isName M name = z := ⟨_, rfl⟩
  by_cases c6 : r5 = 0
  · skip
    rw [show et_X11_value M name v = ((-9223372036854775808 : Int64), M) from by simp only [et_X11_value, er5, if_pos c6]]
    all_goals rfl
  · skip
    obtain ⟨r7, er7⟩ : ∃ z, et_X11_at 22 4 M name = z := ⟨_, rfl⟩
    obtain ⟨M8, eM8⟩ : ∃ z, et_X11_put 22 4 M name v = z := ⟨_, rfl⟩
    have fM8 : M8.1 c = M.1 c := by rw [← eM8]; exact ef_put1 (by omega)
    rw [show et_X11_value M name v = ((r7).toInt64, M8) from by simp only [et_X11_value, er5, if_neg c6, er7, eM8]]
    show M8.1 c = M.1 c
    exact fM8
theorem ef2_X11_value  (M : em_M) (name : Int32) (v : Int32) {c : Nat} (h : c < 0 ∨ 117 < c) : (et_X11_value M name v).2.2 c = M.2 c := by
  obtain ⟨r5, er5⟩ : ∃ z, et_X11_isName M name = z := ⟨_, rfl⟩
  by_cases c6 : r5 = 0
  · skip
    rw [show et_X11_value M name v = ((-9223372036854775808 : Int64), M) from by simp only [et_X11_value, er5, if_pos c6]]
    all_goals rfl
  · skip
    obtain ⟨r7, er7⟩ : ∃ z, et_X11_at 22 4 M name = z := ⟨_, rfl⟩
    obtain ⟨M8, eM8⟩ : ∃ z, et_X11_put 22 4 M name v = z := ⟨_, rfl⟩
    have fM8 : M8.2 c = M.2 c := by rw [← eM8]; exact (congrFun ef_put12 _)
    rw [show et_X11_value M name v = ((r7).toInt64, M8) from by simp only [et_X11_value, er5, if_neg c6, er7, eM8]]
    show M8.2 c = M.2 c
    exact fM8
theorem ef1_X11_begin  (M : em_M) (line : Int32) {c : Nat} (h : c < 0 ∨ 117 < c) : (et_X11_begin M line).2.1 c = M.1 c := by
  obtain ⟨r5, er5⟩ : ∃ z, et_X2_has M line = z := ⟨_, rfl⟩
  by_cases c6 : r5 = 0
  · skip
    rw [show et_X11_begin M line = ((-1 : Int32), M) from by simp only [et_X11_begin, er5, if_pos c6]]
    all_goals rfl
  · skip
    obtain ⟨M7, eM7⟩ : ∃ z, et_X3_start 21 M line = z := ⟨_, rfl⟩
    have fM7 : M7.1 c = M.1 c := by rw [← eM7]; exact (ef1_X3_start _ _ _ (by omega))
    obtain ⟨r8, er8⟩ : ∃ z, et_X2_fact M7 line (0 : Int32) = z := ⟨_, rfl⟩
    rw [show et_X11_begin M line = (r8, M7) from by simp only [et_X11_begin, er5, if_neg c6, eM7, er8]]
    show M7.1 c = M.1 c
    exact fM7
theorem ef2_X11_begin  (M : em_M) (line : Int32) {c : Nat} (h : c < 0 ∨ 117 < c) : (et_X11_begin M line).2.2 c = M.2 c := by
  obtain ⟨r5, er5⟩ : ∃ z, et_X2_has M line = z := ⟨_, rfl⟩
  by_cases c6 : r5 = 0
  · skip
    rw [show et_X11_begin M line = ((-1 : Int32), M) from by simp only [et_X11_begin, er5, if_pos c6]]
    all_goals rfl
  · skip
    obtain ⟨M7, eM7⟩ : ∃ z, et_X3_start 21 M line = z := ⟨_, rfl⟩
    have fM7 : M7.2 c = M.2 c := by rw [← eM7]; exact (ef2_X3_start _ _ _ (by omega))
    obtain ⟨r8, er8⟩ : ∃ z, et_X2_fact M7 line (0 : Int32) = z := ⟨_, rfl⟩
    rw [show et_X11_begin M line = (r8, M7) from by simp only [et_X11_begin, er5, if_neg c6, eM7, er8]]
    show M7.2 c = M.2 c
    exact fM7
theorem ef1_X11_step  (M : em_M) (n : Int32) {c : Nat} (h : c < 0 ∨ 117 < c) : (et_X11_step M n).2.1 c = M.1 c := by
  by_cases c7 : n < 0
  · skip
    rw [show et_X11_step M n = ((-2 : Int32), M) from by simp only [et_X11_step, if_pos c7]]
    all_goals rfl
  · skip
    by_cases c8 : n ≤ (300 : Int32)
    · skip
      by_cases c9 : (M.1 25 0) = (-5 : Int32)
      · skip
        obtain ⟨r10, M11, eM11⟩ : ∃ y z, et_X3_move 21 M n = (y, z) := ⟨_, _, rfl⟩
        have fM11 : M11.1 c = M.1 c := by
          have q : (et_X3_move 21 M n).2.1 c = M.1 c := (ef1_X3_move _ _ _ (by omega))
          rw [eM11] at q
          exact q
        rw [show et_X11_step M n = (r10, M11) from by simp only [et_X11_step, if_neg c7, if_pos c8, if_pos c9, eM11]]
        show M11.1 c = M.1 c
        exact fM11
      · skip
        rw [show et_X11_step M n = ((-3 : Int32), M) from by simp only [et_X11_step, if_neg c7, if_pos c8, if_neg c9]]
        all_goals rfl
    · skip
      rw [show et_X11_step M n = ((-2 : Int32), M) from by simp only [et_X11_step, if_neg c7, if_neg c8]]
      all_goals rfl
theorem ef2_X11_step  (M : em_M) (n : Int32) {c : Nat} (h : c < 0 ∨ 117 < c) : (et_X11_step M n).2.2 c = M.2 c := by
  by_cases c7 : n < 0
  · skip
    rw [show et_X11_step M n = ((-2 : Int32), M) from by simp only [et_X11_step, if_pos c7]]
    all_goals rfl
  · skip
    by_cases c8 : n ≤ (300 : Int32)
    · skip
      by_cases c9 : (M.1 25 0) = (-5 : Int32)
      · skip
        obtain ⟨r10, M11, eM11⟩ : ∃ y z, et_X3_move 21 M n = (y, z) := ⟨_, _, rfl⟩
        have fM11 : M11.2 c = M.2 c := by
          have q : (et_X3_move 21 M n).2.2 c = M.2 c := (ef2_X3_move _ _ _ (by omega))
          rw [eM11] at q
          exact q
        rw [show et_X11_step M n = (r10, M11) from by simp only [et_X11_step, if_neg c7, if_pos c8, if_pos c9, eM11]]
        show M11.2 c = M.2 c
        exact fM11
      · skip
        rw [show et_X11_step M n = ((-3 : Int32), M) from by simp only [et_X11_step, if_neg c7, if_pos c8, if_neg c9]]
        all_goals rfl
    · skip
      rw [show et_X11_step M n = ((-2 : Int32), M) from by simp only [et_X11_step, if_neg c7, if_neg c8]]
      all_goals rfl
theorem ef1_X11_run  (M : em_M) (line : Int32) {c : Nat} (h : c < 0 ∨ 117 < c) : (et_X11_run M line).2.1 c = M.1 c := by
  obtain ⟨r7, er7⟩ : ∃ z, et_X2_has M line = z := ⟨_, rfl⟩
  by_cases c8 : r7 = 0
  · skip
    rw [show et_X11_run M line = ((-1 : Int32), M) from by simp only [et_X11_run, er7, if_pos c8]]
    all_goals rfl
  · skip
    obtain ⟨M9, eM9⟩ : ∃ z, et_X3_start 21 M line = z := ⟨_, rfl⟩
    have fM9 : M9.1 c = M.1 c := by rw [← eM9]; exact (ef1_X3_start _ _ _ (by omega))
    obtain ⟨r10, M11, eM11⟩ : ∃ y z, et_X3_move 21 M9 (300 : Int32) = (y, z) := ⟨_, _, rfl⟩
    have fM11 : M11.1 c = M9.1 c := by
      have q : (et_X3_move 21 M9 (300 : Int32)).2.1 c = M9.1 c := (ef1_X3_move _ _ _ (by omega))
      rw [eM11] at q
      exact q
    rw [show et_X11_run M line = ((M11.1 25 0), M11) from by simp only [et_X11_run, er7, if_neg c8, eM9, eM11]]
    show M11.1 c = M.1 c
    exact (fM11).trans (fM9)
theorem ef2_X11_run  (M : em_M) (line : Int32) {c : Nat} (h : c < 0 ∨ 117 < c) : (et_X11_run M line).2.2 c = M.2 c := by
  obtain ⟨r7, er7⟩ : ∃ z, et_X2_has M line = z := ⟨_, rfl⟩
  by_cases c8 : r7 = 0
  · skip
    rw [show et_X11_run M line = ((-1 : Int32), M) from by simp only [et_X11_run, er7, if_pos c8]]
    all_goals rfl
  · skip
    obtain ⟨M9, eM9⟩ : ∃ z, et_X3_start 21 M line = z := ⟨_, rfl⟩
    have fM9 : M9.2 c = M.2 c := by rw [← eM9]; exact (ef2_X3_start _ _ _ (by omega))
    obtain ⟨r10, M11, eM11⟩ : ∃ y z, et_X3_move 21 M9 (300 : Int32) = (y, z) := ⟨_, _, rfl⟩
    have fM11 : M11.2 c = M9.2 c := by
      have q : (et_X3_move 21 M9 (300 : Int32)).2.2 c = M9.2 c := (ef2_X3_move _ _ _ (by omega))
      rw [eM11] at q
      exact q
    rw [show et_X11_run M line = ((M11.1 25 0), M11) from by simp only [et_X11_run, er7, if_neg c8, eM9, eM11]]
    show M11.2 c = M.2 c
    exact (fM11).trans (fM9)
theorem ef1_X11_tryWith  (M : em_M) (line : Int32) (name : Int32) (v : Int32) {c : Nat} (h : c < 0 ∨ 117 < c) : (et_X11_tryWith M line name v).1 c = M.1 c := by
  obtain ⟨M7, eM7⟩ : ∃ z, et_X10_copyFrom 79 21 M = z := ⟨_, rfl⟩
  have fM7 : M7.1 c = M.1 c := by rw [← eM7]; exact (ef1_X10_copyFrom _ _ _ (by omega))
  obtain ⟨M8, eM8⟩ : ∃ z, et_X11_put 80 4 M7 name v = z := ⟨_, rfl⟩
  have fM8 : M8.1 c = M7.1 c := by rw [← eM8]; exact ef_put1 (by omega)
  obtain ⟨M9, eM9⟩ : ∃ z, et_X3_start 79 M8 line = z := ⟨_, rfl⟩
  have fM9 : M9.1 c = M8.1 c := by rw [← eM9]; exact (ef1_X3_start _ _ _ (by omega))
  obtain ⟨r10, M11, eM11⟩ : ∃ y z, et_X3_move 79 M9 (300 : Int32) = (y, z) := ⟨_, _, rfl⟩
  have fM11 : M11.1 c = M9.1 c := by
    have q : (et_X3_move 79 M9 (300 : Int32)).2.1 c = M9.1 c := (ef1_X3_move _ _ _ (by omega))
    rw [eM11] at q
    exact q
  rw [show et_X11_tryWith M line name v = M11 from by simp only [et_X11_tryWith, eM7, eM8, eM9, eM11]]
  exact (fM11).trans ((fM9).trans ((fM8).trans (fM7)))
theorem ef2_X11_tryWith  (M : em_M) (line : Int32) (name : Int32) (v : Int32) {c : Nat} (h : c < 0 ∨ 117 < c) : (et_X11_tryWith M line name v).2 c = M.2 c := by
  obtain ⟨M7, eM7⟩ : ∃ z, et_X10_copyFrom 79 21 M = z := ⟨_, rfl⟩
  have fM7 : M7.2 c = M.2 c := by rw [← eM7]; exact (ef2_X10_copyFrom _ _ _ (by omega))
  obtain ⟨M8, eM8⟩ : ∃ z, et_X11_put 80 4 M7 name v = z := ⟨_, rfl⟩
  have fM8 : M8.2 c = M7.2 c := by rw [← eM8]; exact (congrFun ef_put12 _)
  obtain ⟨M9, eM9⟩ : ∃ z, et_X3_start 79 M8 line = z := ⟨_, rfl⟩
  have fM9 : M9.2 c = M8.2 c := by rw [← eM9]; exact (ef2_X3_start _ _ _ (by omega))
  obtain ⟨r10, M11, eM11⟩ : ∃ y z, et_X3_move 79 M9 (300 : Int32) = (y, z) := ⟨_, _, rfl⟩
  have fM11 : M11.2 c = M9.2 c := by
    have q : (et_X3_move 79 M9 (300 : Int32)).2.2 c = M9.2 c := (ef2_X3_move _ _ _ (by omega))
    rw [eM11] at q
    exact q
  rw [show et_X11_tryWith M line name v = M11 from by simp only [et_X11_tryWith, eM7, eM8, eM9, eM11]]
  exact (fM11).trans ((fM9).trans ((fM8).trans (fM7)))
theorem ef1_X11_on  (M : em_M) (line : Int32) (what : Int32) {c : Nat} (h : c < 0 ∨ 117 < c) : (et_X11_on M line what).2.1 c = M.1 c := by
  obtain ⟨r6, er6⟩ : ∃ z, et_X2_has M line = z := ⟨_, rfl⟩
  by_cases c7 : r6 = 0
  · skip
    rw [show et_X11_on M line what = ((-9223372036854775808 : Int64), M) from by simp only [et_X11_on, er6, if_pos c7]]
    all_goals rfl
  · skip
    obtain ⟨M8, eM8⟩ : ∃ z, et_X10_copyFrom 79 21 M = z := ⟨_, rfl⟩
    have fM8 : M8.1 c = M.1 c := by rw [← eM8]; exact (ef1_X10_copyFrom _ _ _ (by omega))
    obtain ⟨M9, eM9⟩ : ∃ z, et_X11_tryOut M8 line = z := ⟨_, rfl⟩
    have fM9 : M9.1 c = M8.1 c := by rw [← eM9]; exact (ef1_X11_tryOut _ _ (by omega))
    obtain ⟨r10, er10⟩ : ∃ z, et_X4_answer 83 M9 what = z := ⟨_, rfl⟩
    rw [show et_X11_on M line what = (r10, M9) from by simp only [et_X11_on, er6, if_neg c7, eM8, eM9, er10]]
    show M9.1 c = M.1 c
    exact (fM9).trans (fM8)
theorem ef2_X11_on  (M : em_M) (line : Int32) (what : Int32) {c : Nat} (h : c < 0 ∨ 117 < c) : (et_X11_on M line what).2.2 c = M.2 c := by
  obtain ⟨r6, er6⟩ : ∃ z, et_X2_has M line = z := ⟨_, rfl⟩
  by_cases c7 : r6 = 0
  · skip
    rw [show et_X11_on M line what = ((-9223372036854775808 : Int64), M) from by simp only [et_X11_on, er6, if_pos c7]]
    all_goals rfl
  · skip
    obtain ⟨M8, eM8⟩ : ∃ z, et_X10_copyFrom 79 21 M = z := ⟨_, rfl⟩
    have fM8 : M8.2 c = M.2 c := by rw [← eM8]; exact (ef2_X10_copyFrom _ _ _ (by omega))
    obtain ⟨M9, eM9⟩ : ∃ z, et_X11_tryOut M8 line = z := ⟨_, rfl⟩
    have fM9 : M9.2 c = M8.2 c := by rw [← eM9]; exact (ef2_X11_tryOut _ _ (by omega))
    obtain ⟨r10, er10⟩ : ∃ z, et_X4_answer 83 M9 what = z := ⟨_, rfl⟩
    rw [show et_X11_on M line what = (r10, M9) from by simp only [et_X11_on, er6, if_neg c7, eM8, eM9, er10]]
    show M9.2 c = M.2 c
    exact (fM9).trans (fM8)
theorem ef1_X11_see  (M : em_M) (place : Int32) (v : Int32) {c : Nat} (h : c < 0 ∨ 117 < c) : (et_X11_see M place v).2.1 c = M.1 c := by
  by_cases c10 : place = (-1 : Int32)
  · skip
    obtain ⟨r16, M17, eM17⟩ : ∃ y z, et_X6_empty 12 M = (y, z) := ⟨_, _, rfl⟩
    have fM17 : M17.1 c = M.1 c := by
      have q : (et_X6_empty 12 M).2.1 c = M.1 c := (ef1_X6_empty _ _ (by omega))
      rw [eM17] at q
      exact q
    rw [show et_X11_see M place v = (r16, M17) from by simp only [et_X11_see, if_pos c10, eM17]]
    show M17.1 c = M.1 c
    exact fM17
  · skip
    by_cases c11 : place < 0
    · skip
      rw [show et_X11_see M place v = ((-2 : Int32), M) from by simp only [et_X11_see, if_neg c10, if_pos c11]]
      all_goals rfl
    · skip
      by_cases c12 : place < (40 : Int32)
      · skip
        obtain ⟨r13, M14, eM14⟩ : ∃ y z, et_X6_add 12 M place v = (y, z) := ⟨_, _, rfl⟩
        have fM14 : M14.1 c = M.1 c := by
          have q : (et_X6_add 12 M place v).2.1 c = M.1 c := (ef1_X6_add _ _ _ _ (by omega))
          rw [eM14] at q
          exact q
        rw [show et_X11_see M place v = (r13, M14) from by simp only [et_X11_see, if_neg c10, if_neg c11, if_pos c12, eM14]]
        show M14.1 c = M.1 c
        exact fM14
      · skip
        rw [show et_X11_see M place v = ((-2 : Int32), M) from by simp only [et_X11_see, if_neg c10, if_neg c11, if_neg c12]]
        all_goals rfl
theorem ef2_X11_see  (M : em_M) (place : Int32) (v : Int32) {c : Nat} (h : c < 0 ∨ 117 < c) : (et_X11_see M place v).2.2 c = M.2 c := by
  by_cases c10 : place = (-1 : Int32)
  · skip
    obtain ⟨r16, M17, eM17⟩ : ∃ y z, et_X6_empty 12 M = (y, z) := ⟨_, _, rfl⟩
    have fM17 : M17.2 c = M.2 c := by
      have q : (et_X6_empty 12 M).2.2 c = M.2 c := (ef2_X6_empty _ _ (by omega))
      rw [eM17] at q
      exact q
    rw [show et_X11_see M place v = (r16, M17) from by simp only [et_X11_see, if_pos c10, eM17]]
    show M17.2 c = M.2 c
    exact fM17
  · skip
    by_cases c11 : place < 0
    · skip
      rw [show et_X11_see M place v = ((-2 : Int32), M) from by simp only [et_X11_see, if_neg c10, if_pos c11]]
      all_goals rfl
    · skip
      by_cases c12 : place < (40 : Int32)
      · skip
        obtain ⟨r13, M14, eM14⟩ : ∃ y z, et_X6_add 12 M place v = (y, z) := ⟨_, _, rfl⟩
        have fM14 : M14.2 c = M.2 c := by
          have q : (et_X6_add 12 M place v).2.2 c = M.2 c := (ef2_X6_add _ _ _ _ (by omega))
          rw [eM14] at q
          exact q
        rw [show et_X11_see M place v = (r13, M14) from by simp only [et_X11_see, if_neg c10, if_neg c11, if_pos c12, eM14]]
        show M14.2 c = M.2 c
        exact fM14
      · skip
        rw [show et_X11_see M place v = ((-2 : Int32), M) from by simp only [et_X11_see, if_neg c10, if_neg c11, if_neg c12]]
        all_goals rfl
theorem ef1_X11_fits_39    {c : Nat} (h : c < 0 ∨ 117 < c) : ∀ (fu : Nat) (M : em_M) (line : Int32) (name : Int32) (what : Int32) (fitting : Int32) (least : Int32) (v : Int32), (et_X11_fits_39  fu M line name what fitting least v).2.1 c = M.1 c := by
  intro fu
  induction fu with
  | zero => intros; rfl
  | succ fu ih =>
    intro M line name what fitting least v
    by_cases c19 : (20 : Int32) ≤ v
    · skip
      by_cases c20 : what = 0
      · skip
        rw [show et_X11_fits_39  (fu + 1) M line name what fitting least v = (fitting, M) from by simp only [et_X11_fits_39, if_pos c19, if_pos c20]]
        all_goals rfl
      · skip
        rw [show et_X11_fits_39  (fu + 1) M line name what fitting least v = (least, M) from by simp only [et_X11_fits_39, if_pos c19, if_neg c20]]
        all_goals rfl
    · skip
      obtain ⟨M21, eM21⟩ : ∃ z, et_X11_tryWith M line name v = z := ⟨_, rfl⟩
      have fM21 : M21.1 c = M.1 c := by rw [← eM21]; exact (ef1_X11_tryWith _ _ _ _ (by omega))
      obtain ⟨r22, er22⟩ : ∃ z, et_X4_shows 83 12 M21 = z := ⟨_, rfl⟩
      by_cases c23 : r22 = 0
      · skip
        rw [show et_X11_fits_39  (fu + 1) M line name what fitting least v = et_X11_fits_39 fu M21 line name what fitting least (v + (1 : Int32)) from by simp only [et_X11_fits_39, if_neg c19, eM21, er22, if_pos c23]]
        exact (ih _ _ _ _ _ _ _).trans (fM21)
      · skip
        by_cases c24 : least = (-5 : Int32)
        · skip
          rw [show et_X11_fits_39  (fu + 1) M line name what fitting least v = et_X11_fits_39 fu M21 line name what (fitting + (1 : Int32)) v (v + (1 : Int32)) from by simp only [et_X11_fits_39, if_neg c19, eM21, er22, if_neg c23, if_pos c24]]
          exact (ih _ _ _ _ _ _ _).trans (fM21)
        · skip
          rw [show et_X11_fits_39  (fu + 1) M line name what fitting least v = et_X11_fits_39 fu M21 line name what (fitting + (1 : Int32)) least (v + (1 : Int32)) from by simp only [et_X11_fits_39, if_neg c19, eM21, er22, if_neg c23, if_neg c24]]
          exact (ih _ _ _ _ _ _ _).trans (fM21)
theorem ef2_X11_fits_39    {c : Nat} (h : c < 0 ∨ 117 < c) : ∀ (fu : Nat) (M : em_M) (line : Int32) (name : Int32) (what : Int32) (fitting : Int32) (least : Int32) (v : Int32), (et_X11_fits_39  fu M line name what fitting least v).2.2 c = M.2 c := by
  intro fu
  induction fu with
  | zero => intros; rfl
  | succ fu ih =>
    intro M line name what fitting least v
    by_cases c19 : (20 : Int32) ≤ v
    · skip
      by_cases c20 : what = 0
      · skip
        rw [show et_X11_fits_39  (fu + 1) M line name what fitting least v = (fitting, M) from by simp only [et_X11_fits_39, if_pos c19, if_pos c20]]
        all_goals rfl
      · skip
        rw [show et_X11_fits_39  (fu + 1) M line name what fitting least v = (least, M) from by simp only [et_X11_fits_39, if_pos c19, if_neg c20]]
        all_goals rfl
    · skip
      obtain ⟨M21, eM21⟩ : ∃ z, et_X11_tryWith M line name v = z := ⟨_, rfl⟩
      have fM21 : M21.2 c = M.2 c := by rw [← eM21]; exact (ef2_X11_tryWith _ _ _ _ (by omega))
      obtain ⟨r22, er22⟩ : ∃ z, et_X4_shows 83 12 M21 = z := ⟨_, rfl⟩
      by_cases c23 : r22 = 0
      · skip
        rw [show et_X11_fits_39  (fu + 1) M line name what fitting least v = et_X11_fits_39 fu M21 line name what fitting least (v + (1 : Int32)) from by simp only [et_X11_fits_39, if_neg c19, eM21, er22, if_pos c23]]
        exact (ih _ _ _ _ _ _ _).trans (fM21)
      · skip
        by_cases c24 : least = (-5 : Int32)
        · skip
          rw [show et_X11_fits_39  (fu + 1) M line name what fitting least v = et_X11_fits_39 fu M21 line name what (fitting + (1 : Int32)) v (v + (1 : Int32)) from by simp only [et_X11_fits_39, if_neg c19, eM21, er22, if_neg c23, if_pos c24]]
          exact (ih _ _ _ _ _ _ _).trans (fM21)
        · skip
          rw [show et_X11_fits_39  (fu + 1) M line name what fitting least v = et_X11_fits_39 fu M21 line name what (fitting + (1 : Int32)) least (v + (1 : Int32)) from by simp only [et_X11_fits_39, if_neg c19, eM21, er22, if_neg c23, if_neg c24]]
          exact (ih _ _ _ _ _ _ _).trans (fM21)
theorem ef1_X11_fits  (M : em_M) (line : Int32) (name : Int32) (what : Int32) {c : Nat} (h : c < 0 ∨ 117 < c) : (et_X11_fits M line name what).2.1 c = M.1 c := by
  obtain ⟨r13, er13⟩ : ∃ z, et_X2_has M line = z := ⟨_, rfl⟩
  by_cases c14 : r13 = 0
  · skip
    rw [show et_X11_fits M line name what = ((-1 : Int32), M) from by simp only [et_X11_fits, er13, if_pos c14]]
    all_goals rfl
  · skip
    obtain ⟨r15, er15⟩ : ∃ z, et_X11_isName M name = z := ⟨_, rfl⟩
    by_cases c16 : r15 = 0
    · skip
      rw [show et_X11_fits M line name what = ((-1 : Int32), M) from by simp only [et_X11_fits, er13, if_neg c14, er15, if_pos c16]]
      all_goals rfl
    · skip
      by_cases c17 : what < 0
      · skip
        rw [show et_X11_fits M line name what = ((-1 : Int32), M) from by simp only [et_X11_fits, er13, if_neg c14, er15, if_neg c16, if_pos c17]]
        all_goals rfl
      · skip
        by_cases c18 : what ≤ (1 : Int32)
        · skip
          rw [show et_X11_fits M line name what = et_X11_fits_39 21 M line name what (0 : Int32) (-5 : Int32) (0 : Int32) from by simp only [et_X11_fits, er13, if_neg c14, er15, if_neg c16, if_neg c17, if_pos c18]]
          exact (ef1_X11_fits_39  (by omega) _ _ _ _ _ _ _ _)
        · skip
          rw [show et_X11_fits M line name what = ((-1 : Int32), M) from by simp only [et_X11_fits, er13, if_neg c14, er15, if_neg c16, if_neg c17, if_neg c18]]
          all_goals rfl
theorem ef2_X11_fits  (M : em_M) (line : Int32) (name : Int32) (what : Int32) {c : Nat} (h : c < 0 ∨ 117 < c) : (et_X11_fits M line name what).2.2 c = M.2 c := by
  obtain ⟨r13, er13⟩ : ∃ z, et_X2_has M line = z := ⟨_, rfl⟩
  by_cases c14 : r13 = 0
  · skip
    rw [show et_X11_fits M line name what = ((-1 : Int32), M) from by simp only [et_X11_fits, er13, if_pos c14]]
    all_goals rfl
  · skip
    obtain ⟨r15, er15⟩ : ∃ z, et_X11_isName M name = z := ⟨_, rfl⟩
    by_cases c16 : r15 = 0
    · skip
      rw [show et_X11_fits M line name what = ((-1 : Int32), M) from by simp only [et_X11_fits, er13, if_neg c14, er15, if_pos c16]]
      all_goals rfl
    · skip
      by_cases c17 : what < 0
      · skip
        rw [show et_X11_fits M line name what = ((-1 : Int32), M) from by simp only [et_X11_fits, er13, if_neg c14, er15, if_neg c16, if_pos c17]]
        all_goals rfl
      · skip
        by_cases c18 : what ≤ (1 : Int32)
        · skip
          rw [show et_X11_fits M line name what = et_X11_fits_39 21 M line name what (0 : Int32) (-5 : Int32) (0 : Int32) from by simp only [et_X11_fits, er13, if_neg c14, er15, if_neg c16, if_neg c17, if_pos c18]]
          exact (ef2_X11_fits_39  (by omega) _ _ _ _ _ _ _ _)
        · skip
          rw [show et_X11_fits M line name what = ((-1 : Int32), M) from by simp only [et_X11_fits, er13, if_neg c14, er15, if_neg c16, if_neg c17, if_neg c18]]
          all_goals rfl
theorem ef1_X11_alike  (M : em_M) (line : Int32) (other : Int32) {c : Nat} (h : c < 0 ∨ 117 < c) : (et_X11_alike M line other).2.1 c = M.1 c := by
  obtain ⟨r12, er12⟩ : ∃ z, et_X2_has M line = z := ⟨_, rfl⟩
  by_cases c13 : r12 = 0
  · skip
    rw [show et_X11_alike M line other = ((-1 : Int32), M) from by simp only [et_X11_alike, er12, if_pos c13]]
    all_goals rfl
  · skip
    obtain ⟨r14, er14⟩ : ∃ z, et_X2_has M other = z := ⟨_, rfl⟩
    by_cases c15 : r14 = 0
    · skip
      rw [show et_X11_alike M line other = ((-1 : Int32), M) from by simp only [et_X11_alike, er12, if_neg c13, er14, if_pos c15]]
      all_goals rfl
    · skip
      obtain ⟨M16, eM16⟩ : ∃ z, et_X10_copyFrom 79 21 M = z := ⟨_, rfl⟩
      have fM16 : M16.1 c = M.1 c := by rw [← eM16]; exact (ef1_X10_copyFrom _ _ _ (by omega))
      obtain ⟨M17, eM17⟩ : ∃ z, et_X11_tryOut M16 line = z := ⟨_, rfl⟩
      have fM17 : M17.1 c = M16.1 c := by rw [← eM17]; exact (ef1_X11_tryOut _ _ (by omega))
      obtain ⟨M18, eM18⟩ : ∃ z, et_X4_copyFrom 103 83 M17 = z := ⟨_, rfl⟩
      have fM18 : M18.1 c = M17.1 c := by rw [← eM18]; exact (ef1_X4_copyFrom _ _ _ (by omega))
      obtain ⟨M19, eM19⟩ : ∃ z, et_X10_copyFrom 79 21 M18 = z := ⟨_, rfl⟩
      have fM19 : M19.1 c = M18.1 c := by rw [← eM19]; exact (ef1_X10_copyFrom _ _ _ (by omega))
      obtain ⟨M20, eM20⟩ : ∃ z, et_X11_tryOut M19 other = z := ⟨_, rfl⟩
      have fM20 : M20.1 c = M19.1 c := by rw [← eM20]; exact (ef1_X11_tryOut _ _ (by omega))
      obtain ⟨r21, er21⟩ : ∃ z, et_X4_sameAs 83 103 M20 = z := ⟨_, rfl⟩
      by_cases c22 : r21 = 0
      · skip
        rw [show et_X11_alike M line other = ((0 : Int32), M20) from by simp only [et_X11_alike, er12, if_neg c13, er14, if_neg c15, eM16, eM17, eM18, eM19, eM20, er21, if_pos c22]]
        show M20.1 c = M.1 c
        exact (fM20).trans ((fM19).trans ((fM18).trans ((fM17).trans (fM16))))
      · skip
        rw [show et_X11_alike M line other = ((1 : Int32), M20) from by simp only [et_X11_alike, er12, if_neg c13, er14, if_neg c15, eM16, eM17, eM18, eM19, eM20, er21, if_neg c22]]
        show M20.1 c = M.1 c
        exact (fM20).trans ((fM19).trans ((fM18).trans ((fM17).trans (fM16))))
theorem ef2_X11_alike  (M : em_M) (line : Int32) (other : Int32) {c : Nat} (h : c < 0 ∨ 117 < c) : (et_X11_alike M line other).2.2 c = M.2 c := by
  obtain ⟨r12, er12⟩ : ∃ z, et_X2_has M line = z := ⟨_, rfl⟩
  by_cases c13 : r12 = 0
  · skip
    rw [show et_X11_alike M line other = ((-1 : Int32), M) from by simp only [et_X11_alike, er12, if_pos c13]]
    all_goals rfl
  · skip
    obtain ⟨r14, er14⟩ : ∃ z, et_X2_has M other = z := ⟨_, rfl⟩
    by_cases c15 : r14 = 0
    · skip
      rw [show et_X11_alike M line other = ((-1 : Int32), M) from by simp only [et_X11_alike, er12, if_neg c13, er14, if_pos c15]]
      all_goals rfl
    · skip
      obtain ⟨M16, eM16⟩ : ∃ z, et_X10_copyFrom 79 21 M = z := ⟨_, rfl⟩
      have fM16 : M16.2 c = M.2 c := by rw [← eM16]; exact (ef2_X10_copyFrom _ _ _ (by omega))
      obtain ⟨M17, eM17⟩ : ∃ z, et_X11_tryOut M16 line = z := ⟨_, rfl⟩
      have fM17 : M17.2 c = M16.2 c := by rw [← eM17]; exact (ef2_X11_tryOut _ _ (by omega))
      obtain ⟨M18, eM18⟩ : ∃ z, et_X4_copyFrom 103 83 M17 = z := ⟨_, rfl⟩
      have fM18 : M18.2 c = M17.2 c := by rw [← eM18]; exact (ef2_X4_copyFrom _ _ _ (by omega))
      obtain ⟨M19, eM19⟩ : ∃ z, et_X10_copyFrom 79 21 M18 = z := ⟨_, rfl⟩
      have fM19 : M19.2 c = M18.2 c := by rw [← eM19]; exact (ef2_X10_copyFrom _ _ _ (by omega))
      obtain ⟨M20, eM20⟩ : ∃ z, et_X11_tryOut M19 other = z := ⟨_, rfl⟩
      have fM20 : M20.2 c = M19.2 c := by rw [← eM20]; exact (ef2_X11_tryOut _ _ (by omega))
      obtain ⟨r21, er21⟩ : ∃ z, et_X4_sameAs 83 103 M20 = z := ⟨_, rfl⟩
      by_cases c22 : r21 = 0
      · skip
        rw [show et_X11_alike M line other = ((0 : Int32), M20) from by simp only [et_X11_alike, er12, if_neg c13, er14, if_neg c15, eM16, eM17, eM18, eM19, eM20, er21, if_pos c22]]
        show M20.2 c = M.2 c
        exact (fM20).trans ((fM19).trans ((fM18).trans ((fM17).trans (fM16))))
      · skip
        rw [show et_X11_alike M line other = ((1 : Int32), M20) from by simp only [et_X11_alike, er12, if_neg c13, er14, if_neg c15, eM16, eM17, eM18, eM19, eM20, er21, if_neg c22]]
        show M20.2 c = M.2 c
        exact (fM20).trans ((fM19).trans ((fM18).trans ((fM17).trans (fM16))))
theorem ef1_X11_odds_37    {c : Nat} (h : c < 0 ∨ 117 < c) : ∀ (fu : Nat) (M : em_M) (line : Int32) (name : Int32) (part : Int32) (good : Int32) (v : Int32), (et_X11_odds_37  fu M line name part good v).2.1 c = M.1 c := by
  intro fu
  induction fu with
  | zero => intros; rfl
  | succ fu ih =>
    intro M line name part good v
    by_cases c19 : (10 : Int32) ≤ v
    · skip
      obtain ⟨r20, er20⟩ : ∃ z, et_X11_inLowestTerms M ((good).toInt64) (10 : Int32) part = z := ⟨_, rfl⟩
      rw [show et_X11_odds_37  (fu + 1) M line name part good v = (r20, M) from by simp only [et_X11_odds_37, if_pos c19, er20]]
      all_goals rfl
    · skip
      obtain ⟨M21, eM21⟩ : ∃ z, et_X11_tryWith M line name v = z := ⟨_, rfl⟩
      have fM21 : M21.1 c = M.1 c := by rw [← eM21]; exact (ef1_X11_tryWith _ _ _ _ (by omega))
      obtain ⟨r22, er22⟩ : ∃ z, et_X4_answer 83 M21 (1 : Int32) = z := ⟨_, rfl⟩
      by_cases c23 : (lg_cmp r22 (-9223372036854775808 : Int64)) = 0
      · skip
        rw [show et_X11_odds_37  (fu + 1) M line name part good v = et_X11_odds_37 fu M21 line name part good (v + (1 : Int32)) from by simp only [et_X11_odds_37, if_neg c19, eM21, er22, if_pos c23]]
        exact (ih _ _ _ _ _ _).trans (fM21)
      · skip
        by_cases c24 : (lg_cmp r22 (0 : Int64)) = 0
        · skip
          rw [show et_X11_odds_37  (fu + 1) M line name part good v = et_X11_odds_37 fu M21 line name part good (v + (1 : Int32)) from by simp only [et_X11_odds_37, if_neg c19, eM21, er22, if_neg c23, if_pos c24]]
          exact (ih _ _ _ _ _ _).trans (fM21)
        · skip
          rw [show et_X11_odds_37  (fu + 1) M line name part good v = et_X11_odds_37 fu M21 line name part (good + (1 : Int32)) (v + (1 : Int32)) from by simp only [et_X11_odds_37, if_neg c19, eM21, er22, if_neg c23, if_neg c24]]
          exact (ih _ _ _ _ _ _).trans (fM21)
theorem ef2_X11_odds_37    {c : Nat} (h : c < 0 ∨ 117 < c) : ∀ (fu : Nat) (M : em_M) (line : Int32) (name : Int32) (part : Int32) (good : Int32) (v : Int32), (et_X11_odds_37  fu M line name part good v).2.2 c = M.2 c := by
  intro fu
  induction fu with
  | zero => intros; rfl
  | succ fu ih =>
    intro M line name part good v
    by_cases c19 : (10 : Int32) ≤ v
    · skip
      obtain ⟨r20, er20⟩ : ∃ z, et_X11_inLowestTerms M ((good).toInt64) (10 : Int32) part = z := ⟨_, rfl⟩
      rw [show et_X11_odds_37  (fu + 1) M line name part good v = (r20, M) from by simp only [et_X11_odds_37, if_pos c19, er20]]
      all_goals rfl
    · skip
      obtain ⟨M21, eM21⟩ : ∃ z, et_X11_tryWith M line name v = z := ⟨_, rfl⟩
      have fM21 : M21.2 c = M.2 c := by rw [← eM21]; exact (ef2_X11_tryWith _ _ _ _ (by omega))
      obtain ⟨r22, er22⟩ : ∃ z, et_X4_answer 83 M21 (1 : Int32) = z := ⟨_, rfl⟩
      by_cases c23 : (lg_cmp r22 (-9223372036854775808 : Int64)) = 0
      · skip
        rw [show et_X11_odds_37  (fu + 1) M line name part good v = et_X11_odds_37 fu M21 line name part good (v + (1 : Int32)) from by simp only [et_X11_odds_37, if_neg c19, eM21, er22, if_pos c23]]
        exact (ih _ _ _ _ _ _).trans (fM21)
      · skip
        by_cases c24 : (lg_cmp r22 (0 : Int64)) = 0
        · skip
          rw [show et_X11_odds_37  (fu + 1) M line name part good v = et_X11_odds_37 fu M21 line name part good (v + (1 : Int32)) from by simp only [et_X11_odds_37, if_neg c19, eM21, er22, if_neg c23, if_pos c24]]
          exact (ih _ _ _ _ _ _).trans (fM21)
        · skip
          rw [show et_X11_odds_37  (fu + 1) M line name part good v = et_X11_odds_37 fu M21 line name part (good + (1 : Int32)) (v + (1 : Int32)) from by simp only [et_X11_odds_37, if_neg c19, eM21, er22, if_neg c23, if_neg c24]]
          exact (ih _ _ _ _ _ _).trans (fM21)
theorem ef1_X11_odds  (M : em_M) (line : Int32) (name : Int32) (part : Int32) {c : Nat} (h : c < 0 ∨ 117 < c) : (et_X11_odds M line name part).2.1 c = M.1 c := by
  obtain ⟨r13, er13⟩ : ∃ z, et_X2_has M line = z := ⟨_, rfl⟩
  by_cases c14 : r13 = 0
  · skip
    rw [show et_X11_odds M line name part = ((-9223372036854775808 : Int64), M) from by simp only [et_X11_odds, er13, if_pos c14]]
    all_goals rfl
  · skip
    obtain ⟨r15, er15⟩ : ∃ z, et_X11_isName M name = z := ⟨_, rfl⟩
    by_cases c16 : r15 = 0
    · skip
      rw [show et_X11_odds M line name part = ((-9223372036854775808 : Int64), M) from by simp only [et_X11_odds, er13, if_neg c14, er15, if_pos c16]]
      all_goals rfl
    · skip
      by_cases c17 : part < 0
      · skip
        rw [show et_X11_odds M line name part = ((-9223372036854775808 : Int64), M) from by simp only [et_X11_odds, er13, if_neg c14, er15, if_neg c16, if_pos c17]]
        all_goals rfl
      · skip
        by_cases c18 : part ≤ (1 : Int32)
        · skip
          rw [show et_X11_odds M line name part = et_X11_odds_37 11 M line name part (0 : Int32) (0 : Int32) from by simp only [et_X11_odds, er13, if_neg c14, er15, if_neg c16, if_neg c17, if_pos c18]]
          exact (ef1_X11_odds_37  (by omega) _ _ _ _ _ _ _)
        · skip
          rw [show et_X11_odds M line name part = ((-9223372036854775808 : Int64), M) from by simp only [et_X11_odds, er13, if_neg c14, er15, if_neg c16, if_neg c17, if_neg c18]]
          all_goals rfl
theorem ef2_X11_odds  (M : em_M) (line : Int32) (name : Int32) (part : Int32) {c : Nat} (h : c < 0 ∨ 117 < c) : (et_X11_odds M line name part).2.2 c = M.2 c := by
  obtain ⟨r13, er13⟩ : ∃ z, et_X2_has M line = z := ⟨_, rfl⟩
  by_cases c14 : r13 = 0
  · skip
    rw [show et_X11_odds M line name part = ((-9223372036854775808 : Int64), M) from by simp only [et_X11_odds, er13, if_pos c14]]
    all_goals rfl
  · skip
    obtain ⟨r15, er15⟩ : ∃ z, et_X11_isName M name = z := ⟨_, rfl⟩
    by_cases c16 : r15 = 0
    · skip
      rw [show et_X11_odds M line name part = ((-9223372036854775808 : Int64), M) from by simp only [et_X11_odds, er13, if_neg c14, er15, if_pos c16]]
      all_goals rfl
    · skip
      by_cases c17 : part < 0
      · skip
        rw [show et_X11_odds M line name part = ((-9223372036854775808 : Int64), M) from by simp only [et_X11_odds, er13, if_neg c14, er15, if_neg c16, if_pos c17]]
        all_goals rfl
      · skip
        by_cases c18 : part ≤ (1 : Int32)
        · skip
          rw [show et_X11_odds M line name part = et_X11_odds_37 11 M line name part (0 : Int32) (0 : Int32) from by simp only [et_X11_odds, er13, if_neg c14, er15, if_neg c16, if_neg c17, if_pos c18]]
          exact (ef2_X11_odds_37  (by omega) _ _ _ _ _ _ _)
        · skip
          rw [show et_X11_odds M line name part = ((-9223372036854775808 : Int64), M) from by simp only [et_X11_odds, er13, if_neg c14, er15, if_neg c16, if_neg c17, if_neg c18]]
          all_goals rfl
theorem ef1_X11_mean  (M : em_M) (line : Int32) (part : Int32) {c : Nat} (h : c < 0 ∨ 117 < c) : (et_X11_mean M line part).2.1 c = M.1 c := by
  obtain ⟨r10, er10⟩ : ∃ z, et_X2_has M line = z := ⟨_, rfl⟩
  by_cases c11 : r10 = 0
  · skip
    rw [show et_X11_mean M line part = ((-9223372036854775808 : Int64), M) from by simp only [et_X11_mean, er10, if_pos c11]]
    all_goals rfl
  · skip
    by_cases c12 : part < 0
    · skip
      rw [show et_X11_mean M line part = ((-9223372036854775808 : Int64), M) from by simp only [et_X11_mean, er10, if_neg c11, if_pos c12]]
      all_goals rfl
    · skip
      by_cases c13 : part ≤ (1 : Int32)
      · skip
        obtain ⟨M14, eM14⟩ : ∃ z, et_X10_copyFrom 79 21 M = z := ⟨_, rfl⟩
        have fM14 : M14.1 c = M.1 c := by rw [← eM14]; exact (ef1_X10_copyFrom _ _ _ (by omega))
        obtain ⟨M15, eM15⟩ : ∃ z, et_X11_tryOut M14 line = z := ⟨_, rfl⟩
        have fM15 : M15.1 c = M14.1 c := by rw [← eM15]; exact (ef1_X11_tryOut _ _ (by omega))
        by_cases c16 : (M15.1 83 3) = 0
        · skip
          rw [show et_X11_mean M line part = ((-9223372036854775808 : Int64), M15) from by simp only [et_X11_mean, er10, if_neg c11, if_neg c12, if_pos c13, eM14, eM15, if_pos c16]]
          show M15.1 c = M.1 c
          exact (fM15).trans (fM14)
        · skip
          obtain ⟨r17, er17⟩ : ∃ z, et_X4_sum 83 M15 = z := ⟨_, rfl⟩
          obtain ⟨r18, er18⟩ : ∃ z, et_X11_inLowestTerms M15 r17 (M15.1 83 3) part = z := ⟨_, rfl⟩
          rw [show et_X11_mean M line part = (r18, M15) from by simp only [et_X11_mean, er10, if_neg c11, if_neg c12, if_pos c13, eM14, eM15, if_neg c16, er17, er18]]
          show M15.1 c = M.1 c
          exact (fM15).trans (fM14)
      · skip
        rw [show et_X11_mean M line part = ((-9223372036854775808 : Int64), M) from by simp only [et_X11_mean, er10, if_neg c11, if_neg c12, if_neg c13]]
        all_goals rfl
theorem ef2_X11_mean  (M : em_M) (line : Int32) (part : Int32) {c : Nat} (h : c < 0 ∨ 117 < c) : (et_X11_mean M line part).2.2 c = M.2 c := by
  obtain ⟨r10, er10⟩ : ∃ z, et_X2_has M line = z := ⟨_, rfl⟩
  by_cases c11 : r10 = 0
  · skip
    rw [show et_X11_mean M line part = ((-9223372036854775808 : Int64), M) from by simp only [et_X11_mean, er10, if_pos c11]]
    all_goals rfl
  · skip
    by_cases c12 : part < 0
    · skip
      rw [show et_X11_mean M line part = ((-9223372036854775808 : Int64), M) from by simp only [et_X11_mean, er10, if_neg c11, if_pos c12]]
      all_goals rfl
    · skip
      by_cases c13 : part ≤ (1 : Int32)
      · skip
        obtain ⟨M14, eM14⟩ : ∃ z, et_X10_copyFrom 79 21 M = z := ⟨_, rfl⟩
        have fM14 : M14.2 c = M.2 c := by rw [← eM14]; exact (ef2_X10_copyFrom _ _ _ (by omega))
        obtain ⟨M15, eM15⟩ : ∃ z, et_X11_tryOut M14 line = z := ⟨_, rfl⟩
        have fM15 : M15.2 c = M14.2 c := by rw [← eM15]; exact (ef2_X11_tryOut _ _ (by omega))
        by_cases c16 : (M15.1 83 3) = 0
        · skip
          rw [show et_X11_mean M line part = ((-9223372036854775808 : Int64), M15) from by simp only [et_X11_mean, er10, if_neg c11, if_neg c12, if_pos c13, eM14, eM15, if_pos c16]]
          show M15.2 c = M.2 c
          exact (fM15).trans (fM14)
        · skip
          obtain ⟨r17, er17⟩ : ∃ z, et_X4_sum 83 M15 = z := ⟨_, rfl⟩
          obtain ⟨r18, er18⟩ : ∃ z, et_X11_inLowestTerms M15 r17 (M15.1 83 3) part = z := ⟨_, rfl⟩
          rw [show et_X11_mean M line part = (r18, M15) from by simp only [et_X11_mean, er10, if_neg c11, if_neg c12, if_pos c13, eM14, eM15, if_neg c16, er17, er18]]
          show M15.2 c = M.2 c
          exact (fM15).trans (fM14)
      · skip
        rw [show et_X11_mean M line part = ((-9223372036854775808 : Int64), M) from by simp only [et_X11_mean, er10, if_neg c11, if_neg c12, if_neg c13]]
        all_goals rfl
theorem ef1_X11_plan  (M : em_M) (what : Int32) (n : Int32) {c : Nat} (h : c < 0 ∨ 117 < c) : (et_X11_plan M what n).2.1 c = M.1 c := by
  by_cases c23 : what = (-1 : Int32)
  · skip
    obtain ⟨r42, M43, eM43⟩ : ∃ y z, et_X6_empty 15 M = (y, z) := ⟨_, _, rfl⟩
    have fM43 : M43.1 c = M.1 c := by
      have q : (et_X6_empty 15 M).2.1 c = M.1 c := (ef1_X6_empty _ _ (by omega))
      rw [eM43] at q
      exact q
    rw [show et_X11_plan M what n = (r42, M43) from by simp only [et_X11_plan, if_pos c23, eM43]]
    show M43.1 c = M.1 c
    exact fM43
  · skip
    by_cases c24 : what = 0
    · skip
      obtain ⟨r37, er37⟩ : ∃ z, et_X2_has M n = z := ⟨_, rfl⟩
      by_cases c38 : r37 = 0
      · skip
        rw [show et_X11_plan M what n = ((-1 : Int32), M) from by simp only [et_X11_plan, if_neg c23, if_pos c24, er37, if_pos c38]]
        all_goals rfl
      · skip
        obtain ⟨r39, M40, eM40⟩ : ∃ y z, et_X6_add 15 M what n = (y, z) := ⟨_, _, rfl⟩
        have fM40 : M40.1 c = M.1 c := by
          have q : (et_X6_add 15 M what n).2.1 c = M.1 c := (ef1_X6_add _ _ _ _ (by omega))
          rw [eM40] at q
          exact q
        rw [show et_X11_plan M what n = (r39, M40) from by simp only [et_X11_plan, if_neg c23, if_pos c24, er37, if_neg c38, eM40]]
        show M40.1 c = M.1 c
        exact fM40
    · skip
      by_cases c25 : what = (1 : Int32)
      · skip
        obtain ⟨r32, er32⟩ : ∃ z, et_X11_isName M n = z := ⟨_, rfl⟩
        by_cases c33 : r32 = 0
        · skip
          rw [show et_X11_plan M what n = ((-1 : Int32), M) from by simp only [et_X11_plan, if_neg c23, if_neg c24, if_pos c25, er32, if_pos c33]]
          all_goals rfl
        · skip
          obtain ⟨r34, M35, eM35⟩ : ∃ y z, et_X6_add 15 M what n = (y, z) := ⟨_, _, rfl⟩
          have fM35 : M35.1 c = M.1 c := by
            have q : (et_X6_add 15 M what n).2.1 c = M.1 c := (ef1_X6_add _ _ _ _ (by omega))
            rw [eM35] at q
            exact q
          rw [show et_X11_plan M what n = (r34, M35) from by simp only [et_X11_plan, if_neg c23, if_neg c24, if_pos c25, er32, if_neg c33, eM35]]
          show M35.1 c = M.1 c
          exact fM35
      · skip
        by_cases c26 : what = (2 : Int32)
        · skip
          obtain ⟨r27, er27⟩ : ∃ z, et_X11_isFunction M n = z := ⟨_, rfl⟩
          by_cases c28 : r27 = 0
          · skip
            rw [show et_X11_plan M what n = ((-1 : Int32), M) from by simp only [et_X11_plan, if_neg c23, if_neg c24, if_neg c25, if_pos c26, er27, if_pos c28]]
            all_goals rfl
          · skip
            obtain ⟨r29, M30, eM30⟩ : ∃ y z, et_X6_add 15 M what n = (y, z) := ⟨_, _, rfl⟩
            have fM30 : M30.1 c = M.1 c := by
              have q : (et_X6_add 15 M what n).2.1 c = M.1 c := (ef1_X6_add _ _ _ _ (by omega))
              rw [eM30] at q
              exact q
            rw [show et_X11_plan M what n = (r29, M30) from by simp only [et_X11_plan, if_neg c23, if_neg c24, if_neg c25, if_pos c26, er27, if_neg c28, eM30]]
            show M30.1 c = M.1 c
            exact fM30
        · skip
          rw [show et_X11_plan M what n = ((-1 : Int32), M) from by simp only [et_X11_plan, if_neg c23, if_neg c24, if_neg c25, if_neg c26]]
          all_goals rfl
theorem ef2_X11_plan  (M : em_M) (what : Int32) (n : Int32) {c : Nat} (h : c < 0 ∨ 117 < c) : (et_X11_plan M what n).2.2 c = M.2 c := by
  by_cases c23 : what = (-1 : Int32)
  · skip
    obtain ⟨r42, M43, eM43⟩ : ∃ y z, et_X6_empty 15 M = (y, z) := ⟨_, _, rfl⟩
    have fM43 : M43.2 c = M.2 c := by
      have q : (et_X6_empty 15 M).2.2 c = M.2 c := (ef2_X6_empty _ _ (by omega))
      rw [eM43] at q
      exact q
    rw [show et_X11_plan M what n = (r42, M43) from by simp only [et_X11_plan, if_pos c23, eM43]]
    show M43.2 c = M.2 c
    exact fM43
  · skip
    by_cases c24 : what = 0
    · skip
      obtain ⟨r37, er37⟩ : ∃ z, et_X2_has M n = z := ⟨_, rfl⟩
      by_cases c38 : r37 = 0
      · skip
        rw [show et_X11_plan M what n = ((-1 : Int32), M) from by simp only [et_X11_plan, if_neg c23, if_pos c24, er37, if_pos c38]]
        all_goals rfl
      · skip
        obtain ⟨r39, M40, eM40⟩ : ∃ y z, et_X6_add 15 M what n = (y, z) := ⟨_, _, rfl⟩
        have fM40 : M40.2 c = M.2 c := by
          have q : (et_X6_add 15 M what n).2.2 c = M.2 c := (ef2_X6_add _ _ _ _ (by omega))
          rw [eM40] at q
          exact q
        rw [show et_X11_plan M what n = (r39, M40) from by simp only [et_X11_plan, if_neg c23, if_pos c24, er37, if_neg c38, eM40]]
        show M40.2 c = M.2 c
        exact fM40
    · skip
      by_cases c25 : what = (1 : Int32)
      · skip
        obtain ⟨r32, er32⟩ : ∃ z, et_X11_isName M n = z := ⟨_, rfl⟩
        by_cases c33 : r32 = 0
        · skip
          rw [show et_X11_plan M what n = ((-1 : Int32), M) from by simp only [et_X11_plan, if_neg c23, if_neg c24, if_pos c25, er32, if_pos c33]]
          all_goals rfl
        · skip
          obtain ⟨r34, M35, eM35⟩ : ∃ y z, et_X6_add 15 M what n = (y, z) := ⟨_, _, rfl⟩
          have fM35 : M35.2 c = M.2 c := by
            have q : (et_X6_add 15 M what n).2.2 c = M.2 c := (ef2_X6_add _ _ _ _ (by omega))
            rw [eM35] at q
            exact q
          rw [show et_X11_plan M what n = (r34, M35) from by simp only [et_X11_plan, if_neg c23, if_neg c24, if_pos c25, er32, if_neg c33, eM35]]
          show M35.2 c = M.2 c
          exact fM35
      · skip
        by_cases c26 : what = (2 : Int32)
        · skip
          obtain ⟨r27, er27⟩ : ∃ z, et_X11_isFunction M n = z := ⟨_, rfl⟩
          by_cases c28 : r27 = 0
          · skip
            rw [show et_X11_plan M what n = ((-1 : Int32), M) from by simp only [et_X11_plan, if_neg c23, if_neg c24, if_neg c25, if_pos c26, er27, if_pos c28]]
            all_goals rfl
          · skip
            obtain ⟨r29, M30, eM30⟩ : ∃ y z, et_X6_add 15 M what n = (y, z) := ⟨_, _, rfl⟩
            have fM30 : M30.2 c = M.2 c := by
              have q : (et_X6_add 15 M what n).2.2 c = M.2 c := (ef2_X6_add _ _ _ _ (by omega))
              rw [eM30] at q
              exact q
            rw [show et_X11_plan M what n = (r29, M30) from by simp only [et_X11_plan, if_neg c23, if_neg c24, if_neg c25, if_pos c26, er27, if_neg c28, eM30]]
            show M30.2 c = M.2 c
            exact fM30
        · skip
          rw [show et_X11_plan M what n = ((-1 : Int32), M) from by simp only [et_X11_plan, if_neg c23, if_neg c24, if_neg c25, if_neg c26]]
          all_goals rfl
theorem ef1_X11_ends_27    {c : Nat} (h : c < 0 ∨ 117 < c) : ∀ (fu : Nat) (M : em_M) (name : Int32) (row : Int32), (et_X11_ends_27  fu M name row).2.1 c = M.1 c := by
  intro fu
  induction fu with
  | zero => intros; rfl
  | succ fu ih =>
    intro M name row
    by_cases c16 : (M.1 15 0) ≤ row
    · skip
      obtain ⟨r17, er17⟩ : ∃ z, et_X11_at 80 4 M name = z := ⟨_, rfl⟩
      rw [show et_X11_ends_27  (fu + 1) M name row = ((r17).toInt64, M) from by simp only [et_X11_ends_27, if_pos c16, er17]]
      all_goals rfl
    · skip
      obtain ⟨r18, er18⟩ : ∃ z, et_X11_at 17 10 M row = z := ⟨_, rfl⟩
      obtain ⟨r19, er19⟩ : ∃ z, et_X11_at 16 10 M row = z := ⟨_, rfl⟩
      by_cases c20 : r19 = (0 : Int32)
      · skip
        obtain ⟨M21, eM21⟩ : ∃ z, et_X11_tryOut M r18 = z := ⟨_, rfl⟩
        have fM21 : M21.1 c = M.1 c := by rw [← eM21]; exact (ef1_X11_tryOut _ _ (by omega))
        rw [show et_X11_ends_27  (fu + 1) M name row = et_X11_ends_27 fu M21 name (row + (1 : Int32)) from by simp only [et_X11_ends_27, if_neg c16, er18, er19, if_pos c20, eM21]]
        exact (ih _ _ _).trans (fM21)
      · skip
        by_cases c22 : r19 = (1 : Int32)
        · skip
          obtain ⟨M23, eM23⟩ : ∃ z, et_X11_put 80 4 M r18 (0 : Int32) = z := ⟨_, rfl⟩
          have fM23 : M23.1 c = M.1 c := by rw [← eM23]; exact ef_put1 (by omega)
          rw [show et_X11_ends_27  (fu + 1) M name row = et_X11_ends_27 fu M23 name (row + (1 : Int32)) from by simp only [et_X11_ends_27, if_neg c16, er18, er19, if_neg c20, if_pos c22, eM23]]
          exact (ih _ _ _).trans (fM23)
        · skip
          obtain ⟨M24, eM24⟩ : ∃ z, et_X11_put 81 3 M r18 (-5 : Int32) = z := ⟨_, rfl⟩
          have fM24 : M24.1 c = M.1 c := by rw [← eM24]; exact ef_put1 (by omega)
          rw [show et_X11_ends_27  (fu + 1) M name row = et_X11_ends_27 fu M24 name (row + (1 : Int32)) from by simp only [et_X11_ends_27, if_neg c16, er18, er19, if_neg c20, if_neg c22, eM24]]
          exact (ih _ _ _).trans (fM24)
theorem ef2_X11_ends_27    {c : Nat} (h : c < 0 ∨ 117 < c) : ∀ (fu : Nat) (M : em_M) (name : Int32) (row : Int32), (et_X11_ends_27  fu M name row).2.2 c = M.2 c := by
  intro fu
  induction fu with
  | zero => intros; rfl
  | succ fu ih =>
    intro M name row
    by_cases c16 : (M.1 15 0) ≤ row
    · skip
      obtain ⟨r17, er17⟩ : ∃ z, et_X11_at 80 4 M name = z := ⟨_, rfl⟩
      rw [show et_X11_ends_27  (fu + 1) M name row = ((r17).toInt64, M) from by simp only [et_X11_ends_27, if_pos c16, er17]]
      all_goals rfl
    · skip
      obtain ⟨r18, er18⟩ : ∃ z, et_X11_at 17 10 M row = z := ⟨_, rfl⟩
      obtain ⟨r19, er19⟩ : ∃ z, et_X11_at 16 10 M row = z := ⟨_, rfl⟩
      by_cases c20 : r19 = (0 : Int32)
      · skip
        obtain ⟨M21, eM21⟩ : ∃ z, et_X11_tryOut M r18 = z := ⟨_, rfl⟩
        have fM21 : M21.2 c = M.2 c := by rw [← eM21]; exact (ef2_X11_tryOut _ _ (by omega))
        rw [show et_X11_ends_27  (fu + 1) M name row = et_X11_ends_27 fu M21 name (row + (1 : Int32)) from by simp only [et_X11_ends_27, if_neg c16, er18, er19, if_pos c20, eM21]]
        exact (ih _ _ _).trans (fM21)
      · skip
        by_cases c22 : r19 = (1 : Int32)
        · skip
          obtain ⟨M23, eM23⟩ : ∃ z, et_X11_put 80 4 M r18 (0 : Int32) = z := ⟨_, rfl⟩
          have fM23 : M23.2 c = M.2 c := by rw [← eM23]; exact (congrFun ef_put12 _)
          rw [show et_X11_ends_27  (fu + 1) M name row = et_X11_ends_27 fu M23 name (row + (1 : Int32)) from by simp only [et_X11_ends_27, if_neg c16, er18, er19, if_neg c20, if_pos c22, eM23]]
          exact (ih _ _ _).trans (fM23)
        · skip
          obtain ⟨M24, eM24⟩ : ∃ z, et_X11_put 81 3 M r18 (-5 : Int32) = z := ⟨_, rfl⟩
          have fM24 : M24.2 c = M.2 c := by rw [← eM24]; exact (congrFun ef_put12 _)
          rw [show et_X11_ends_27  (fu + 1) M name row = et_X11_ends_27 fu M24 name (row + (1 : Int32)) from by simp only [et_X11_ends_27, if_neg c16, er18, er19, if_neg c20, if_neg c22, eM24]]
          exact (ih _ _ _).trans (fM24)
theorem ef1_X11_ends  (M : em_M) (name : Int32) {c : Nat} (h : c < 0 ∨ 117 < c) : (et_X11_ends M name).2.1 c = M.1 c := by
  obtain ⟨r13, er13⟩ : ∃ z, et_X11_isName M name = z := ⟨_, rfl⟩
  by_cases c14 : r13 = 0
  · skip
    rw [show et_X11_ends M name = ((-9223372036854775808 : Int64), M) from by simp only [et_X11_ends, er13, if_pos c14]]
    all_goals rfl
  · skip
    obtain ⟨M15, eM15⟩ : ∃ z, et_X10_copyFrom 79 21 M = z := ⟨_, rfl⟩
    have fM15 : M15.1 c = M.1 c := by rw [← eM15]; exact (ef1_X10_copyFrom _ _ _ (by omega))
    rw [show et_X11_ends M name = et_X11_ends_27 ((M15.1 15 0).toNatClampNeg + 1) M15 name (0 : Int32) from by simp only [et_X11_ends, er13, if_neg c14, eM15]]
    exact ((ef1_X11_ends_27  (by omega) _ _ _ _)).trans (fM15)
theorem ef2_X11_ends  (M : em_M) (name : Int32) {c : Nat} (h : c < 0 ∨ 117 < c) : (et_X11_ends M name).2.2 c = M.2 c := by
  obtain ⟨r13, er13⟩ : ∃ z, et_X11_isName M name = z := ⟨_, rfl⟩
  by_cases c14 : r13 = 0
  · skip
    rw [show et_X11_ends M name = ((-9223372036854775808 : Int64), M) from by simp only [et_X11_ends, er13, if_pos c14]]
    all_goals rfl
  · skip
    obtain ⟨M15, eM15⟩ : ∃ z, et_X10_copyFrom 79 21 M = z := ⟨_, rfl⟩
    have fM15 : M15.2 c = M.2 c := by rw [← eM15]; exact (ef2_X10_copyFrom _ _ _ (by omega))
    rw [show et_X11_ends M name = et_X11_ends_27 ((M15.1 15 0).toNatClampNeg + 1) M15 name (0 : Int32) from by simp only [et_X11_ends, er13, if_neg c14, eM15]]
    exact ((ef2_X11_ends_27  (by omega) _ _ _ _)).trans (fM15)
theorem ef1_X11_book  (M : em_M) (name : Int32) (v : Int32) {c : Nat} (h : c < 0 ∨ 117 < c) : (et_X11_book M name v).2.1 c = M.1 c := by
  by_cases c10 : name = (-1 : Int32)
  · skip
    obtain ⟨r16, M17, eM17⟩ : ∃ y z, et_X6_empty 18 M = (y, z) := ⟨_, _, rfl⟩
    have fM17 : M17.1 c = M.1 c := by
      have q : (et_X6_empty 18 M).2.1 c = M.1 c := (ef1_X6_empty _ _ (by omega))
      rw [eM17] at q
      exact q
    rw [show et_X11_book M name v = (r16, M17) from by simp only [et_X11_book, if_pos c10, eM17]]
    show M17.1 c = M.1 c
    exact fM17
  · skip
    obtain ⟨r11, er11⟩ : ∃ z, et_X11_isName M name = z := ⟨_, rfl⟩
    by_cases c12 : r11 = 0
    · skip
      rw [show et_X11_book M name v = ((-1 : Int32), M) from by simp only [et_X11_book, if_neg c10, er11, if_pos c12]]
      all_goals rfl
    · skip
      obtain ⟨r13, M14, eM14⟩ : ∃ y z, et_X6_add 18 M name v = (y, z) := ⟨_, _, rfl⟩
      have fM14 : M14.1 c = M.1 c := by
        have q : (et_X6_add 18 M name v).2.1 c = M.1 c := (ef1_X6_add _ _ _ _ (by omega))
        rw [eM14] at q
        exact q
      rw [show et_X11_book M name v = (r13, M14) from by simp only [et_X11_book, if_neg c10, er11, if_neg c12, eM14]]
      show M14.1 c = M.1 c
      exact fM14
theorem ef2_X11_book  (M : em_M) (name : Int32) (v : Int32) {c : Nat} (h : c < 0 ∨ 117 < c) : (et_X11_book M name v).2.2 c = M.2 c := by
  by_cases c10 : name = (-1 : Int32)
  · skip
    obtain ⟨r16, M17, eM17⟩ : ∃ y z, et_X6_empty 18 M = (y, z) := ⟨_, _, rfl⟩
    have fM17 : M17.2 c = M.2 c := by
      have q : (et_X6_empty 18 M).2.2 c = M.2 c := (ef2_X6_empty _ _ (by omega))
      rw [eM17] at q
      exact q
    rw [show et_X11_book M name v = (r16, M17) from by simp only [et_X11_book, if_pos c10, eM17]]
    show M17.2 c = M.2 c
    exact fM17
  · skip
    obtain ⟨r11, er11⟩ : ∃ z, et_X11_isName M name = z := ⟨_, rfl⟩
    by_cases c12 : r11 = 0
    · skip
      rw [show et_X11_book M name v = ((-1 : Int32), M) from by simp only [et_X11_book, if_neg c10, er11, if_pos c12]]
      all_goals rfl
    · skip
      obtain ⟨r13, M14, eM14⟩ : ∃ y z, et_X6_add 18 M name v = (y, z) := ⟨_, _, rfl⟩
      have fM14 : M14.2 c = M.2 c := by
        have q : (et_X6_add 18 M name v).2.2 c = M.2 c := (ef2_X6_add _ _ _ _ (by omega))
        rw [eM14] at q
        exact q
      rw [show et_X11_book M name v = (r13, M14) from by simp only [et_X11_book, if_neg c10, er11, if_neg c12, eM14]]
      show M14.2 c = M.2 c
      exact fM14
theorem ef1_X11_image  (M : em_M) {c : Nat} (h : c < 0 ∨ 117 < c) : (et_X11_image M).2.1 c = M.1 c := by
  obtain ⟨M3, eM3⟩ : ∃ z, et_X1_copyFrom 45 11 M = z := ⟨_, rfl⟩
  have fM3 : M3.1 c = M.1 c := by rw [← eM3]; exact (ef1_X1_copyFrom _ _ _ (by omega))
  obtain ⟨M4, eM4⟩ : ∃ z, em_pI M3 0 4 (1 : Int32) = z := ⟨_, rfl⟩
  have fM4 : M4.1 c = M3.1 c := by rw [← eM4]; exact ef_pI' _ _ _ _ (by omega)
  rw [show et_X11_image M = ((M4.1 1 0), M4) from by simp only [et_X11_image, eM3, eM4]]
  show M4.1 c = M.1 c
  exact (fM4).trans (fM3)
theorem ef2_X11_image  (M : em_M) {c : Nat} (h : c < 0 ∨ 117 < c) : (et_X11_image M).2.2 c = M.2 c := by
  obtain ⟨M3, eM3⟩ : ∃ z, et_X1_copyFrom 45 11 M = z := ⟨_, rfl⟩
  have fM3 : M3.2 c = M.2 c := by rw [← eM3]; exact (ef2_X1_copyFrom _ _ _ (by omega))
  obtain ⟨M4, eM4⟩ : ∃ z, em_pI M3 0 4 (1 : Int32) = z := ⟨_, rfl⟩
  have fM4 : M4.2 c = M3.2 c := by rw [← eM4]; exact rfl
  rw [show et_X11_image M = ((M4.1 1 0), M4) from by simp only [et_X11_image, eM3, eM4]]
  show M4.2 c = M.2 c
  exact (fM4).trans (fM3)
theorem ef1_X11_undo  (M : em_M) {c : Nat} (h : c < 0 ∨ 117 < c) : (et_X11_undo M).2.1 c = M.1 c := by
  by_cases c3 : (M.1 0 4) = 0
  · skip
    rw [show et_X11_undo M = ((-3 : Int32), M) from by simp only [et_X11_undo, if_pos c3]]
    all_goals rfl
  · skip
    obtain ⟨M4, eM4⟩ : ∃ z, et_X1_copyFrom 11 45 M = z := ⟨_, rfl⟩
    have fM4 : M4.1 c = M.1 c := by rw [← eM4]; exact (ef1_X1_copyFrom _ _ _ (by omega))
    rw [show et_X11_undo M = ((M4.1 1 0), M4) from by simp only [et_X11_undo, if_neg c3, eM4]]
    show M4.1 c = M.1 c
    exact fM4
theorem ef2_X11_undo  (M : em_M) {c : Nat} (h : c < 0 ∨ 117 < c) : (et_X11_undo M).2.2 c = M.2 c := by
  by_cases c3 : (M.1 0 4) = 0
  · skip
    rw [show et_X11_undo M = ((-3 : Int32), M) from by simp only [et_X11_undo, if_pos c3]]
    all_goals rfl
  · skip
    obtain ⟨M4, eM4⟩ : ∃ z, et_X1_copyFrom 11 45 M = z := ⟨_, rfl⟩
    have fM4 : M4.2 c = M.2 c := by rw [← eM4]; exact (ef2_X1_copyFrom _ _ _ (by omega))
    rw [show et_X11_undo M = ((M4.1 1 0), M4) from by simp only [et_X11_undo, if_neg c3, eM4]]
    show M4.2 c = M.2 c
    exact fM4
theorem ef1_X12_feed  (M : em_M) (sign : Int32) {c : Nat} (h : c < 118 ∨ 131 < c) : (et_X12_feed M sign).2.1 c = M.1 c := by
  obtain ⟨r1, er1⟩ : ∃ z, et_X12_in M ((sign).toInt64) (0 : Int64) (127 : Int64) = z := ⟨_, rfl⟩
  by_cases c2 : r1 = 0
  · skip
    rw [show et_X12_feed M sign = ((-2 : Int32), M) from by simp only [et_X12_feed, er1, if_pos c2]]
    all_goals rfl
  · skip
    by_cases c3 : (M.1 118 11) = (100 : Int32)
    · skip
      rw [show et_X12_feed M sign = ((-4 : Int32), M) from by simp only [et_X12_feed, er1, if_neg c2, if_pos c3]]
      all_goals rfl
    · skip
      obtain ⟨M4, eM4⟩ : ∃ z, em_pI M 127 ((M.1 118 11)).toNatClampNeg sign = z := ⟨_, rfl⟩
      have fM4 : M4.1 c = M.1 c := by rw [← eM4]; exact ef_pI' _ _ _ _ (by omega)
      obtain ⟨M5, eM5⟩ : ∃ z, em_pI M4 118 11 ((M4.1 118 11) + (1 : Int32)) = z := ⟨_, rfl⟩
      have fM5 : M5.1 c = M4.1 c := by rw [← eM5]; exact ef_pI' _ _ _ _ (by omega)
      rw [show et_X12_feed M sign = ((M5.1 118 11), M5) from by simp only [et_X12_feed, er1, if_neg c2, if_neg c3, eM4, eM5]]
      show M5.1 c = M.1 c
      exact (fM5).trans (fM4)
theorem ef2_X12_feed  (M : em_M) (sign : Int32) {c : Nat} (h : c < 118 ∨ 131 < c) : (et_X12_feed M sign).2.2 c = M.2 c := by
  obtain ⟨r1, er1⟩ : ∃ z, et_X12_in M ((sign).toInt64) (0 : Int64) (127 : Int64) = z := ⟨_, rfl⟩
  by_cases c2 : r1 = 0
  · skip
    rw [show et_X12_feed M sign = ((-2 : Int32), M) from by simp only [et_X12_feed, er1, if_pos c2]]
    all_goals rfl
  · skip
    by_cases c3 : (M.1 118 11) = (100 : Int32)
    · skip
      rw [show et_X12_feed M sign = ((-4 : Int32), M) from by simp only [et_X12_feed, er1, if_neg c2, if_pos c3]]
      all_goals rfl
    · skip
      obtain ⟨M4, eM4⟩ : ∃ z, em_pI M 127 ((M.1 118 11)).toNatClampNeg sign = z := ⟨_, rfl⟩
      have fM4 : M4.2 c = M.2 c := by rw [← eM4]; exact rfl
      obtain ⟨M5, eM5⟩ : ∃ z, em_pI M4 118 11 ((M4.1 118 11) + (1 : Int32)) = z := ⟨_, rfl⟩
      have fM5 : M5.2 c = M4.2 c := by rw [← eM5]; exact rfl
      rw [show et_X12_feed M sign = ((M5.1 118 11), M5) from by simp only [et_X12_feed, er1, if_neg c2, if_neg c3, eM4, eM5]]
      show M5.2 c = M.2 c
      exact (fM5).trans (fM4)
theorem ef1_X12_stops  (M : em_M) {c : Nat} (h : c < 118 ∨ 131 < c) : (et_X12_stops M).2.1 c = M.1 c := by
  obtain ⟨M1, eM1⟩ : ∃ z, em_pI M 118 13 (M.1 118 12) = z := ⟨_, rfl⟩
  have fM1 : M1.1 c = M.1 c := by rw [← eM1]; exact ef_pI' _ _ _ _ (by omega)
  rw [show et_X12_stops M = ((-1 : Int32), M1) from by simp only [et_X12_stops, eM1]]
  show M1.1 c = M.1 c
  exact fM1
theorem ef2_X12_stops  (M : em_M) {c : Nat} (h : c < 118 ∨ 131 < c) : (et_X12_stops M).2.2 c = M.2 c := by
  obtain ⟨M1, eM1⟩ : ∃ z, em_pI M 118 13 (M.1 118 12) = z := ⟨_, rfl⟩
  have fM1 : M1.2 c = M.2 c := by rw [← eM1]; exact rfl
  rw [show et_X12_stops M = ((-1 : Int32), M1) from by simp only [et_X12_stops, eM1]]
  show M1.2 c = M.2 c
  exact fM1
theorem ef1_X12_part (E : em_M → Int32 → Int32 × em_M) (M : em_M) (e : Int32) (deep : Int32) {c : Nat} (h : c < 118 ∨ 131 < c) (hE : ∀ (M : em_M) (x : Int32), (E M x).2.1 c = M.1 c) : (et_X12_part E M e deep).2.1 c = M.1 c := by
  obtain ⟨r1, M2, eM2⟩ : ∃ y z, E M (deep + (1 : Int32)) = (y, z) := ⟨_, _, rfl⟩
  have fM2 : M2.1 c = M.1 c := by
    have q : (E M (deep + (1 : Int32))).2.1 c = M.1 c := hE _ _
    rw [eM2] at q
    exact q
  by_cases c4 : 0 ≤ r1
  · skip
    obtain ⟨M5, eM5⟩ : ∃ z, em_pI M2 125 ((((5 : Int32) * e) + (M2.1 124 (e).toNatClampNeg))).toNatClampNeg r1 = z := ⟨_, rfl⟩
    have fM5 : M5.1 c = M2.1 c := by rw [← eM5]; exact ef_pI' _ _ _ _ (by omega)
    obtain ⟨M6, eM6⟩ : ∃ z, em_pI M5 124 (e).toNatClampNeg ((M5.1 124 (e).toNatClampNeg) + (1 : Int32)) = z := ⟨_, rfl⟩
    have fM6 : M6.1 c = M5.1 c := by rw [← eM6]; exact ef_pI' _ _ _ _ (by omega)
    rw [show et_X12_part E M e deep = (r1, M6) from by simp only [et_X12_part, eM2, if_pos c4, eM5, eM6]]
    show M6.1 c = M.1 c
    exact (fM6).trans ((fM5).trans (fM2))
  · skip
    rw [show et_X12_part E M e deep = ((-1 : Int32), M2) from by simp only [et_X12_part, eM2, if_neg c4]]
    show M2.1 c = M.1 c
    exact fM2
theorem ef2_X12_part (E : em_M → Int32 → Int32 × em_M) (M : em_M) (e : Int32) (deep : Int32) {c : Nat} (h : c < 118 ∨ 131 < c) (hE : ∀ (M : em_M) (x : Int32), (E M x).2.2 c = M.2 c) : (et_X12_part E M e deep).2.2 c = M.2 c := by
  obtain ⟨r1, M2, eM2⟩ : ∃ y z, E M (deep + (1 : Int32)) = (y, z) := ⟨_, _, rfl⟩
  have fM2 : M2.2 c = M.2 c := by
    have q : (E M (deep + (1 : Int32))).2.2 c = M.2 c := hE _ _
    rw [eM2] at q
    exact q
  by_cases c4 : 0 ≤ r1
  · skip
    obtain ⟨M5, eM5⟩ : ∃ z, em_pI M2 125 ((((5 : Int32) * e) + (M2.1 124 (e).toNatClampNeg))).toNatClampNeg r1 = z := ⟨_, rfl⟩
    have fM5 : M5.2 c = M2.2 c := by rw [← eM5]; exact rfl
    obtain ⟨M6, eM6⟩ : ∃ z, em_pI M5 124 (e).toNatClampNeg ((M5.1 124 (e).toNatClampNeg) + (1 : Int32)) = z := ⟨_, rfl⟩
    have fM6 : M6.2 c = M5.2 c := by rw [← eM6]; exact rfl
    rw [show et_X12_part E M e deep = (r1, M6) from by simp only [et_X12_part, eM2, if_pos c4, eM5, eM6]]
    show M6.2 c = M.2 c
    exact (fM6).trans ((fM5).trans (fM2))
  · skip
    rw [show et_X12_part E M e deep = ((-1 : Int32), M2) from by simp only [et_X12_part, eM2, if_neg c4]]
    show M2.2 c = M.2 c
    exact fM2
theorem ef1_X12_list_10 (E : em_M → Int32 → Int32 × em_M) (deep : Int32)  {c : Nat} (h : c < 118 ∨ 131 < c) (hE : ∀ (M : em_M) (x : Int32), (E M x).2.1 c = M.1 c) : ∀ (fu : Nat) (M : em_M) (e : Int32), (et_X12_list_10 E deep fu M e).2.1 c = M.1 c := by
  intro fu
  induction fu with
  | zero => intros; rfl
  | succ fu ih =>
    intro M e
    obtain ⟨r2, M3, eM3⟩ : ∃ y z, et_X12_part E M e deep = (y, z) := ⟨_, _, rfl⟩
    have fM3 : M3.1 c = M.1 c := by
      have q : (et_X12_part E M e deep).2.1 c = M.1 c := (ef1_X12_part _ _ _ _ (by omega) hE)
      rw [eM3] at q
      exact q
    by_cases c5 : r2 < 0
    · skip
      rw [show et_X12_list_10 E deep (fu + 1) M e = ((-1 : Int32), M3) from by simp only [et_X12_list_10, eM3, if_pos c5]]
      show M3.1 c = M.1 c
      exact fM3
    · skip
      by_cases c6 : (M3.1 124 (e).toNatClampNeg) = (5 : Int32)
      · skip
        obtain ⟨r7, M8, eM8⟩ : ∃ y z, et_X12_is M3 (93 : Int32) = (y, z) := ⟨_, _, rfl⟩
        have fM8 : M8.1 c = M3.1 c := by
          have q : (et_X12_is M3 (93 : Int32)).2.1 c = M3.1 c := (ef1_X12_is _ _ (by omega))
          rw [eM8] at q
          exact q
        by_cases c10 : r7 = 0
        · skip
          obtain ⟨r11, M12, eM12⟩ : ∃ y z, et_X12_stops M8 = (y, z) := ⟨_, _, rfl⟩
          have fM12 : M12.1 c = M8.1 c := by
            have q : (et_X12_stops M8).2.1 c = M8.1 c := (ef1_X12_stops _ (by omega))
            rw [eM12] at q
            exact q
          rw [show et_X12_list_10 E deep (fu + 1) M e = (r11, M12) from by simp only [et_X12_list_10, eM3, if_neg c5, if_pos c6, eM8, if_pos c10, eM12]]
          show M12.1 c = M.1 c
          exact (fM12).trans ((fM8).trans (fM3))
        · skip
          rw [show et_X12_list_10 E deep (fu + 1) M e = (e, M8) from by simp only [et_X12_list_10, eM3, if_neg c5, if_pos c6, eM8, if_neg c10]]
          show M8.1 c = M.1 c
          exact (fM8).trans (fM3)
      · skip
        obtain ⟨r14, er14⟩ : ∃ z, et_X12_byteAt M3 (M3.1 118 12) = z := ⟨_, rfl⟩
        by_cases c15 : r14 = (44 : Int32)
        · skip
          obtain ⟨M16, eM16⟩ : ∃ z, em_pI M3 118 12 ((M3.1 118 12) + (1 : Int32)) = z := ⟨_, rfl⟩
          have fM16 : M16.1 c = M3.1 c := by rw [← eM16]; exact ef_pI' _ _ _ _ (by omega)
          rw [show et_X12_list_10 E deep (fu + 1) M e = et_X12_list_10 E deep fu M16 e from by simp only [et_X12_list_10, eM3, if_neg c5, if_neg c6, er14, if_pos c15, eM16]]
          exact (ih _ _).trans ((fM16).trans (fM3))
        · skip
          obtain ⟨r17, M18, eM18⟩ : ∃ y z, et_X12_is M3 (93 : Int32) = (y, z) := ⟨_, _, rfl⟩
          have fM18 : M18.1 c = M3.1 c := by
            have q : (et_X12_is M3 (93 : Int32)).2.1 c = M3.1 c := (ef1_X12_is _ _ (by omega))
            rw [eM18] at q
            exact q
          by_cases c20 : r17 = 0
          · skip
            obtain ⟨r21, M22, eM22⟩ : ∃ y z, et_X12_stops M18 = (y, z) := ⟨_, _, rfl⟩
            have fM22 : M22.1 c = M18.1 c := by
              have q : (et_X12_stops M18).2.1 c = M18.1 c := (ef1_X12_stops _ (by omega))
              rw [eM22] at q
              exact q
            rw [show et_X12_list_10 E deep (fu + 1) M e = (r21, M22) from by simp only [et_X12_list_10, eM3, if_neg c5, if_neg c6, er14, if_neg c15, eM18, if_pos c20, eM22]]
            show M22.1 c = M.1 c
            exact (fM22).trans ((fM18).trans (fM3))
          · skip
            rw [show et_X12_list_10 E deep (fu + 1) M e = (e, M18) from by simp only [et_X12_list_10, eM3, if_neg c5, if_neg c6, er14, if_neg c15, eM18, if_neg c20]]
            show M18.1 c = M.1 c
            exact (fM18).trans (fM3)
theorem ef2_X12_list_10 (E : em_M → Int32 → Int32 × em_M) (deep : Int32)  {c : Nat} (h : c < 118 ∨ 131 < c) (hE : ∀ (M : em_M) (x : Int32), (E M x).2.2 c = M.2 c) : ∀ (fu : Nat) (M : em_M) (e : Int32), (et_X12_list_10 E deep fu M e).2.2 c = M.2 c := by
  intro fu
  induction fu with
  | zero => intros; rfl
  | succ fu ih =>
    intro M e
    obtain ⟨r2, M3, eM3⟩ : ∃ y z, et_X12_part E M e deep = (y, z) := ⟨_, _, rfl⟩
    have fM3 : M3.2 c = M.2 c := by
      have q : (et_X12_part E M e deep).2.2 c = M.2 c := (ef2_X12_part _ _ _ _ (by omega) hE)
      rw [eM3] at q
      exact q
    by_cases c5 : r2 < 0
    · skip
      rw [show et_X12_list_10 E deep (fu + 1) M e = ((-1 : Int32), M3) from by simp only [et_X12_list_10, eM3, if_pos c5]]
      show M3.2 c = M.2 c
      exact fM3
    · skip
      by_cases c6 : (M3.1 124 (e).toNatClampNeg) = (5 : Int32)
      · skip
        obtain ⟨r7, M8, eM8⟩ : ∃ y z, et_X12_is M3 (93 : Int32) = (y, z) := ⟨_, _, rfl⟩
        have fM8 : M8.2 c = M3.2 c := by
          have q : (et_X12_is M3 (93 : Int32)).2.2 c = M3.2 c := (ef2_X12_is _ _ (by omega))
          rw [eM8] at q
          exact q
        by_cases c10 : r7 = 0
        · skip
          obtain ⟨r11, M12, eM12⟩ : ∃ y z, et_X12_stops M8 = (y, z) := ⟨_, _, rfl⟩
          have fM12 : M12.2 c = M8.2 c := by
            have q : (et_X12_stops M8).2.2 c = M8.2 c := (ef2_X12_stops _ (by omega))
            rw [eM12] at q
            exact q
          rw [show et_X12_list_10 E deep (fu + 1) M e = (r11, M12) from by simp only [et_X12_list_10, eM3, if_neg c5, if_pos c6, eM8, if_pos c10, eM12]]
          show M12.2 c = M.2 c
          exact (fM12).trans ((fM8).trans (fM3))
        · skip
          rw [show et_X12_list_10 E deep (fu + 1) M e = (e, M8) from by simp only [et_X12_list_10, eM3, if_neg c5, if_pos c6, eM8, if_neg c10]]
          show M8.2 c = M.2 c
          exact (fM8).trans (fM3)
      · skip
        obtain ⟨r14, er14⟩ : ∃ z, et_X12_byteAt M3 (M3.1 118 12) = z := ⟨_, rfl⟩
        by_cases c15 : r14 = (44 : Int32)
        · skip
          obtain ⟨M16, eM16⟩ : ∃ z, em_pI M3 118 12 ((M3.1 118 12) + (1 : Int32)) = z := ⟨_, rfl⟩
          have fM16 : M16.2 c = M3.2 c := by rw [← eM16]; exact rfl
          rw [show et_X12_list_10 E deep (fu + 1) M e = et_X12_list_10 E deep fu M16 e from by simp only [et_X12_list_10, eM3, if_neg c5, if_neg c6, er14, if_pos c15, eM16]]
          exact (ih _ _).trans ((fM16).trans (fM3))
        · skip
          obtain ⟨r17, M18, eM18⟩ : ∃ y z, et_X12_is M3 (93 : Int32) = (y, z) := ⟨_, _, rfl⟩
          have fM18 : M18.2 c = M3.2 c := by
            have q : (et_X12_is M3 (93 : Int32)).2.2 c = M3.2 c := (ef2_X12_is _ _ (by omega))
            rw [eM18] at q
            exact q
          by_cases c20 : r17 = 0
          · skip
            obtain ⟨r21, M22, eM22⟩ : ∃ y z, et_X12_stops M18 = (y, z) := ⟨_, _, rfl⟩
            have fM22 : M22.2 c = M18.2 c := by
              have q : (et_X12_stops M18).2.2 c = M18.2 c := (ef2_X12_stops _ (by omega))
              rw [eM22] at q
              exact q
            rw [show et_X12_list_10 E deep (fu + 1) M e = (r21, M22) from by simp only [et_X12_list_10, eM3, if_neg c5, if_neg c6, er14, if_neg c15, eM18, if_pos c20, eM22]]
            show M22.2 c = M.2 c
            exact (fM22).trans ((fM18).trans (fM3))
          · skip
            rw [show et_X12_list_10 E deep (fu + 1) M e = (e, M18) from by simp only [et_X12_list_10, eM3, if_neg c5, if_neg c6, er14, if_neg c15, eM18, if_neg c20]]
            show M18.2 c = M.2 c
            exact (fM18).trans (fM3)
theorem ef1_X12_list (E : em_M → Int32 → Int32 × em_M) (M : em_M) (e : Int32) (deep : Int32) {c : Nat} (h : c < 118 ∨ 131 < c) (hE : ∀ (M : em_M) (x : Int32), (E M x).2.1 c = M.1 c) : (et_X12_list E M e deep).2.1 c = M.1 c := by
  obtain ⟨M1, eM1⟩ : ∃ z, em_pI M 118 12 ((M.1 118 12) + (1 : Int32)) = z := ⟨_, rfl⟩
  have fM1 : M1.1 c = M.1 c := by rw [← eM1]; exact ef_pI' _ _ _ _ (by omega)
  rw [show et_X12_list E M e deep = et_X12_list_10 E deep 6 M1 e from by simp only [et_X12_list, eM1]]
  exact ((ef1_X12_list_10 _ _ (by omega) hE _ _ _)).trans (fM1)
theorem ef2_X12_list (E : em_M → Int32 → Int32 × em_M) (M : em_M) (e : Int32) (deep : Int32) {c : Nat} (h : c < 118 ∨ 131 < c) (hE : ∀ (M : em_M) (x : Int32), (E M x).2.2 c = M.2 c) : (et_X12_list E M e deep).2.2 c = M.2 c := by
  obtain ⟨M1, eM1⟩ : ∃ z, em_pI M 118 12 ((M.1 118 12) + (1 : Int32)) = z := ⟨_, rfl⟩
  have fM1 : M1.2 c = M.2 c := by rw [← eM1]; exact rfl
  rw [show et_X12_list E M e deep = et_X12_list_10 E deep 6 M1 e from by simp only [et_X12_list, eM1]]
  exact ((ef2_X12_list_10 _ _ (by omega) hE _ _ _)).trans (fM1)
theorem ef1_X12_exprB_325 (E : em_M → Int32 → Int32 × em_M) (deep : Int32)  {c : Nat} (h : c < 118 ∨ 131 < c) (hE : ∀ (M : em_M) (x : Int32), (E M x).2.1 c = M.1 c) : ∀ (fu : Nat) (M : em_M) (e : Int32) (n : Int32) (k : Int32), (et_X12_exprB_325 E deep fu M e n k).2.1 c = M.1 c := by
  intro fu
  induction fu with
  | zero => intros; rfl
  | succ fu ih =>
    intro M e n k
    by_cases c23 : n ≤ k
    · skip
      obtain ⟨r24, M25, eM25⟩ : ∃ y z, et_X12_is M (41 : Int32) = (y, z) := ⟨_, _, rfl⟩
      have fM25 : M25.1 c = M.1 c := by
        have q : (et_X12_is M (41 : Int32)).2.1 c = M.1 c := (ef1_X12_is _ _ (by omega))
        rw [eM25] at q
        exact q
      by_cases c27 : r24 = 0
      · skip
        obtain ⟨r28, M29, eM29⟩ : ∃ y z, et_X12_stops M25 = (y, z) := ⟨_, _, rfl⟩
        have fM29 : M29.1 c = M25.1 c := by
          have q : (et_X12_stops M25).2.1 c = M25.1 c := (ef1_X12_stops _ (by omega))
          rw [eM29] at q
          exact q
        rw [show et_X12_exprB_325 E deep (fu + 1) M e n k = (r28, M29) from by simp only [et_X12_exprB_325, if_pos c23, eM25, if_pos c27, eM29]]
        show M29.1 c = M.1 c
        exact (fM29).trans (fM25)
      · skip
        rw [show et_X12_exprB_325 E deep (fu + 1) M e n k = (e, M25) from by simp only [et_X12_exprB_325, if_pos c23, eM25, if_neg c27]]
        show M25.1 c = M.1 c
        exact fM25
    · skip
      by_cases c31 : k ≤ 0
      · skip
        obtain ⟨r32, M33, eM33⟩ : ∃ y z, et_X12_part E M e deep = (y, z) := ⟨_, _, rfl⟩
        have fM33 : M33.1 c = M.1 c := by
          have q : (et_X12_part E M e deep).2.1 c = M.1 c := (ef1_X12_part _ _ _ _ (by omega) hE)
          rw [eM33] at q
          exact q
        by_cases c35 : 0 ≤ r32
        · skip
          rw [show et_X12_exprB_325 E deep (fu + 1) M e n k = et_X12_exprB_325 E deep fu M33 e n (k + (1 : Int32)) from by simp only [et_X12_exprB_325, if_neg c23, if_pos c31, eM33, if_pos c35]]
          exact (ih _ _ _ _).trans (fM33)
        · skip
          by_cases c36 : (M33.1 118 13) < 0
          · skip
            obtain ⟨r37, M38, eM38⟩ : ∃ y z, et_X12_stops M33 = (y, z) := ⟨_, _, rfl⟩
            have fM38 : M38.1 c = M33.1 c := by
              have q : (et_X12_stops M33).2.1 c = M33.1 c := (ef1_X12_stops _ (by omega))
              rw [eM38] at q
              exact q
            rw [show et_X12_exprB_325 E deep (fu + 1) M e n k = (r37, M38) from by simp only [et_X12_exprB_325, if_neg c23, if_pos c31, eM33, if_neg c35, if_pos c36, eM38]]
            show M38.1 c = M.1 c
            exact (fM38).trans (fM33)
          · skip
            rw [show et_X12_exprB_325 E deep (fu + 1) M e n k = ((-1 : Int32), M33) from by simp only [et_X12_exprB_325, if_neg c23, if_pos c31, eM33, if_neg c35, if_neg c36]]
            show M33.1 c = M.1 c
            exact fM33
      · skip
        obtain ⟨r40, M41, eM41⟩ : ∃ y z, et_X12_is M (44 : Int32) = (y, z) := ⟨_, _, rfl⟩
        have fM41 : M41.1 c = M.1 c := by
          have q : (et_X12_is M (44 : Int32)).2.1 c = M.1 c := (ef1_X12_is _ _ (by omega))
          rw [eM41] at q
          exact q
        by_cases c43 : r40 = 0
        · skip
          by_cases c44 : (M41.1 118 13) < 0
          · skip
            obtain ⟨r45, M46, eM46⟩ : ∃ y z, et_X12_stops M41 = (y, z) := ⟨_, _, rfl⟩
            have fM46 : M46.1 c = M41.1 c := by
              have q : (et_X12_stops M41).2.1 c = M41.1 c := (ef1_X12_stops _ (by omega))
              rw [eM46] at q
              exact q
            rw [show et_X12_exprB_325 E deep (fu + 1) M e n k = (r45, M46) from by simp only [et_X12_exprB_325, if_neg c23, if_neg c31, eM41, if_pos c43, if_pos c44, eM46]]
            show M46.1 c = M.1 c
            exact (fM46).trans (fM41)
          · skip
            rw [show et_X12_exprB_325 E deep (fu + 1) M e n k = ((-1 : Int32), M41) from by simp only [et_X12_exprB_325, if_neg c23, if_neg c31, eM41, if_pos c43, if_neg c44]]
            show M41.1 c = M.1 c
            exact fM41
        · skip
          obtain ⟨r48, M49, eM49⟩ : ∃ y z, et_X12_part E M41 e deep = (y, z) := ⟨_, _, rfl⟩
          have fM49 : M49.1 c = M41.1 c := by
            have q : (et_X12_part E M41 e deep).2.1 c = M41.1 c := (ef1_X12_part _ _ _ _ (by omega) hE)
            rw [eM49] at q
            exact q
          by_cases c51 : 0 ≤ r48
          · skip
            rw [show et_X12_exprB_325 E deep (fu + 1) M e n k = et_X12_exprB_325 E deep fu M49 e n (k + (1 : Int32)) from by simp only [et_X12_exprB_325, if_neg c23, if_neg c31, eM41, if_neg c43, eM49, if_pos c51]]
            exact (ih _ _ _ _).trans ((fM49).trans (fM41))
          · skip
            by_cases c52 : (M49.1 118 13) < 0
            · skip
              obtain ⟨r53, M54, eM54⟩ : ∃ y z, et_X12_stops M49 = (y, z) := ⟨_, _, rfl⟩
              have fM54 : M54.1 c = M49.1 c := by
                have q : (et_X12_stops M49).2.1 c = M49.1 c := (ef1_X12_stops _ (by omega))
                rw [eM54] at q
                exact q
              rw [show et_X12_exprB_325 E deep (fu + 1) M e n k = (r53, M54) from by simp only [et_X12_exprB_325, if_neg c23, if_neg c31, eM41, if_neg c43, eM49, if_neg c51, if_pos c52, eM54]]
              show M54.1 c = M.1 c
              exact (fM54).trans ((fM49).trans (fM41))
            · skip
              rw [show et_X12_exprB_325 E deep (fu + 1) M e n k = ((-1 : Int32), M49) from by simp only [et_X12_exprB_325, if_neg c23, if_neg c31, eM41, if_neg c43, eM49, if_neg c51, if_neg c52]]
              show M49.1 c = M.1 c
              exact (fM49).trans (fM41)
theorem ef2_X12_exprB_325 (E : em_M → Int32 → Int32 × em_M) (deep : Int32)  {c : Nat} (h : c < 118 ∨ 131 < c) (hE : ∀ (M : em_M) (x : Int32), (E M x).2.2 c = M.2 c) : ∀ (fu : Nat) (M : em_M) (e : Int32) (n : Int32) (k : Int32), (et_X12_exprB_325 E deep fu M e n k).2.2 c = M.2 c := by
  intro fu
  induction fu with
  | zero => intros; rfl
  | succ fu ih =>
    intro M e n k
    by_cases c23 : n ≤ k
    · skip
      obtain ⟨r24, M25, eM25⟩ : ∃ y z, et_X12_is M (41 : Int32) = (y, z) := ⟨_, _, rfl⟩
      have fM25 : M25.2 c = M.2 c := by
        have q : (et_X12_is M (41 : Int32)).2.2 c = M.2 c := (ef2_X12_is _ _ (by omega))
        rw [eM25] at q
        exact q
      by_cases c27 : r24 = 0
      · skip
        obtain ⟨r28, M29, eM29⟩ : ∃ y z, et_X12_stops M25 = (y, z) := ⟨_, _, rfl⟩
        have fM29 : M29.2 c = M25.2 c := by
          have q : (et_X12_stops M25).2.2 c = M25.2 c := (ef2_X12_stops _ (by omega))
          rw [eM29] at q
          exact q
        rw [show et_X12_exprB_325 E deep (fu + 1) M e n k = (r28, M29) from by simp only [et_X12_exprB_325, if_pos c23, eM25, if_pos c27, eM29]]
        show M29.2 c = M.2 c
        exact (fM29).trans (fM25)
      · skip
        rw [show et_X12_exprB_325 E deep (fu + 1) M e n k = (e, M25) from by simp only [et_X12_exprB_325, if_pos c23, eM25, if_neg c27]]
        show M25.2 c = M.2 c
        exact fM25
    · skip
      by_cases c31 : k ≤ 0
      · skip
        obtain ⟨r32, M33, eM33⟩ : ∃ y z, et_X12_part E M e deep = (y, z) := ⟨_, _, rfl⟩
        have fM33 : M33.2 c = M.2 c := by
          have q : (et_X12_part E M e deep).2.2 c = M.2 c := (ef2_X12_part _ _ _ _ (by omega) hE)
          rw [eM33] at q
          exact q
        by_cases c35 : 0 ≤ r32
        · skip
          rw [show et_X12_exprB_325 E deep (fu + 1) M e n k = et_X12_exprB_325 E deep fu M33 e n (k + (1 : Int32)) from by simp only [et_X12_exprB_325, if_neg c23, if_pos c31, eM33, if_pos c35]]
          exact (ih _ _ _ _).trans (fM33)
        · skip
          by_cases c36 : (M33.1 118 13) < 0
          · skip
            obtain ⟨r37, M38, eM38⟩ : ∃ y z, et_X12_stops M33 = (y, z) := ⟨_, _, rfl⟩
            have fM38 : M38.2 c = M33.2 c := by
              have q : (et_X12_stops M33).2.2 c = M33.2 c := (ef2_X12_stops _ (by omega))
              rw [eM38] at q
              exact q
            rw [show et_X12_exprB_325 E deep (fu + 1) M e n k = (r37, M38) from by simp only [et_X12_exprB_325, if_neg c23, if_pos c31, eM33, if_neg c35, if_pos c36, eM38]]
            show M38.2 c = M.2 c
            exact (fM38).trans (fM33)
          · skip
            rw [show et_X12_exprB_325 E deep (fu + 1) M e n k = ((-1 : Int32), M33) from by simp only [et_X12_exprB_325, if_neg c23, if_pos c31, eM33, if_neg c35, if_neg c36]]
            show M33.2 c = M.2 c
            exact fM33
      · skip
        obtain ⟨r40, M41, eM41⟩ : ∃ y z, et_X12_is M (44 : Int32) = (y, z) := ⟨_, _, rfl⟩
        have fM41 : M41.2 c = M.2 c := by
          have q : (et_X12_is M (44 : Int32)).2.2 c = M.2 c := (ef2_X12_is _ _ (by omega))
          rw [eM41] at q
          exact q
        by_cases c43 : r40 = 0
        · skip
          by_cases c44 : (M41.1 118 13) < 0
          · skip
            obtain ⟨r45, M46, eM46⟩ : ∃ y z, et_X12_stops M41 = (y, z) := ⟨_, _, rfl⟩
            have fM46 : M46.2 c = M41.2 c := by
              have q : (et_X12_stops M41).2.2 c = M41.2 c := (ef2_X12_stops _ (by omega))
              rw [eM46] at q
              exact q
            rw [show et_X12_exprB_325 E deep (fu + 1) M e n k = (r45, M46) from by simp only [et_X12_exprB_325, if_neg c23, if_neg c31, eM41, if_pos c43, if_pos c44, eM46]]
            show M46.2 c = M.2 c
            exact (fM46).trans (fM41)
          · skip
            rw [show et_X12_exprB_325 E deep (fu + 1) M e n k = ((-1 : Int32), M41) from by simp only [et_X12_exprB_325, if_neg c23, if_neg c31, eM41, if_pos c43, if_neg c44]]
            show M41.2 c = M.2 c
            exact fM41
        · skip
          obtain ⟨r48, M49, eM49⟩ : ∃ y z, et_X12_part E M41 e deep = (y, z) := ⟨_, _, rfl⟩
          have fM49 : M49.2 c = M41.2 c := by
            have q : (et_X12_part E M41 e deep).2.2 c = M41.2 c := (ef2_X12_part _ _ _ _ (by omega) hE)
            rw [eM49] at q
            exact q
          by_cases c51 : 0 ≤ r48
          · skip
            rw [show et_X12_exprB_325 E deep (fu + 1) M e n k = et_X12_exprB_325 E deep fu M49 e n (k + (1 : Int32)) from by simp only [et_X12_exprB_325, if_neg c23, if_neg c31, eM41, if_neg c43, eM49, if_pos c51]]
            exact (ih _ _ _ _).trans ((fM49).trans (fM41))
          · skip
            by_cases c52 : (M49.1 118 13) < 0
            · skip
              obtain ⟨r53, M54, eM54⟩ : ∃ y z, et_X12_stops M49 = (y, z) := ⟨_, _, rfl⟩
              have fM54 : M54.2 c = M49.2 c := by
                have q : (et_X12_stops M49).2.2 c = M49.2 c := (ef2_X12_stops _ (by omega))
                rw [eM54] at q
                exact q
              rw [show et_X12_exprB_325 E deep (fu + 1) M e n k = (r53, M54) from by simp only [et_X12_exprB_325, if_neg c23, if_neg c31, eM41, if_neg c43, eM49, if_neg c51, if_pos c52, eM54]]
              show M54.2 c = M.2 c
              exact (fM54).trans ((fM49).trans (fM41))
            · skip
              rw [show et_X12_exprB_325 E deep (fu + 1) M e n k = ((-1 : Int32), M49) from by simp only [et_X12_exprB_325, if_neg c23, if_neg c31, eM41, if_neg c43, eM49, if_neg c51, if_neg c52]]
              show M49.2 c = M.2 c
              exact (fM49).trans (fM41)
theorem ef1_X12_exprB_66_3 (E : em_M → Int32 → Int32 × em_M) (deep : Int32) (M : em_M) (x2 : Int32) (x4 : Int32) {c : Nat} (h : c < 118 ∨ 131 < c) (hE : ∀ (M : em_M) (x : Int32), (E M x).2.1 c = M.1 c) : (et_X12_exprB_66_3 E deep M x2 x4).2.1 c = M.1 c := by
  obtain ⟨M105, eM105⟩ : ∃ z, em_pI M 122 (x2).toNatClampNeg (48 : Int32) = z := ⟨_, rfl⟩
  have fM105 : M105.1 c = M.1 c := by rw [← eM105]; exact ef_pI' _ _ _ _ (by omega)
  obtain ⟨M106, eM106⟩ : ∃ z, em_pI M105 123 (x2).toNatClampNeg x4 = z := ⟨_, rfl⟩
  have fM106 : M106.1 c = M105.1 c := by rw [← eM106]; exact ef_pI' _ _ _ _ (by omega)
  rw [show et_X12_exprB_66_3 E deep M x2 x4 = (x2, M106) from by simp only [et_X12_exprB_66_3, eM105, eM106]]
  show M106.1 c = M.1 c
  exact (fM106).trans (fM105)
theorem ef2_X12_exprB_66_3 (E : em_M → Int32 → Int32 × em_M) (deep : Int32) (M : em_M) (x2 : Int32) (x4 : Int32) {c : Nat} (h : c < 118 ∨ 131 < c) (hE : ∀ (M : em_M) (x : Int32), (E M x).2.2 c = M.2 c) : (et_X12_exprB_66_3 E deep M x2 x4).2.2 c = M.2 c := by
  obtain ⟨M105, eM105⟩ : ∃ z, em_pI M 122 (x2).toNatClampNeg (48 : Int32) = z := ⟨_, rfl⟩
  have fM105 : M105.2 c = M.2 c := by rw [← eM105]; exact rfl
  obtain ⟨M106, eM106⟩ : ∃ z, em_pI M105 123 (x2).toNatClampNeg x4 = z := ⟨_, rfl⟩
  have fM106 : M106.2 c = M105.2 c := by rw [← eM106]; exact rfl
  rw [show et_X12_exprB_66_3 E deep M x2 x4 = (x2, M106) from by simp only [et_X12_exprB_66_3, eM105, eM106]]
  show M106.2 c = M.2 c
  exact (fM106).trans (fM105)
theorem ef1_X12_exprB_66_2 (E : em_M → Int32 → Int32 × em_M) (deep : Int32) (M : em_M) (x2 : Int32) (x4 : Int32) {c : Nat} (h : c < 118 ∨ 131 < c) (hE : ∀ (M : em_M) (x : Int32), (E M x).2.1 c = M.1 c) : (et_X12_exprB_66_2 E deep M x2 x4).2.1 c = M.1 c := by
  obtain ⟨r99, er99⟩ : ∃ z, et_X12_byteAt M (M.1 118 12) = z := ⟨_, rfl⟩
  obtain ⟨r100, er100⟩ : ∃ z, et_X12_in M ((r99).toInt64) (48 : Int64) (57 : Int64) = z := ⟨_, rfl⟩
  by_cases c101 : r100 = 0
  · skip
    obtain ⟨M102, eM102⟩ : ∃ z, em_pI M 122 (x2).toNatClampNeg (48 : Int32) = z := ⟨_, rfl⟩
    have fM102 : M102.1 c = M.1 c := by rw [← eM102]; exact ef_pI' _ _ _ _ (by omega)
    obtain ⟨M103, eM103⟩ : ∃ z, em_pI M102 123 (x2).toNatClampNeg x4 = z := ⟨_, rfl⟩
    have fM103 : M103.1 c = M102.1 c := by rw [← eM103]; exact ef_pI' _ _ _ _ (by omega)
    rw [show et_X12_exprB_66_2 E deep M x2 x4 = (x2, M103) from by simp only [et_X12_exprB_66_2, er99, er100, if_pos c101, eM102, eM103]]
    show M103.1 c = M.1 c
    exact (fM103).trans (fM102)
  · skip
    obtain ⟨M104, eM104⟩ : ∃ z, em_pI M 118 12 ((M.1 118 12) + (1 : Int32)) = z := ⟨_, rfl⟩
    have fM104 : M104.1 c = M.1 c := by rw [← eM104]; exact ef_pI' _ _ _ _ (by omega)
    rw [show et_X12_exprB_66_2 E deep M x2 x4 = et_X12_exprB_66_3 E deep M104 x2 ((((10 : Int32) * x4) + r99) - (48 : Int32)) from by simp only [et_X12_exprB_66_2, er99, er100, if_neg c101, eM104]]
    exact ((ef1_X12_exprB_66_3 _ _ _ _ _ (by omega) hE)).trans (fM104)
theorem ef2_X12_exprB_66_2 (E : em_M → Int32 → Int32 × em_M) (deep : Int32) (M : em_M) (x2 : Int32) (x4 : Int32) {c : Nat} (h : c < 118 ∨ 131 < c) (hE : ∀ (M : em_M) (x : Int32), (E M x).2.2 c = M.2 c) : (et_X12_exprB_66_2 E deep M x2 x4).2.2 c = M.2 c := by
  obtain ⟨r99, er99⟩ : ∃ z, et_X12_byteAt M (M.1 118 12) = z := ⟨_, rfl⟩
  obtain ⟨r100, er100⟩ : ∃ z, et_X12_in M ((r99).toInt64) (48 : Int64) (57 : Int64) = z := ⟨_, rfl⟩
  by_cases c101 : r100 = 0
  · skip
    obtain ⟨M102, eM102⟩ : ∃ z, em_pI M 122 (x2).toNatClampNeg (48 : Int32) = z := ⟨_, rfl⟩
    have fM102 : M102.2 c = M.2 c := by rw [← eM102]; exact rfl
    obtain ⟨M103, eM103⟩ : ∃ z, em_pI M102 123 (x2).toNatClampNeg x4 = z := ⟨_, rfl⟩
    have fM103 : M103.2 c = M102.2 c := by rw [← eM103]; exact rfl
    rw [show et_X12_exprB_66_2 E deep M x2 x4 = (x2, M103) from by simp only [et_X12_exprB_66_2, er99, er100, if_pos c101, eM102, eM103]]
    show M103.2 c = M.2 c
    exact (fM103).trans (fM102)
  · skip
    obtain ⟨M104, eM104⟩ : ∃ z, em_pI M 118 12 ((M.1 118 12) + (1 : Int32)) = z := ⟨_, rfl⟩
    have fM104 : M104.2 c = M.2 c := by rw [← eM104]; exact rfl
    rw [show et_X12_exprB_66_2 E deep M x2 x4 = et_X12_exprB_66_3 E deep M104 x2 ((((10 : Int32) * x4) + r99) - (48 : Int32)) from by simp only [et_X12_exprB_66_2, er99, er100, if_neg c101, eM104]]
    exact ((ef2_X12_exprB_66_3 _ _ _ _ _ (by omega) hE)).trans (fM104)
theorem ef1_X12_exprB_66_1 (E : em_M → Int32 → Int32 × em_M) (deep : Int32) (M : em_M) (x2 : Int32) (x4 : Int32) {c : Nat} (h : c < 118 ∨ 131 < c) (hE : ∀ (M : em_M) (x : Int32), (E M x).2.1 c = M.1 c) : (et_X12_exprB_66_1 E deep M x2 x4).2.1 c = M.1 c := by
  obtain ⟨r93, er93⟩ : ∃ z, et_X12_byteAt M (M.1 118 12) = z := ⟨_, rfl⟩
  obtain ⟨r94, er94⟩ : ∃ z, et_X12_in M ((r93).toInt64) (48 : Int64) (57 : Int64) = z := ⟨_, rfl⟩
  by_cases c95 : r94 = 0
  · skip
    obtain ⟨M96, eM96⟩ : ∃ z, em_pI M 122 (x2).toNatClampNeg (48 : Int32) = z := ⟨_, rfl⟩
    have fM96 : M96.1 c = M.1 c := by rw [← eM96]; exact ef_pI' _ _ _ _ (by omega)
    obtain ⟨M97, eM97⟩ : ∃ z, em_pI M96 123 (x2).toNatClampNeg x4 = z := ⟨_, rfl⟩
    have fM97 : M97.1 c = M96.1 c := by rw [← eM97]; exact ef_pI' _ _ _ _ (by omega)
    rw [show et_X12_exprB_66_1 E deep M x2 x4 = (x2, M97) from by simp only [et_X12_exprB_66_1, er93, er94, if_pos c95, eM96, eM97]]
    show M97.1 c = M.1 c
    exact (fM97).trans (fM96)
  · skip
    obtain ⟨M98, eM98⟩ : ∃ z, em_pI M 118 12 ((M.1 118 12) + (1 : Int32)) = z := ⟨_, rfl⟩
    have fM98 : M98.1 c = M.1 c := by rw [← eM98]; exact ef_pI' _ _ _ _ (by omega)
    rw [show et_X12_exprB_66_1 E deep M x2 x4 = et_X12_exprB_66_2 E deep M98 x2 ((((10 : Int32) * x4) + r93) - (48 : Int32)) from by simp only [et_X12_exprB_66_1, er93, er94, if_neg c95, eM98]]
    exact ((ef1_X12_exprB_66_2 _ _ _ _ _ (by omega) hE)).trans (fM98)
theorem ef2_X12_exprB_66_1 (E : em_M → Int32 → Int32 × em_M) (deep : Int32) (M : em_M) (x2 : Int32) (x4 : Int32) {c : Nat} (h : c < 118 ∨ 131 < c) (hE : ∀ (M : em_M) (x : Int32), (E M x).2.2 c = M.2 c) : (et_X12_exprB_66_1 E deep M x2 x4).2.2 c = M.2 c := by
  obtain ⟨r93, er93⟩ : ∃ z, et_X12_byteAt M (M.1 118 12) = z := ⟨_, rfl⟩
  obtain ⟨r94, er94⟩ : ∃ z, et_X12_in M ((r93).toInt64) (48 : Int64) (57 : Int64) = z := ⟨_, rfl⟩
  by_cases c95 : r94 = 0
  · skip
    obtain ⟨M96, eM96⟩ : ∃ z, em_pI M 122 (x2).toNatClampNeg (48 : Int32) = z := ⟨_, rfl⟩
    have fM96 : M96.2 c = M.2 c := by rw [← eM96]; exact rfl
    obtain ⟨M97, eM97⟩ : ∃ z, em_pI M96 123 (x2).toNatClampNeg x4 = z := ⟨_, rfl⟩
    have fM97 : M97.2 c = M96.2 c := by rw [← eM97]; exact rfl
    rw [show et_X12_exprB_66_1 E deep M x2 x4 = (x2, M97) from by simp only [et_X12_exprB_66_1, er93, er94, if_pos c95, eM96, eM97]]
    show M97.2 c = M.2 c
    exact (fM97).trans (fM96)
  · skip
    obtain ⟨M98, eM98⟩ : ∃ z, em_pI M 118 12 ((M.1 118 12) + (1 : Int32)) = z := ⟨_, rfl⟩
    have fM98 : M98.2 c = M.2 c := by rw [← eM98]; exact rfl
    rw [show et_X12_exprB_66_1 E deep M x2 x4 = et_X12_exprB_66_2 E deep M98 x2 ((((10 : Int32) * x4) + r93) - (48 : Int32)) from by simp only [et_X12_exprB_66_1, er93, er94, if_neg c95, eM98]]
    exact ((ef2_X12_exprB_66_2 _ _ _ _ _ (by omega) hE)).trans (fM98)
theorem ef1_X12_exprB_66_0 (E : em_M → Int32 → Int32 × em_M) (deep : Int32) (M : em_M) (x2 : Int32) (x4 : Int32) {c : Nat} (h : c < 118 ∨ 131 < c) (hE : ∀ (M : em_M) (x : Int32), (E M x).2.1 c = M.1 c) : (et_X12_exprB_66_0 E deep M x2 x4).2.1 c = M.1 c := by
  obtain ⟨r87, er87⟩ : ∃ z, et_X12_byteAt M (M.1 118 12) = z := ⟨_, rfl⟩
  obtain ⟨r88, er88⟩ : ∃ z, et_X12_in M ((r87).toInt64) (48 : Int64) (57 : Int64) = z := ⟨_, rfl⟩
  by_cases c89 : r88 = 0
  · skip
    obtain ⟨M90, eM90⟩ : ∃ z, em_pI M 122 (x2).toNatClampNeg (48 : Int32) = z := ⟨_, rfl⟩
    have fM90 : M90.1 c = M.1 c := by rw [← eM90]; exact ef_pI' _ _ _ _ (by omega)
    obtain ⟨M91, eM91⟩ : ∃ z, em_pI M90 123 (x2).toNatClampNeg x4 = z := ⟨_, rfl⟩
    have fM91 : M91.1 c = M90.1 c := by rw [← eM91]; exact ef_pI' _ _ _ _ (by omega)
    rw [show et_X12_exprB_66_0 E deep M x2 x4 = (x2, M91) from by simp only [et_X12_exprB_66_0, er87, er88, if_pos c89, eM90, eM91]]
    show M91.1 c = M.1 c
    exact (fM91).trans (fM90)
  · skip
    obtain ⟨M92, eM92⟩ : ∃ z, em_pI M 118 12 ((M.1 118 12) + (1 : Int32)) = z := ⟨_, rfl⟩
    have fM92 : M92.1 c = M.1 c := by rw [← eM92]; exact ef_pI' _ _ _ _ (by omega)
    rw [show et_X12_exprB_66_0 E deep M x2 x4 = et_X12_exprB_66_1 E deep M92 x2 ((((10 : Int32) * x4) + r87) - (48 : Int32)) from by simp only [et_X12_exprB_66_0, er87, er88, if_neg c89, eM92]]
    exact ((ef1_X12_exprB_66_1 _ _ _ _ _ (by omega) hE)).trans (fM92)
theorem ef2_X12_exprB_66_0 (E : em_M → Int32 → Int32 × em_M) (deep : Int32) (M : em_M) (x2 : Int32) (x4 : Int32) {c : Nat} (h : c < 118 ∨ 131 < c) (hE : ∀ (M : em_M) (x : Int32), (E M x).2.2 c = M.2 c) : (et_X12_exprB_66_0 E deep M x2 x4).2.2 c = M.2 c := by
  obtain ⟨r87, er87⟩ : ∃ z, et_X12_byteAt M (M.1 118 12) = z := ⟨_, rfl⟩
  obtain ⟨r88, er88⟩ : ∃ z, et_X12_in M ((r87).toInt64) (48 : Int64) (57 : Int64) = z := ⟨_, rfl⟩
  by_cases c89 : r88 = 0
  · skip
    obtain ⟨M90, eM90⟩ : ∃ z, em_pI M 122 (x2).toNatClampNeg (48 : Int32) = z := ⟨_, rfl⟩
    have fM90 : M90.2 c = M.2 c := by rw [← eM90]; exact rfl
    obtain ⟨M91, eM91⟩ : ∃ z, em_pI M90 123 (x2).toNatClampNeg x4 = z := ⟨_, rfl⟩
    have fM91 : M91.2 c = M90.2 c := by rw [← eM91]; exact rfl
    rw [show et_X12_exprB_66_0 E deep M x2 x4 = (x2, M91) from by simp only [et_X12_exprB_66_0, er87, er88, if_pos c89, eM90, eM91]]
    show M91.2 c = M.2 c
    exact (fM91).trans (fM90)
  · skip
    obtain ⟨M92, eM92⟩ : ∃ z, em_pI M 118 12 ((M.1 118 12) + (1 : Int32)) = z := ⟨_, rfl⟩
    have fM92 : M92.2 c = M.2 c := by rw [← eM92]; exact rfl
    rw [show et_X12_exprB_66_0 E deep M x2 x4 = et_X12_exprB_66_1 E deep M92 x2 ((((10 : Int32) * x4) + r87) - (48 : Int32)) from by simp only [et_X12_exprB_66_0, er87, er88, if_neg c89, eM92]]
    exact ((ef2_X12_exprB_66_1 _ _ _ _ _ (by omega) hE)).trans (fM92)
theorem ef1_X12_exprB (E : em_M → Int32 → Int32 × em_M) (M : em_M) (deep : Int32) {c : Nat} (h : c < 118 ∨ 131 < c) (hE : ∀ (M : em_M) (x : Int32), (E M x).2.1 c = M.1 c) : (et_X12_exprB E M deep).2.1 c = M.1 c := by
  obtain ⟨r1, er1⟩ : ∃ z, et_X12_byteAt M (M.1 118 12) = z := ⟨_, rfl⟩
  obtain ⟨M2, eM2⟩ : ∃ z, em_pI M 118 14 ((M.1 118 14) + (1 : Int32)) = z := ⟨_, rfl⟩
  have fM2 : M2.1 c = M.1 c := by rw [← eM2]; exact ef_pI' _ _ _ _ (by omega)
  obtain ⟨M3, eM3⟩ : ∃ z, em_pI M2 122 ((((101 : Int32) * (M.1 118 9)) + (M.1 118 14))).toNatClampNeg r1 = z := ⟨_, rfl⟩
  have fM3 : M3.1 c = M2.1 c := by rw [← eM3]; exact ef_pI' _ _ _ _ (by omega)
  obtain ⟨M4, eM4⟩ : ∃ z, em_pI M3 124 ((((101 : Int32) * (M.1 118 9)) + (M.1 118 14))).toNatClampNeg (0 : Int32) = z := ⟨_, rfl⟩
  have fM4 : M4.1 c = M3.1 c := by rw [← eM4]; exact ef_pI' _ _ _ _ (by omega)
  obtain ⟨r5, er5⟩ : ∃ z, et_X12_in M4 ((r1).toInt64) (48 : Int64) (57 : Int64) = z := ⟨_, rfl⟩
  by_cases c6 : r5 = 0
  · skip
    obtain ⟨r7, er7⟩ : ∃ z, et_X12_in M4 ((r1).toInt64) (97 : Int64) (100 : Int64) = z := ⟨_, rfl⟩
    by_cases c8 : r7 = 0
    · skip
      by_cases c9 : r1 = (91 : Int32)
      · skip
        by_cases c77 : deep = (7 : Int32)
        · skip
          obtain ⟨r81, M82, eM82⟩ : ∃ y z, et_X12_stops M4 = (y, z) := ⟨_, _, rfl⟩
          have fM82 : M82.1 c = M4.1 c := by
            have q : (et_X12_stops M4).2.1 c = M4.1 c := (ef1_X12_stops _ (by omega))
            rw [eM82] at q
            exact q
          rw [show et_X12_exprB E M deep = (r81, M82) from by simp only [et_X12_exprB, er1, eM2, eM3, eM4, er5, if_pos c6, er7, if_pos c8, if_pos c9, if_pos c77, eM82]]
          show M82.1 c = M.1 c
          exact (fM82).trans ((fM4).trans ((fM3).trans (fM2)))
        · skip
          obtain ⟨r78, M79, eM79⟩ : ∃ y z, et_X12_list E M4 (((101 : Int32) * (M.1 118 9)) + (M.1 118 14)) deep = (y, z) := ⟨_, _, rfl⟩
          have fM79 : M79.1 c = M4.1 c := by
            have q : (et_X12_list E M4 (((101 : Int32) * (M.1 118 9)) + (M.1 118 14)) deep).2.1 c = M4.1 c := (ef1_X12_list _ _ _ _ (by omega) hE)
            rw [eM79] at q
            exact q
          rw [show et_X12_exprB E M deep = (r78, M79) from by simp only [et_X12_exprB, er1, eM2, eM3, eM4, er5, if_pos c6, er7, if_pos c8, if_pos c9, if_neg c77, eM79]]
          show M79.1 c = M.1 c
          exact (fM79).trans ((fM4).trans ((fM3).trans (fM2)))
      · skip
        obtain ⟨r10, er10⟩ : ∃ z, et_X12_partsOf M4 r1 = z := ⟨_, rfl⟩
        by_cases c11 : r10 = 0
        · skip
          obtain ⟨r12, M13, eM13⟩ : ∃ y z, et_X12_stops M4 = (y, z) := ⟨_, _, rfl⟩
          have fM13 : M13.1 c = M4.1 c := by
            have q : (et_X12_stops M4).2.1 c = M4.1 c := (ef1_X12_stops _ (by omega))
            rw [eM13] at q
            exact q
          rw [show et_X12_exprB E M deep = (r12, M13) from by simp only [et_X12_exprB, er1, eM2, eM3, eM4, er5, if_pos c6, er7, if_pos c8, if_neg c9, er10, if_pos c11, eM13]]
          show M13.1 c = M.1 c
          exact (fM13).trans ((fM4).trans ((fM3).trans (fM2)))
        · skip
          by_cases c15 : deep = (7 : Int32)
          · skip
            obtain ⟨r74, M75, eM75⟩ : ∃ y z, et_X12_stops M4 = (y, z) := ⟨_, _, rfl⟩
            have fM75 : M75.1 c = M4.1 c := by
              have q : (et_X12_stops M4).2.1 c = M4.1 c := (ef1_X12_stops _ (by omega))
              rw [eM75] at q
              exact q
            rw [show et_X12_exprB E M deep = (r74, M75) from by simp only [et_X12_exprB, er1, eM2, eM3, eM4, er5, if_pos c6, er7, if_pos c8, if_neg c9, er10, if_neg c11, if_pos c15, eM75]]
            show M75.1 c = M.1 c
            exact (fM75).trans ((fM4).trans ((fM3).trans (fM2)))
          · skip
            obtain ⟨M16, eM16⟩ : ∃ z, em_pI M4 118 12 ((M4.1 118 12) + (1 : Int32)) = z := ⟨_, rfl⟩
            have fM16 : M16.1 c = M4.1 c := by rw [← eM16]; exact ef_pI' _ _ _ _ (by omega)
            obtain ⟨r17, er17⟩ : ∃ z, et_X12_hasName M16 r1 = z := ⟨_, rfl⟩
            by_cases c18 : r17 = 0
            · skip
              obtain ⟨r19, M20, eM20⟩ : ∃ y z, et_X12_is M16 (40 : Int32) = (y, z) := ⟨_, _, rfl⟩
              have fM20 : M20.1 c = M16.1 c := by
                have q : (et_X12_is M16 (40 : Int32)).2.1 c = M16.1 c := (ef1_X12_is _ _ (by omega))
                rw [eM20] at q
                exact q
              by_cases c22 : r19 = 0
              · skip
                obtain ⟨r56, M57, eM57⟩ : ∃ y z, et_X12_stops M20 = (y, z) := ⟨_, _, rfl⟩
                have fM57 : M57.1 c = M20.1 c := by
                  have q : (et_X12_stops M20).2.1 c = M20.1 c := (ef1_X12_stops _ (by omega))
                  rw [eM57] at q
                  exact q
                rw [show et_X12_exprB E M deep = (r56, M57) from by simp only [et_X12_exprB, er1, eM2, eM3, eM4, er5, if_pos c6, er7, if_pos c8, if_neg c9, er10, if_neg c11, if_neg c15, eM16, er17, if_pos c18, eM20, if_pos c22, eM57]]
                show M57.1 c = M.1 c
                exact (fM57).trans ((fM20).trans ((fM16).trans ((fM4).trans ((fM3).trans (fM2)))))
              · skip
                rw [show et_X12_exprB E M deep = et_X12_exprB_325 E deep ((r10).toNatClampNeg + 1) M20 (((101 : Int32) * (M.1 118 9)) + (M.1 118 14)) r10 (0 : Int32) from by simp only [et_X12_exprB, er1, eM2, eM3, eM4, er5, if_pos c6, er7, if_pos c8, if_neg c9, er10, if_neg c11, if_neg c15, eM16, er17, if_pos c18, eM20, if_neg c22]]
                exact ((ef1_X12_exprB_325 _ _ (by omega) hE _ _ _ _ _)).trans ((fM20).trans ((fM16).trans ((fM4).trans ((fM3).trans (fM2)))))
            · skip
              obtain ⟨r59, er59⟩ : ∃ z, et_X12_byteAt M16 (M16.1 118 12) = z := ⟨_, rfl⟩
              obtain ⟨r60, er60⟩ : ∃ z, et_X12_in M16 ((r59).toInt64) (97 : Int64) (100 : Int64) = z := ⟨_, rfl⟩
              by_cases c61 : r60 = 0
              · skip
                obtain ⟨r71, M72, eM72⟩ : ∃ y z, et_X12_stops M16 = (y, z) := ⟨_, _, rfl⟩
                have fM72 : M72.1 c = M16.1 c := by
                  have q : (et_X12_stops M16).2.1 c = M16.1 c := (ef1_X12_stops _ (by omega))
                  rw [eM72] at q
                  exact q
                rw [show et_X12_exprB E M deep = (r71, M72) from by simp only [et_X12_exprB, er1, eM2, eM3, eM4, er5, if_pos c6, er7, if_pos c8, if_neg c9, er10, if_neg c11, if_neg c15, eM16, er17, if_neg c18, er59, er60, if_pos c61, eM72]]
                show M72.1 c = M.1 c
                exact (fM72).trans ((fM16).trans ((fM4).trans ((fM3).trans (fM2))))
              · skip
                obtain ⟨M62, eM62⟩ : ∃ z, em_pI M16 123 ((((101 : Int32) * (M.1 118 9)) + (M.1 118 14))).toNatClampNeg (r59 - (97 : Int32)) = z := ⟨_, rfl⟩
                have fM62 : M62.1 c = M16.1 c := by rw [← eM62]; exact ef_pI' _ _ _ _ (by omega)
                obtain ⟨M63, eM63⟩ : ∃ z, em_pI M62 118 12 ((M62.1 118 12) + (1 : Int32)) = z := ⟨_, rfl⟩
                have fM63 : M63.1 c = M62.1 c := by rw [← eM63]; exact ef_pI' _ _ _ _ (by omega)
                obtain ⟨r64, M65, eM65⟩ : ∃ y z, et_X12_is M63 (40 : Int32) = (y, z) := ⟨_, _, rfl⟩
                have fM65 : M65.1 c = M63.1 c := by
                  have q : (et_X12_is M63 (40 : Int32)).2.1 c = M63.1 c := (ef1_X12_is _ _ (by omega))
                  rw [eM65] at q
                  exact q
                by_cases c67 : r64 = 0
                · skip
                  obtain ⟨r68, M69, eM69⟩ : ∃ y z, et_X12_stops M65 = (y, z) := ⟨_, _, rfl⟩
                  have fM69 : M69.1 c = M65.1 c := by
                    have q : (et_X12_stops M65).2.1 c = M65.1 c := (ef1_X12_stops _ (by omega))
                    rw [eM69] at q
                    exact q
                  rw [show et_X12_exprB E M deep = (r68, M69) from by simp only [et_X12_exprB, er1, eM2, eM3, eM4, er5, if_pos c6, er7, if_pos c8, if_neg c9, er10, if_neg c11, if_neg c15, eM16, er17, if_neg c18, er59, er60, if_neg c61, eM62, eM63, eM65, if_pos c67, eM69]]
                  show M69.1 c = M.1 c
                  exact (fM69).trans ((fM65).trans ((fM63).trans ((fM62).trans ((fM16).trans ((fM4).trans ((fM3).trans (fM2)))))))
                · skip
                  rw [show et_X12_exprB E M deep = et_X12_exprB_325 E deep ((r10).toNatClampNeg + 1) M65 (((101 : Int32) * (M.1 118 9)) + (M.1 118 14)) r10 (0 : Int32) from by simp only [et_X12_exprB, er1, eM2, eM3, eM4, er5, if_pos c6, er7, if_pos c8, if_neg c9, er10, if_neg c11, if_neg c15, eM16, er17, if_neg c18, er59, er60, if_neg c61, eM62, eM63, eM65, if_neg c67]]
                  exact ((ef1_X12_exprB_325 _ _ (by omega) hE _ _ _ _ _)).trans ((fM65).trans ((fM63).trans ((fM62).trans ((fM16).trans ((fM4).trans ((fM3).trans (fM2)))))))
    · skip
      obtain ⟨M84, eM84⟩ : ∃ z, em_pI M4 118 12 ((M4.1 118 12) + (1 : Int32)) = z := ⟨_, rfl⟩
      have fM84 : M84.1 c = M4.1 c := by rw [← eM84]; exact ef_pI' _ _ _ _ (by omega)
      obtain ⟨M85, eM85⟩ : ∃ z, em_pI M84 122 ((((101 : Int32) * (M.1 118 9)) + (M.1 118 14))).toNatClampNeg (97 : Int32) = z := ⟨_, rfl⟩
      have fM85 : M85.1 c = M84.1 c := by rw [← eM85]; exact ef_pI' _ _ _ _ (by omega)
      obtain ⟨M86, eM86⟩ : ∃ z, em_pI M85 123 ((((101 : Int32) * (M.1 118 9)) + (M.1 118 14))).toNatClampNeg (r1 - (97 : Int32)) = z := ⟨_, rfl⟩
      have fM86 : M86.1 c = M85.1 c := by rw [← eM86]; exact ef_pI' _ _ _ _ (by omega)
      rw [show et_X12_exprB E M deep = ((((101 : Int32) * (M.1 118 9)) + (M.1 118 14)), M86) from by simp only [et_X12_exprB, er1, eM2, eM3, eM4, er5, if_pos c6, er7, if_neg c8, eM84, eM85, eM86]]
      show M86.1 c = M.1 c
      exact (fM86).trans ((fM85).trans ((fM84).trans ((fM4).trans ((fM3).trans (fM2)))))
  · skip
    rw [show et_X12_exprB E M deep = et_X12_exprB_66_0 E deep M4 (((101 : Int32) * (M.1 118 9)) + (M.1 118 14)) (0 : Int32) from by simp only [et_X12_exprB, er1, eM2, eM3, eM4, er5, if_neg c6]]
    exact ((ef1_X12_exprB_66_0 _ _ _ _ _ (by omega) hE)).trans ((fM4).trans ((fM3).trans (fM2)))
theorem ef2_X12_exprB (E : em_M → Int32 → Int32 × em_M) (M : em_M) (deep : Int32) {c : Nat} (h : c < 118 ∨ 131 < c) (hE : ∀ (M : em_M) (x : Int32), (E M x).2.2 c = M.2 c) : (et_X12_exprB E M deep).2.2 c = M.2 c := by
  obtain ⟨r1, er1⟩ : ∃ z, et_X12_byteAt M (M.1 118 12) = z := ⟨_, rfl⟩
  obtain ⟨M2, eM2⟩ : ∃ z, em_pI M 118 14 ((M.1 118 14) + (1 : Int32)) = z := ⟨_, rfl⟩
  have fM2 : M2.2 c = M.2 c := by rw [← eM2]; exact rfl
  obtain ⟨M3, eM3⟩ : ∃ z, em_pI M2 122 ((((101 : Int32) * (M.1 118 9)) + (M.1 118 14))).toNatClampNeg r1 = z := ⟨_, rfl⟩
  have fM3 : M3.2 c = M2.2 c := by rw [← eM3]; exact rfl
  obtain ⟨M4, eM4⟩ : ∃ z, em_pI M3 124 ((((101 : Int32) * (M.1 118 9)) + (M.1 118 14))).toNatClampNeg (0 : Int32) = z := ⟨_, rfl⟩
  have fM4 : M4.2 c = M3.2 c := by rw [← eM4]; exact rfl
  obtain ⟨r5, er5⟩ : ∃ z, et_X12_in M4 ((r1).toInt64) (48 : Int64) (57 : Int64) = z := ⟨_, rfl⟩
  by_cases c6 : r5 = 0
  · skip
    obtain ⟨r7, er7⟩ : ∃ z, et_X12_in M4 ((r1).toInt64) (97 : Int64) (100 : Int64) = z := ⟨_, rfl⟩
    by_cases c8 : r7 = 0
    · skip
      by_cases c9 : r1 = (91 : Int32)
      · skip
        by_cases c77 : deep = (7 : Int32)
        · skip
          obtain ⟨r81, M82, eM82⟩ : ∃ y z, et_X12_stops M4 = (y, z) := ⟨_, _, rfl⟩
          have fM82 : M82.2 c = M4.2 c := by
            have q : (et_X12_stops M4).2.2 c = M4.2 c := (ef2_X12_stops _ (by omega))
            rw [eM82] at q
            exact q
          rw [show et_X12_exprB E M deep = (r81, M82) from by simp only [et_X12_exprB, er1, eM2, eM3, eM4, er5, if_pos c6, er7, if_pos c8, if_pos c9, if_pos c77, eM82]]
          show M82.2 c = M.2 c
          exact (fM82).trans ((fM4).trans ((fM3).trans (fM2)))
        · skip
          obtain ⟨r78, M79, eM79⟩ : ∃ y z, et_X12_list E M4 (((101 : Int32) * (M.1 118 9)) + (M.1 118 14)) deep = (y, z) := ⟨_, _, rfl⟩
          have fM79 : M79.2 c = M4.2 c := by
            have q : (et_X12_list E M4 (((101 : Int32) * (M.1 118 9)) + (M.1 118 14)) deep).2.2 c = M4.2 c := (ef2_X12_list _ _ _ _ (by omega) hE)
            rw [eM79] at q
            exact q
          rw [show et_X12_exprB E M deep = (r78, M79) from by simp only [et_X12_exprB, er1, eM2, eM3, eM4, er5, if_pos c6, er7, if_pos c8, if_pos c9, if_neg c77, eM79]]
          show M79.2 c = M.2 c
          exact (fM79).trans ((fM4).trans ((fM3).trans (fM2)))
      · skip
        obtain ⟨r10, er10⟩ : ∃ z, et_X12_partsOf M4 r1 = z := ⟨_, rfl⟩
        by_cases c11 : r10 = 0
        · skip
          obtain ⟨r12, M13, eM13⟩ : ∃ y z, et_X12_stops M4 = (y, z) := ⟨_, _, rfl⟩
          have fM13 : M13.2 c = M4.2 c := by
            have q : (et_X12_stops M4).2.2 c = M4.2 c := (ef2_X12_stops _ (by omega))
            rw [eM13] at q
            exact q
          rw [show et_X12_exprB E M deep = (r12, M13) from by simp only [et_X12_exprB, er1, eM2, eM3, eM4, er5, if_pos c6, er7, if_pos c8, if_neg c9, er10, if_pos c11, eM13]]
          show M13.2 c = M.2 c
          exact (fM13).trans ((fM4).trans ((fM3).trans (fM2)))
        · skip
          by_cases c15 : deep = (7 : Int32)
          · skip
            obtain ⟨r74, M75, eM75⟩ : ∃ y z, et_X12_stops M4 = (y, z) := ⟨_, _, rfl⟩
            have fM75 : M75.2 c = M4.2 c := by
              have q : (et_X12_stops M4).2.2 c = M4.2 c := (ef2_X12_stops _ (by omega))
              rw [eM75] at q
              exact q
            rw [show et_X12_exprB E M deep = (r74, M75) from by simp only [et_X12_exprB, er1, eM2, eM3, eM4, er5, if_pos c6, er7, if_pos c8, if_neg c9, er10, if_neg c11, if_pos c15, eM75]]
            show M75.2 c = M.2 c
            exact (fM75).trans ((fM4).trans ((fM3).trans (fM2)))
          · skip
            obtain ⟨M16, eM16⟩ : ∃ z, em_pI M4 118 12 ((M4.1 118 12) + (1 : Int32)) = z := ⟨_, rfl⟩
            have fM16 : M16.2 c = M4.2 c := by rw [← eM16]; exact rfl
            obtain ⟨r17, er17⟩ : ∃ z, et_X12_hasName M16 r1 = z := ⟨_, rfl⟩
            by_cases c18 : r17 = 0
            · skip
              obtain ⟨r19, M20, eM20⟩ : ∃ y z, et_X12_is M16 (40 : Int32) = (y, z) := ⟨_, _, rfl⟩
              have fM20 : M20.2 c = M16.2 c := by
                have q : (et_X12_is M16 (40 : Int32)).2.2 c = M16.2 c := (ef2_X12_is _ _ (by omega))
                rw [eM20] at q
                exact q
              by_cases c22 : r19 = 0
              · skip
                obtain ⟨r56, M57, eM57⟩ : ∃ y z, et_X12_stops M20 = (y, z) := ⟨_, _, rfl⟩
                have fM57 : M57.2 c = M20.2 c := by
                  have q : (et_X12_stops M20).2.2 c = M20.2 c := (ef2_X12_stops _ (by omega))
                  rw [eM57] at q
                  exact q
                rw [show et_X12_exprB E M deep = (r56, M57) from by simp only [et_X12_exprB, er1, eM2, eM3, eM4, er5, if_pos c6, er7, if_pos c8, if_neg c9, er10, if_neg c11, if_neg c15, eM16, er17, if_pos c18, eM20, if_pos c22, eM57]]
                show M57.2 c = M.2 c
                exact (fM57).trans ((fM20).trans ((fM16).trans ((fM4).trans ((fM3).trans (fM2)))))
              · skip
                rw [show et_X12_exprB E M deep = et_X12_exprB_325 E deep ((r10).toNatClampNeg + 1) M20 (((101 : Int32) * (M.1 118 9)) + (M.1 118 14)) r10 (0 : Int32) from by simp only [et_X12_exprB, er1, eM2, eM3, eM4, er5, if_pos c6, er7, if_pos c8, if_neg c9, er10, if_neg c11, if_neg c15, eM16, er17, if_pos c18, eM20, if_neg c22]]
                exact ((ef2_X12_exprB_325 _ _ (by omega) hE _ _ _ _ _)).trans ((fM20).trans ((fM16).trans ((fM4).trans ((fM3).trans (fM2)))))
            · skip
              obtain ⟨r59, er59⟩ : ∃ z, et_X12_byteAt M16 (M16.1 118 12) = z := ⟨_, rfl⟩
              obtain ⟨r60, er60⟩ : ∃ z, et_X12_in M16 ((r59).toInt64) (97 : Int64) (100 : Int64) = z := ⟨_, rfl⟩
              by_cases c61 : r60 = 0
              · skip
                obtain ⟨r71, M72, eM72⟩ : ∃ y z, et_X12_stops M16 = (y, z) := ⟨_, _, rfl⟩
                have fM72 : M72.2 c = M16.2 c := by
                  have q : (et_X12_stops M16).2.2 c = M16.2 c := (ef2_X12_stops _ (by omega))
                  rw [eM72] at q
                  exact q
                rw [show et_X12_exprB E M deep = (r71, M72) from by simp only [et_X12_exprB, er1, eM2, eM3, eM4, er5, if_pos c6, er7, if_pos c8, if_neg c9, er10, if_neg c11, if_neg c15, eM16, er17, if_neg c18, er59, er60, if_pos c61, eM72]]
                show M72.2 c = M.2 c
                exact (fM72).trans ((fM16).trans ((fM4).trans ((fM3).trans (fM2))))
              · skip
                obtain ⟨M62, eM62⟩ : ∃ z, em_pI M16 123 ((((101 : Int32) * (M.1 118 9)) + (M.1 118 14))).toNatClampNeg (r59 - (97 : Int32)) = z := ⟨_, rfl⟩
                have fM62 : M62.2 c = M16.2 c := by rw [← eM62]; exact rfl
                obtain ⟨M63, eM63⟩ : ∃ z, em_pI M62 118 12 ((M62.1 118 12) + (1 : Int32)) = z := ⟨_, rfl⟩
                have fM63 : M63.2 c = M62.2 c := by rw [← eM63]; exact rfl
                obtain ⟨r64, M65, eM65⟩ : ∃ y z, et_X12_is M63 (40 : Int32) = (y, z) := ⟨_, _, rfl⟩
                have fM65 : M65.2 c = M63.2 c := by
                  have q : (et_X12_is M63 (40 : Int32)).2.2 c = M63.2 c := (ef2_X12_is _ _ (by omega))
                  rw [eM65] at q
                  exact q
                by_cases c67 : r64 = 0
                · skip
                  obtain ⟨r68, M69, eM69⟩ : ∃ y z, et_X12_stops M65 = (y, z) := ⟨_, _, rfl⟩
                  have fM69 : M69.2 c = M65.2 c := by
                    have q : (et_X12_stops M65).2.2 c = M65.2 c := (ef2_X12_stops _ (by omega))
                    rw [eM69] at q
                    exact q
                  rw [show et_X12_exprB E M deep = (r68, M69) from by simp only [et_X12_exprB, er1, eM2, eM3, eM4, er5, if_pos c6, er7, if_pos c8, if_neg c9, er10, if_neg c11, if_neg c15, eM16, er17, if_neg c18, er59, er60, if_neg c61, eM62, eM63, eM65, if_pos c67, eM69]]
                  show M69.2 c = M.2 c
                  exact (fM69).trans ((fM65).trans ((fM63).trans ((fM62).trans ((fM16).trans ((fM4).trans ((fM3).trans (fM2)))))))
                · skip
                  rw [show et_X12_exprB E M deep = et_X12_exprB_325 E deep ((r10).toNatClampNeg + 1) M65 (((101 : Int32) * (M.1 118 9)) + (M.1 118 14)) r10 (0 : Int32) from by simp only [et_X12_exprB, er1, eM2, eM3, eM4, er5, if_pos c6, er7, if_pos c8, if_neg c9, er10, if_neg c11, if_neg c15, eM16, er17, if_neg c18, er59, er60, if_neg c61, eM62, eM63, eM65, if_neg c67]]
                  exact ((ef2_X12_exprB_325 _ _ (by omega) hE _ _ _ _ _)).trans ((fM65).trans ((fM63).trans ((fM62).trans ((fM16).trans ((fM4).trans ((fM3).trans (fM2)))))))
    · skip
      obtain ⟨M84, eM84⟩ : ∃ z, em_pI M4 118 12 ((M4.1 118 12) + (1 : Int32)) = z := ⟨_, rfl⟩
      have fM84 : M84.2 c = M4.2 c := by rw [← eM84]; exact rfl
      obtain ⟨M85, eM85⟩ : ∃ z, em_pI M84 122 ((((101 : Int32) * (M.1 118 9)) + (M.1 118 14))).toNatClampNeg (97 : Int32) = z := ⟨_, rfl⟩
      have fM85 : M85.2 c = M84.2 c := by rw [← eM85]; exact rfl
      obtain ⟨M86, eM86⟩ : ∃ z, em_pI M85 123 ((((101 : Int32) * (M.1 118 9)) + (M.1 118 14))).toNatClampNeg (r1 - (97 : Int32)) = z := ⟨_, rfl⟩
      have fM86 : M86.2 c = M85.2 c := by rw [← eM86]; exact rfl
      rw [show et_X12_exprB E M deep = ((((101 : Int32) * (M.1 118 9)) + (M.1 118 14)), M86) from by simp only [et_X12_exprB, er1, eM2, eM3, eM4, er5, if_pos c6, er7, if_neg c8, eM84, eM85, eM86]]
      show M86.2 c = M.2 c
      exact (fM86).trans ((fM85).trans ((fM84).trans ((fM4).trans ((fM3).trans (fM2)))))
  · skip
    rw [show et_X12_exprB E M deep = et_X12_exprB_66_0 E deep M4 (((101 : Int32) * (M.1 118 9)) + (M.1 118 14)) (0 : Int32) from by simp only [et_X12_exprB, er1, eM2, eM3, eM4, er5, if_neg c6]]
    exact ((ef2_X12_exprB_66_0 _ _ _ _ _ (by omega) hE)).trans ((fM4).trans ((fM3).trans (fM2)))
theorem ef1_X12_expr {c : Nat} (h : c < 118 ∨ 131 < c) : ∀ (d : Nat) (M : em_M) (x : Int32), (et_X12_expr d M x).2.1 c = M.1 c := by
  intro d
  induction d with
  | zero => exact fun M x => ef1_X12_exprB (fun M _ => (0, M)) M x h (fun _ _ => rfl)
  | succ d ih =>
    intro M x
    rw [et_X12_expr]
    exact ef1_X12_exprB (et_X12_expr d) M x h ih
theorem ef2_X12_expr {c : Nat} (h : c < 118 ∨ 131 < c) : ∀ (d : Nat) (M : em_M) (x : Int32), (et_X12_expr d M x).2.2 c = M.2 c := by
  intro d
  induction d with
  | zero => exact fun M x => ef2_X12_exprB (fun M _ => (0, M)) M x h (fun _ _ => rfl)
  | succ d ih =>
    intro M x
    rw [et_X12_expr]
    exact ef2_X12_exprB (et_X12_expr d) M x h ih
theorem ef1_X12_line  (M : em_M) {c : Nat} (h : c < 118 ∨ 131 < c) : (et_X12_line M).2.1 c = M.1 c := by
  by_cases c1 : (M.1 118 9) = (8 : Int32)
  · skip
    rw [show et_X12_line M = ((-4 : Int32), M) from by simp only [et_X12_line, if_pos c1]]
    all_goals rfl
  · skip
    obtain ⟨M2, eM2⟩ : ∃ z, em_pI M 118 12 (0 : Int32) = z := ⟨_, rfl⟩
    have fM2 : M2.1 c = M.1 c := by rw [← eM2]; exact ef_pI' _ _ _ _ (by omega)
    obtain ⟨M3, eM3⟩ : ∃ z, em_pI M2 118 14 (0 : Int32) = z := ⟨_, rfl⟩
    have fM3 : M3.1 c = M2.1 c := by rw [← eM3]; exact ef_pI' _ _ _ _ (by omega)
    obtain ⟨M4, eM4⟩ : ∃ z, em_pI M3 118 13 (-1 : Int32) = z := ⟨_, rfl⟩
    have fM4 : M4.1 c = M3.1 c := by rw [← eM4]; exact ef_pI' _ _ _ _ (by omega)
    obtain ⟨r5, M6, eM6⟩ : ∃ y z, et_X12_expr 7 M4 (0 : Int32) = (y, z) := ⟨_, _, rfl⟩
    have fM6 : M6.1 c = M4.1 c := by
      have q : (et_X12_expr 7 M4 (0 : Int32)).2.1 c = M4.1 c := (ef1_X12_expr (by omega) _ _ _)
      rw [eM6] at q
      exact q
    by_cases c8 : r5 < 0
    · skip
      obtain ⟨M9, eM9⟩ : ∃ z, em_pI M6 118 11 (0 : Int32) = z := ⟨_, rfl⟩
      have fM9 : M9.1 c = M6.1 c := by rw [← eM9]; exact ef_pI' _ _ _ _ (by omega)
      by_cases c10 : 0 ≤ r5
      · skip
        obtain ⟨M11, eM11⟩ : ∃ z, em_pI M9 126 ((M9.1 118 9)).toNatClampNeg (M9.1 118 14) = z := ⟨_, rfl⟩
        have fM11 : M11.1 c = M9.1 c := by rw [← eM11]; exact ef_pI' _ _ _ _ (by omega)
        obtain ⟨M12, eM12⟩ : ∃ z, em_pI M11 118 9 ((M11.1 118 9) + (1 : Int32)) = z := ⟨_, rfl⟩
        have fM12 : M12.1 c = M11.1 c := by rw [← eM12]; exact ef_pI' _ _ _ _ (by omega)
        rw [show et_X12_line M = (((M12.1 118 9) - (1 : Int32)), M12) from by simp only [et_X12_line, if_neg c1, eM2, eM3, eM4, eM6, if_pos c8, eM9, if_pos c10, eM11, eM12]]
        show M12.1 c = M.1 c
        exact (fM12).trans ((fM11).trans ((fM9).trans ((fM6).trans ((fM4).trans ((fM3).trans (fM2))))))
      · skip
        rw [show et_X12_line M = (((-10 : Int32) - (M9.1 118 13)), M9) from by simp only [et_X12_line, if_neg c1, eM2, eM3, eM4, eM6, if_pos c8, eM9, if_neg c10]]
        show M9.1 c = M.1 c
        exact (fM9).trans ((fM6).trans ((fM4).trans ((fM3).trans (fM2))))
    · skip
      by_cases c13 : (M6.1 118 11) ≤ (M6.1 118 12)
      · skip
        obtain ⟨M14, eM14⟩ : ∃ z, em_pI M6 118 11 (0 : Int32) = z := ⟨_, rfl⟩
        have fM14 : M14.1 c = M6.1 c := by rw [← eM14]; exact ef_pI' _ _ _ _ (by omega)
        by_cases c15 : 0 ≤ r5
        · skip
          obtain ⟨M16, eM16⟩ : ∃ z, em_pI M14 126 ((M14.1 118 9)).toNatClampNeg (M14.1 118 14) = z := ⟨_, rfl⟩
          have fM16 : M16.1 c = M14.1 c := by rw [← eM16]; exact ef_pI' _ _ _ _ (by omega)
          obtain ⟨M17, eM17⟩ : ∃ z, em_pI M16 118 9 ((M16.1 118 9) + (1 : Int32)) = z := ⟨_, rfl⟩
          have fM17 : M17.1 c = M16.1 c := by rw [← eM17]; exact ef_pI' _ _ _ _ (by omega)
          rw [show et_X12_line M = (((M17.1 118 9) - (1 : Int32)), M17) from by simp only [et_X12_line, if_neg c1, eM2, eM3, eM4, eM6, if_neg c8, if_pos c13, eM14, if_pos c15, eM16, eM17]]
          show M17.1 c = M.1 c
          exact (fM17).trans ((fM16).trans ((fM14).trans ((fM6).trans ((fM4).trans ((fM3).trans (fM2))))))
        · skip
          rw [show et_X12_line M = (((-10 : Int32) - (M14.1 118 13)), M14) from by simp only [et_X12_line, if_neg c1, eM2, eM3, eM4, eM6, if_neg c8, if_pos c13, eM14, if_neg c15]]
          show M14.1 c = M.1 c
          exact (fM14).trans ((fM6).trans ((fM4).trans ((fM3).trans (fM2))))
      · skip
        obtain ⟨r18, M19, eM19⟩ : ∃ y z, et_X12_stops M6 = (y, z) := ⟨_, _, rfl⟩
        have fM19 : M19.1 c = M6.1 c := by
          have q : (et_X12_stops M6).2.1 c = M6.1 c := (ef1_X12_stops _ (by omega))
          rw [eM19] at q
          exact q
        obtain ⟨M21, eM21⟩ : ∃ z, em_pI M19 118 11 (0 : Int32) = z := ⟨_, rfl⟩
        have fM21 : M21.1 c = M19.1 c := by rw [← eM21]; exact ef_pI' _ _ _ _ (by omega)
        by_cases c22 : 0 ≤ r18
        · skip
          obtain ⟨M23, eM23⟩ : ∃ z, em_pI M21 126 ((M21.1 118 9)).toNatClampNeg (M21.1 118 14) = z := ⟨_, rfl⟩
          have fM23 : M23.1 c = M21.1 c := by rw [← eM23]; exact ef_pI' _ _ _ _ (by omega)
          obtain ⟨M24, eM24⟩ : ∃ z, em_pI M23 118 9 ((M23.1 118 9) + (1 : Int32)) = z := ⟨_, rfl⟩
          have fM24 : M24.1 c = M23.1 c := by rw [← eM24]; exact ef_pI' _ _ _ _ (by omega)
          rw [show et_X12_line M = (((M24.1 118 9) - (1 : Int32)), M24) from by simp only [et_X12_line, if_neg c1, eM2, eM3, eM4, eM6, if_neg c8, if_neg c13, eM19, eM21, if_pos c22, eM23, eM24]]
          show M24.1 c = M.1 c
          exact (fM24).trans ((fM23).trans ((fM21).trans ((fM19).trans ((fM6).trans ((fM4).trans ((fM3).trans (fM2)))))))
        · skip
          rw [show et_X12_line M = (((-10 : Int32) - (M21.1 118 13)), M21) from by simp only [et_X12_line, if_neg c1, eM2, eM3, eM4, eM6, if_neg c8, if_neg c13, eM19, eM21, if_neg c22]]
          show M21.1 c = M.1 c
          exact (fM21).trans ((fM19).trans ((fM6).trans ((fM4).trans ((fM3).trans (fM2)))))
theorem ef2_X12_line  (M : em_M) {c : Nat} (h : c < 118 ∨ 131 < c) : (et_X12_line M).2.2 c = M.2 c := by
  by_cases c1 : (M.1 118 9) = (8 : Int32)
  · skip
    rw [show et_X12_line M = ((-4 : Int32), M) from by simp only [et_X12_line, if_pos c1]]
    all_goals rfl
  · skip
    obtain ⟨M2, eM2⟩ : ∃ z, em_pI M 118 12 (0 : Int32) = z := ⟨_, rfl⟩
    have fM2 : M2.2 c = M.2 c := by rw [← eM2]; exact rfl
    obtain ⟨M3, eM3⟩ : ∃ z, em_pI M2 118 14 (0 : Int32) = z := ⟨_, rfl⟩
    have fM3 : M3.2 c = M2.2 c := by rw [← eM3]; exact rfl
    obtain ⟨M4, eM4⟩ : ∃ z, em_pI M3 118 13 (-1 : Int32) = z := ⟨_, rfl⟩
    have fM4 : M4.2 c = M3.2 c := by rw [← eM4]; exact rfl
    obtain ⟨r5, M6, eM6⟩ : ∃ y z, et_X12_expr 7 M4 (0 : Int32) = (y, z) := ⟨_, _, rfl⟩
    have fM6 : M6.2 c = M4.2 c := by
      have q : (et_X12_expr 7 M4 (0 : Int32)).2.2 c = M4.2 c := (ef2_X12_expr (by omega) _ _ _)
      rw [eM6] at q
      exact q
    by_cases c8 : r5 < 0
    · skip
      obtain ⟨M9, eM9⟩ : ∃ z, em_pI M6 118 11 (0 : Int32) = z := ⟨_, rfl⟩
      have fM9 : M9.2 c = M6.2 c := by rw [← eM9]; exact rfl
      by_cases c10 : 0 ≤ r5
      · skip
        obtain ⟨M11, eM11⟩ : ∃ z, em_pI M9 126 ((M9.1 118 9)).toNatClampNeg (M9.1 118 14) = z := ⟨_, rfl⟩
        have fM11 : M11.2 c = M9.2 c := by rw [← eM11]; exact rfl
        obtain ⟨M12, eM12⟩ : ∃ z, em_pI M11 118 9 ((M11.1 118 9) + (1 : Int32)) = z := ⟨_, rfl⟩
        have fM12 : M12.2 c = M11.2 c := by rw [← eM12]; exact rfl
        rw [show et_X12_line M = (((M12.1 118 9) - (1 : Int32)), M12) from by simp only [et_X12_line, if_neg c1, eM2, eM3, eM4, eM6, if_pos c8, eM9, if_pos c10, eM11, eM12]]
        show M12.2 c = M.2 c
        exact (fM12).trans ((fM11).trans ((fM9).trans ((fM6).trans ((fM4).trans ((fM3).trans (fM2))))))
      · skip
        rw [show et_X12_line M = (((-10 : Int32) - (M9.1 118 13)), M9) from by simp only [et_X12_line, if_neg c1, eM2, eM3, eM4, eM6, if_pos c8, eM9, if_neg c10]]
        show M9.2 c = M.2 c
        exact (fM9).trans ((fM6).trans ((fM4).trans ((fM3).trans (fM2))))
    · skip
      by_cases c13 : (M6.1 118 11) ≤ (M6.1 118 12)
      · skip
        obtain ⟨M14, eM14⟩ : ∃ z, em_pI M6 118 11 (0 : Int32) = z := ⟨_, rfl⟩
        have fM14 : M14.2 c = M6.2 c := by rw [← eM14]; exact rfl
        by_cases c15 : 0 ≤ r5
        · skip
          obtain ⟨M16, eM16⟩ : ∃ z, em_pI M14 126 ((M14.1 118 9)).toNatClampNeg (M14.1 118 14) = z := ⟨_, rfl⟩
          have fM16 : M16.2 c = M14.2 c := by rw [← eM16]; exact rfl
          obtain ⟨M17, eM17⟩ : ∃ z, em_pI M16 118 9 ((M16.1 118 9) + (1 : Int32)) = z := ⟨_, rfl⟩
          have fM17 : M17.2 c = M16.2 c := by rw [← eM17]; exact rfl
          rw [show et_X12_line M = (((M17.1 118 9) - (1 : Int32)), M17) from by simp only [et_X12_line, if_neg c1, eM2, eM3, eM4, eM6, if_neg c8, if_pos c13, eM14, if_pos c15, eM16, eM17]]
          show M17.2 c = M.2 c
          exact (fM17).trans ((fM16).trans ((fM14).trans ((fM6).trans ((fM4).trans ((fM3).trans (fM2))))))
        · skip
          rw [show et_X12_line M = (((-10 : Int32) - (M14.1 118 13)), M14) from by simp only [et_X12_line, if_neg c1, eM2, eM3, eM4, eM6, if_neg c8, if_pos c13, eM14, if_neg c15]]
          show M14.2 c = M.2 c
          exact (fM14).trans ((fM6).trans ((fM4).trans ((fM3).trans (fM2))))
      · skip
        obtain ⟨r18, M19, eM19⟩ : ∃ y z, et_X12_stops M6 = (y, z) := ⟨_, _, rfl⟩
        have fM19 : M19.2 c = M6.2 c := by
          have q : (et_X12_stops M6).2.2 c = M6.2 c := (ef2_X12_stops _ (by omega))
          rw [eM19] at q
          exact q
        obtain ⟨M21, eM21⟩ : ∃ z, em_pI M19 118 11 (0 : Int32) = z := ⟨_, rfl⟩
        have fM21 : M21.2 c = M19.2 c := by rw [← eM21]; exact rfl
        by_cases c22 : 0 ≤ r18
        · skip
          obtain ⟨M23, eM23⟩ : ∃ z, em_pI M21 126 ((M21.1 118 9)).toNatClampNeg (M21.1 118 14) = z := ⟨_, rfl⟩
          have fM23 : M23.2 c = M21.2 c := by rw [← eM23]; exact rfl
          obtain ⟨M24, eM24⟩ : ∃ z, em_pI M23 118 9 ((M23.1 118 9) + (1 : Int32)) = z := ⟨_, rfl⟩
          have fM24 : M24.2 c = M23.2 c := by rw [← eM24]; exact rfl
          rw [show et_X12_line M = (((M24.1 118 9) - (1 : Int32)), M24) from by simp only [et_X12_line, if_neg c1, eM2, eM3, eM4, eM6, if_neg c8, if_neg c13, eM19, eM21, if_pos c22, eM23, eM24]]
          show M24.2 c = M.2 c
          exact (fM24).trans ((fM23).trans ((fM21).trans ((fM19).trans ((fM6).trans ((fM4).trans ((fM3).trans (fM2)))))))
        · skip
          rw [show et_X12_line M = (((-10 : Int32) - (M21.1 118 13)), M21) from by simp only [et_X12_line, if_neg c1, eM2, eM3, eM4, eM6, if_neg c8, if_neg c13, eM19, eM21, if_neg c22]]
          show M21.2 c = M.2 c
          exact (fM21).trans ((fM19).trans ((fM6).trans ((fM4).trans ((fM3).trans (fM2)))))
theorem ef1_X12_define  (M : em_M) (function : Int32) (line : Int32) {c : Nat} (h : c < 118 ∨ 131 < c) : (et_X12_define M function line).2.1 c = M.1 c := by
  obtain ⟨r1, er1⟩ : ∃ z, et_X12_in M ((function).toInt64) (0 : Int64) (2 : Int64) = z := ⟨_, rfl⟩
  by_cases c2 : r1 = 0
  · skip
    rw [show et_X12_define M function line = ((-1 : Int32), M) from by simp only [et_X12_define, er1, if_pos c2]]
    all_goals rfl
  · skip
    by_cases c3 : line = (-1 : Int32)
    · skip
      obtain ⟨M4, eM4⟩ : ∃ z, em_pI M 119 (((4 : Int32) + function)).toNatClampNeg (-5 : Int32) = z := ⟨_, rfl⟩
      have fM4 : M4.1 c = M.1 c := by rw [← eM4]; exact ef_pI' _ _ _ _ (by omega)
      rw [show et_X12_define M function line = ((M.1 119 (((4 : Int32) + function)).toNatClampNeg), M4) from by simp only [et_X12_define, er1, if_neg c2, if_pos c3, eM4]]
      show M4.1 c = M.1 c
      exact fM4
    · skip
      obtain ⟨r5, er5⟩ : ∃ z, et_X12_isLine M line = z := ⟨_, rfl⟩
      by_cases c6 : r5 = 0
      · skip
        rw [show et_X12_define M function line = ((-1 : Int32), M) from by simp only [et_X12_define, er1, if_neg c2, if_neg c3, er5, if_pos c6]]
        all_goals rfl
      · skip
        obtain ⟨M7, eM7⟩ : ∃ z, em_pI M 119 (((4 : Int32) + function)).toNatClampNeg line = z := ⟨_, rfl⟩
        have fM7 : M7.1 c = M.1 c := by rw [← eM7]; exact ef_pI' _ _ _ _ (by omega)
        rw [show et_X12_define M function line = ((M.1 119 (((4 : Int32) + function)).toNatClampNeg), M7) from by simp only [et_X12_define, er1, if_neg c2, if_neg c3, er5, if_neg c6, eM7]]
        show M7.1 c = M.1 c
        exact fM7
theorem ef2_X12_define  (M : em_M) (function : Int32) (line : Int32) {c : Nat} (h : c < 118 ∨ 131 < c) : (et_X12_define M function line).2.2 c = M.2 c := by
  obtain ⟨r1, er1⟩ : ∃ z, et_X12_in M ((function).toInt64) (0 : Int64) (2 : Int64) = z := ⟨_, rfl⟩
  by_cases c2 : r1 = 0
  · skip
    rw [show et_X12_define M function line = ((-1 : Int32), M) from by simp only [et_X12_define, er1, if_pos c2]]
    all_goals rfl
  · skip
    by_cases c3 : line = (-1 : Int32)
    · skip
      obtain ⟨M4, eM4⟩ : ∃ z, em_pI M 119 (((4 : Int32) + function)).toNatClampNeg (-5 : Int32) = z := ⟨_, rfl⟩
      have fM4 : M4.2 c = M.2 c := by rw [← eM4]; exact rfl
      rw [show et_X12_define M function line = ((M.1 119 (((4 : Int32) + function)).toNatClampNeg), M4) from by simp only [et_X12_define, er1, if_neg c2, if_pos c3, eM4]]
      show M4.2 c = M.2 c
      exact fM4
    · skip
      obtain ⟨r5, er5⟩ : ∃ z, et_X12_isLine M line = z := ⟨_, rfl⟩
      by_cases c6 : r5 = 0
      · skip
        rw [show et_X12_define M function line = ((-1 : Int32), M) from by simp only [et_X12_define, er1, if_neg c2, if_neg c3, er5, if_pos c6]]
        all_goals rfl
      · skip
        obtain ⟨M7, eM7⟩ : ∃ z, em_pI M 119 (((4 : Int32) + function)).toNatClampNeg line = z := ⟨_, rfl⟩
        have fM7 : M7.2 c = M.2 c := by rw [← eM7]; exact rfl
        rw [show et_X12_define M function line = ((M.1 119 (((4 : Int32) + function)).toNatClampNeg), M7) from by simp only [et_X12_define, er1, if_neg c2, if_neg c3, er5, if_neg c6, eM7]]
        show M7.2 c = M.2 c
        exact fM7
theorem ef1_X12_value  (M : em_M) (name : Int32) (v : Int32) {c : Nat} (h : c < 118 ∨ 131 < c) : (et_X12_value M name v).2.1 c = M.1 c := by
  obtain ⟨r1, er1⟩ : ∃ z, et_X12_isName M name = z := ⟨_, rfl⟩
  by_cases c2 : r1 = 0
  · skip
    rw [show et_X12_value M name v = ((-9223372036854775808 : Int64), M) from by simp only [et_X12_value, er1, if_pos c2]]
    all_goals rfl
  · skip
    obtain ⟨M3, eM3⟩ : ∃ z, em_pI M 119 (((0 : Int32) + name)).toNatClampNeg v = z := ⟨_, rfl⟩
    have fM3 : M3.1 c = M.1 c := by rw [← eM3]; exact ef_pI' _ _ _ _ (by omega)
    rw [show et_X12_value M name v = (((M.1 119 (((0 : Int32) + name)).toNatClampNeg)).toInt64, M3) from by simp only [et_X12_value, er1, if_neg c2, eM3]]
    show M3.1 c = M.1 c
    exact fM3
theorem ef2_X12_value  (M : em_M) (name : Int32) (v : Int32) {c : Nat} (h : c < 118 ∨ 131 < c) : (et_X12_value M name v).2.2 c = M.2 c := by
  obtain ⟨r1, er1⟩ : ∃ z, et_X12_isName M name = z := ⟨_, rfl⟩
  by_cases c2 : r1 = 0
  · skip
    rw [show et_X12_value M name v = ((-9223372036854775808 : Int64), M) from by simp only [et_X12_value, er1, if_pos c2]]
    all_goals rfl
  · skip
    obtain ⟨M3, eM3⟩ : ∃ z, em_pI M 119 (((0 : Int32) + name)).toNatClampNeg v = z := ⟨_, rfl⟩
    have fM3 : M3.2 c = M.2 c := by rw [← eM3]; exact rfl
    rw [show et_X12_value M name v = (((M.1 119 (((0 : Int32) + name)).toNatClampNeg)).toInt64, M3) from by simp only [et_X12_value, er1, if_neg c2, eM3]]
    show M3.2 c = M.2 c
    exact fM3
theorem ef1_X12_stands  (M : em_M) (status : Int32) {c : Nat} (h : c < 118 ∨ 131 < c) : (et_X12_stands M status).1 c = M.1 c := by
  obtain ⟨M1, eM1⟩ : ∃ z, em_pI M 119 ((7 : Int32)).toNatClampNeg status = z := ⟨_, rfl⟩
  have fM1 : M1.1 c = M.1 c := by rw [← eM1]; exact ef_pI' _ _ _ _ (by omega)
  rw [show et_X12_stands M status = M1 from by simp only [et_X12_stands, eM1]]
  exact fM1
theorem ef2_X12_stands  (M : em_M) (status : Int32) {c : Nat} (h : c < 118 ∨ 131 < c) : (et_X12_stands M status).2 c = M.2 c := by
  obtain ⟨M1, eM1⟩ : ∃ z, em_pI M 119 ((7 : Int32)).toNatClampNeg status = z := ⟨_, rfl⟩
  have fM1 : M1.2 c = M.2 c := by rw [← eM1]; exact rfl
  rw [show et_X12_stands M status = M1 from by simp only [et_X12_stands, eM1]]
  exact fM1
theorem ef1_X12_works  (M : em_M) (e : Int32) (offset : Int32) (scope : Int32) {c : Nat} (h : c < 118 ∨ 131 < c) : (et_X12_works M e offset scope).1 c = M.1 c := by
  obtain ⟨M1, eM1⟩ : ∃ z, em_pI M 119 ((13 : Int32)).toNatClampNeg (0 : Int32) = z := ⟨_, rfl⟩
  have fM1 : M1.1 c = M.1 c := by rw [← eM1]; exact ef_pI' _ _ _ _ (by omega)
  obtain ⟨M2, eM2⟩ : ∃ z, em_pI M1 119 ((14 : Int32)).toNatClampNeg e = z := ⟨_, rfl⟩
  have fM2 : M2.1 c = M1.1 c := by rw [← eM2]; exact ef_pI' _ _ _ _ (by omega)
  obtain ⟨M3, eM3⟩ : ∃ z, em_pI M2 119 ((15 : Int32)).toNatClampNeg offset = z := ⟨_, rfl⟩
  have fM3 : M3.1 c = M2.1 c := by rw [← eM3]; exact ef_pI' _ _ _ _ (by omega)
  obtain ⟨M4, eM4⟩ : ∃ z, em_pI M3 119 ((16 : Int32)).toNatClampNeg scope = z := ⟨_, rfl⟩
  have fM4 : M4.1 c = M3.1 c := by rw [← eM4]; exact ef_pI' _ _ _ _ (by omega)
  rw [show et_X12_works M e offset scope = M4 from by simp only [et_X12_works, eM1, eM2, eM3, eM4]]
  exact (fM4).trans ((fM3).trans ((fM2).trans (fM1)))
theorem ef2_X12_works  (M : em_M) (e : Int32) (offset : Int32) (scope : Int32) {c : Nat} (h : c < 118 ∨ 131 < c) : (et_X12_works M e offset scope).2 c = M.2 c := by
  obtain ⟨M1, eM1⟩ : ∃ z, em_pI M 119 ((13 : Int32)).toNatClampNeg (0 : Int32) = z := ⟨_, rfl⟩
  have fM1 : M1.2 c = M.2 c := by rw [← eM1]; exact rfl
  obtain ⟨M2, eM2⟩ : ∃ z, em_pI M1 119 ((14 : Int32)).toNatClampNeg e = z := ⟨_, rfl⟩
  have fM2 : M2.2 c = M1.2 c := by rw [← eM2]; exact rfl
  obtain ⟨M3, eM3⟩ : ∃ z, em_pI M2 119 ((15 : Int32)).toNatClampNeg offset = z := ⟨_, rfl⟩
  have fM3 : M3.2 c = M2.2 c := by rw [← eM3]; exact rfl
  obtain ⟨M4, eM4⟩ : ∃ z, em_pI M3 119 ((16 : Int32)).toNatClampNeg scope = z := ⟨_, rfl⟩
  have fM4 : M4.2 c = M3.2 c := by rw [← eM4]; exact rfl
  rw [show et_X12_works M e offset scope = M4 from by simp only [et_X12_works, eM1, eM2, eM3, eM4]]
  exact (fM4).trans ((fM3).trans ((fM2).trans (fM1)))
theorem ef1_X12_gives  (M : em_M) (isEscape : Int32) (v : Int32) {c : Nat} (h : c < 118 ∨ 131 < c) : (et_X12_gives M isEscape v).1 c = M.1 c := by
  obtain ⟨M1, eM1⟩ : ∃ z, em_pI M 119 ((13 : Int32)).toNatClampNeg (1 : Int32) = z := ⟨_, rfl⟩
  have fM1 : M1.1 c = M.1 c := by rw [← eM1]; exact ef_pI' _ _ _ _ (by omega)
  obtain ⟨M2, eM2⟩ : ∃ z, em_pI M1 119 ((19 : Int32)).toNatClampNeg isEscape = z := ⟨_, rfl⟩
  have fM2 : M2.1 c = M1.1 c := by rw [← eM2]; exact ef_pI' _ _ _ _ (by omega)
  obtain ⟨M3, eM3⟩ : ∃ z, em_pI M2 119 ((20 : Int32)).toNatClampNeg v = z := ⟨_, rfl⟩
  have fM3 : M3.1 c = M2.1 c := by rw [← eM3]; exact ef_pI' _ _ _ _ (by omega)
  rw [show et_X12_gives M isEscape v = M3 from by simp only [et_X12_gives, eM1, eM2, eM3]]
  exact (fM3).trans ((fM2).trans (fM1))
theorem ef2_X12_gives  (M : em_M) (isEscape : Int32) (v : Int32) {c : Nat} (h : c < 118 ∨ 131 < c) : (et_X12_gives M isEscape v).2 c = M.2 c := by
  obtain ⟨M1, eM1⟩ : ∃ z, em_pI M 119 ((13 : Int32)).toNatClampNeg (1 : Int32) = z := ⟨_, rfl⟩
  have fM1 : M1.2 c = M.2 c := by rw [← eM1]; exact rfl
  obtain ⟨M2, eM2⟩ : ∃ z, em_pI M1 119 ((19 : Int32)).toNatClampNeg isEscape = z := ⟨_, rfl⟩
  have fM2 : M2.2 c = M1.2 c := by rw [← eM2]; exact rfl
  obtain ⟨M3, eM3⟩ : ∃ z, em_pI M2 119 ((20 : Int32)).toNatClampNeg v = z := ⟨_, rfl⟩
  have fM3 : M3.2 c = M2.2 c := by rw [← eM3]; exact rfl
  rw [show et_X12_gives M isEscape v = M3 from by simp only [et_X12_gives, eM1, eM2, eM3]]
  exact (fM3).trans ((fM2).trans (fM1))
theorem ef1_X12_comes  (M : em_M) (below : Int32) (what : Int32) (e : Int32) (scope : Int32) (keptEscape : Int32) (keptThing : Int32) (extra : Int32) {c : Nat} (h : c < 118 ∨ 131 < c) : (et_X12_comes M below what e scope keptEscape keptThing extra).2.1 c = M.1 c := by
  obtain ⟨r1, er1⟩ : ∃ z, et_X12_frames M below = z := ⟨_, rfl⟩
  by_cases c2 : r1 = (40 : Int32)
  · skip
    obtain ⟨M16, eM16⟩ : ∃ z, et_X12_stands M (4 : Int32) = z := ⟨_, rfl⟩
    have fM16 : M16.1 c = M.1 c := by rw [← eM16]; exact (ef1_X12_stands _ _ (by omega))
    rw [show et_X12_comes M below what e scope keptEscape keptThing extra = ((0 : Int32), M16) from by simp only [et_X12_comes, er1, if_pos c2, eM16]]
    show M16.1 c = M.1 c
    exact fM16
  · skip
    obtain ⟨M3, eM3⟩ : ∃ z, em_pI M 119 (((120 : Int32) + ((8 : Int32) * (M.1 119 ((21 : Int32)).toNatClampNeg)))).toNatClampNeg what = z := ⟨_, rfl⟩
    have fM3 : M3.1 c = M.1 c := by rw [← eM3]; exact ef_pI' _ _ _ _ (by omega)
    obtain ⟨M4, eM4⟩ : ∃ z, em_pI M3 119 ((((120 : Int32) + ((8 : Int32) * (M.1 119 ((21 : Int32)).toNatClampNeg))) + (1 : Int32))).toNatClampNeg e = z := ⟨_, rfl⟩
    have fM4 : M4.1 c = M3.1 c := by rw [← eM4]; exact ef_pI' _ _ _ _ (by omega)
    obtain ⟨M5, eM5⟩ : ∃ z, em_pI M4 119 ((((120 : Int32) + ((8 : Int32) * (M.1 119 ((21 : Int32)).toNatClampNeg))) + (2 : Int32))).toNatClampNeg scope = z := ⟨_, rfl⟩
    have fM5 : M5.1 c = M4.1 c := by rw [← eM5]; exact ef_pI' _ _ _ _ (by omega)
    obtain ⟨M6, eM6⟩ : ∃ z, em_pI M5 119 ((((120 : Int32) + ((8 : Int32) * (M.1 119 ((21 : Int32)).toNatClampNeg))) + (3 : Int32))).toNatClampNeg keptEscape = z := ⟨_, rfl⟩
    have fM6 : M6.1 c = M5.1 c := by rw [← eM6]; exact ef_pI' _ _ _ _ (by omega)
    obtain ⟨M7, eM7⟩ : ∃ z, em_pI M6 119 ((((120 : Int32) + ((8 : Int32) * (M.1 119 ((21 : Int32)).toNatClampNeg))) + (4 : Int32))).toNatClampNeg keptThing = z := ⟨_, rfl⟩
    have fM7 : M7.1 c = M6.1 c := by rw [← eM7]; exact ef_pI' _ _ _ _ (by omega)
    obtain ⟨M8, eM8⟩ : ∃ z, em_pI M7 119 ((((120 : Int32) + ((8 : Int32) * (M.1 119 ((21 : Int32)).toNatClampNeg))) + (5 : Int32))).toNatClampNeg below = z := ⟨_, rfl⟩
    have fM8 : M8.1 c = M7.1 c := by rw [← eM8]; exact ef_pI' _ _ _ _ (by omega)
    obtain ⟨r9, er9⟩ : ∃ z, et_X12_frames M8 below = z := ⟨_, rfl⟩
    obtain ⟨M10, eM10⟩ : ∃ z, em_pI M8 119 ((((120 : Int32) + ((8 : Int32) * (M.1 119 ((21 : Int32)).toNatClampNeg))) + (6 : Int32))).toNatClampNeg (r9 + (1 : Int32)) = z := ⟨_, rfl⟩
    have fM10 : M10.1 c = M8.1 c := by rw [← eM10]; exact ef_pI' _ _ _ _ (by omega)
    obtain ⟨M11, eM11⟩ : ∃ z, em_pI M10 119 ((((120 : Int32) + ((8 : Int32) * (M.1 119 ((21 : Int32)).toNatClampNeg))) + (7 : Int32))).toNatClampNeg extra = z := ⟨_, rfl⟩
    have fM11 : M11.1 c = M10.1 c := by rw [← eM11]; exact ef_pI' _ _ _ _ (by omega)
    obtain ⟨M12, eM12⟩ : ∃ z, em_pI M11 119 ((21 : Int32)).toNatClampNeg ((M.1 119 ((21 : Int32)).toNatClampNeg) + (1 : Int32)) = z := ⟨_, rfl⟩
    have fM12 : M12.1 c = M11.1 c := by rw [← eM12]; exact ef_pI' _ _ _ _ (by omega)
    obtain ⟨M13, eM13⟩ : ∃ z, em_pI M12 119 ((17 : Int32)).toNatClampNeg (M.1 119 ((21 : Int32)).toNatClampNeg) = z := ⟨_, rfl⟩
    have fM13 : M13.1 c = M12.1 c := by rw [← eM13]; exact ef_pI' _ _ _ _ (by omega)
    obtain ⟨r14, er14⟩ : ∃ z, (if (M13.1 119 ((11 : Int32)).toNatClampNeg) < (M13.1 119 ((((120 : Int32) + ((8 : Int32) * (M.1 119 ((21 : Int32)).toNatClampNeg))) + (6 : Int32))).toNatClampNeg) then (M13.1 119 ((((120 : Int32) + ((8 : Int32) * (M.1 119 ((21 : Int32)).toNatClampNeg))) + (6 : Int32))).toNatClampNeg) else (M13.1 119 ((11 : Int32)).toNatClampNeg)) = z := ⟨_, rfl⟩
    obtain ⟨M15, eM15⟩ : ∃ z, em_pI M13 119 ((11 : Int32)).toNatClampNeg r14 = z := ⟨_, rfl⟩
    have fM15 : M15.1 c = M13.1 c := by rw [← eM15]; exact ef_pI' _ _ _ _ (by omega)
    rw [show et_X12_comes M below what e scope keptEscape keptThing extra = ((1 : Int32), M15) from by simp only [et_X12_comes, er1, if_neg c2, eM3, eM4, eM5, eM6, eM7, eM8, er9, eM10, eM11, eM12, eM13, er14, eM15]]
    show M15.1 c = M.1 c
    exact (fM15).trans ((fM13).trans ((fM12).trans ((fM11).trans ((fM10).trans ((fM8).trans ((fM7).trans ((fM6).trans ((fM5).trans ((fM4).trans (fM3))))))))))
theorem ef2_X12_comes  (M : em_M) (below : Int32) (what : Int32) (e : Int32) (scope : Int32) (keptEscape : Int32) (keptThing : Int32) (extra : Int32) {c : Nat} (h : c < 118 ∨ 131 < c) : (et_X12_comes M below what e scope keptEscape keptThing extra).2.2 c = M.2 c := by
  obtain ⟨r1, er1⟩ : ∃ z, et_X12_frames M below = z := ⟨_, rfl⟩
  by_cases c2 : r1 = (40 : Int32)
  · skip
    obtain ⟨M16, eM16⟩ : ∃ z, et_X12_stands M (4 : Int32) = z := ⟨_, rfl⟩
    have fM16 : M16.2 c = M.2 c := by rw [← eM16]; exact (ef2_X12_stands _ _ (by omega))
    rw [show et_X12_comes M below what e scope keptEscape keptThing extra = ((0 : Int32), M16) from by simp only [et_X12_comes, er1, if_pos c2, eM16]]
    show M16.2 c = M.2 c
    exact fM16
  · skip
    obtain ⟨M3, eM3⟩ : ∃ z, em_pI M 119 (((120 : Int32) + ((8 : Int32) * (M.1 119 ((21 : Int32)).toNatClampNeg)))).toNatClampNeg what = z := ⟨_, rfl⟩
    have fM3 : M3.2 c = M.2 c := by rw [← eM3]; exact rfl
    obtain ⟨M4, eM4⟩ : ∃ z, em_pI M3 119 ((((120 : Int32) + ((8 : Int32) * (M.1 119 ((21 : Int32)).toNatClampNeg))) + (1 : Int32))).toNatClampNeg e = z := ⟨_, rfl⟩
    have fM4 : M4.2 c = M3.2 c := by rw [← eM4]; exact rfl
    obtain ⟨M5, eM5⟩ : ∃ z, em_pI M4 119 ((((120 : Int32) + ((8 : Int32) * (M.1 119 ((21 : Int32)).toNatClampNeg))) + (2 : Int32))).toNatClampNeg scope = z := ⟨_, rfl⟩
    have fM5 : M5.2 c = M4.2 c := by rw [← eM5]; exact rfl
    obtain ⟨M6, eM6⟩ : ∃ z, em_pI M5 119 ((((120 : Int32) + ((8 : Int32) * (M.1 119 ((21 : Int32)).toNatClampNeg))) + (3 : Int32))).toNatClampNeg keptEscape = z := ⟨_, rfl⟩
    have fM6 : M6.2 c = M5.2 c := by rw [← eM6]; exact rfl
    obtain ⟨M7, eM7⟩ : ∃ z, em_pI M6 119 ((((120 : Int32) + ((8 : Int32) * (M.1 119 ((21 : Int32)).toNatClampNeg))) + (4 : Int32))).toNatClampNeg keptThing = z := ⟨_, rfl⟩
    have fM7 : M7.2 c = M6.2 c := by rw [← eM7]; exact rfl
    obtain ⟨M8, eM8⟩ : ∃ z, em_pI M7 119 ((((120 : Int32) + ((8 : Int32) * (M.1 119 ((21 : Int32)).toNatClampNeg))) + (5 : Int32))).toNatClampNeg below = z := ⟨_, rfl⟩
    have fM8 : M8.2 c = M7.2 c := by rw [← eM8]; exact rfl
    obtain ⟨r9, er9⟩ : ∃ z, et_X12_frames M8 below = z := ⟨_, rfl⟩
    obtain ⟨M10, eM10⟩ : ∃ z, em_pI M8 119 ((((120 : Int32) + ((8 : Int32) * (M.1 119 ((21 : Int32)).toNatClampNeg))) + (6 : Int32))).toNatClampNeg (r9 + (1 : Int32)) = z := ⟨_, rfl⟩
    have fM10 : M10.2 c = M8.2 c := by rw [← eM10]; exact rfl
    obtain ⟨M11, eM11⟩ : ∃ z, em_pI M10 119 ((((120 : Int32) + ((8 : Int32) * (M.1 119 ((21 : Int32)).toNatClampNeg))) + (7 : Int32))).toNatClampNeg extra = z := ⟨_, rfl⟩
    have fM11 : M11.2 c = M10.2 c := by rw [← eM11]; exact rfl
    obtain ⟨M12, eM12⟩ : ∃ z, em_pI M11 119 ((21 : Int32)).toNatClampNeg ((M.1 119 ((21 : Int32)).toNatClampNeg) + (1 : Int32)) = z := ⟨_, rfl⟩
    have fM12 : M12.2 c = M11.2 c := by rw [← eM12]; exact rfl
    obtain ⟨M13, eM13⟩ : ∃ z, em_pI M12 119 ((17 : Int32)).toNatClampNeg (M.1 119 ((21 : Int32)).toNatClampNeg) = z := ⟨_, rfl⟩
    have fM13 : M13.2 c = M12.2 c := by rw [← eM13]; exact rfl
    obtain ⟨r14, er14⟩ : ∃ z, (if (M13.1 119 ((11 : Int32)).toNatClampNeg) < (M13.1 119 ((((120 : Int32) + ((8 : Int32) * (M.1 119 ((21 : Int32)).toNatClampNeg))) + (6 : Int32))).toNatClampNeg) then (M13.1 119 ((((120 : Int32) + ((8 : Int32) * (M.1 119 ((21 : Int32)).toNatClampNeg))) + (6 : Int32))).toNatClampNeg) else (M13.1 119 ((11 : Int32)).toNatClampNeg)) = z := ⟨_, rfl⟩
    obtain ⟨M15, eM15⟩ : ∃ z, em_pI M13 119 ((11 : Int32)).toNatClampNeg r14 = z := ⟨_, rfl⟩
    have fM15 : M15.2 c = M13.2 c := by rw [← eM15]; exact rfl
    rw [show et_X12_comes M below what e scope keptEscape keptThing extra = ((1 : Int32), M15) from by simp only [et_X12_comes, er1, if_neg c2, eM3, eM4, eM5, eM6, eM7, eM8, er9, eM10, eM11, eM12, eM13, er14, eM15]]
    show M15.2 c = M.2 c
    exact (fM15).trans ((fM13).trans ((fM12).trans ((fM11).trans ((fM10).trans ((fM8).trans ((fM7).trans ((fM6).trans ((fM5).trans ((fM4).trans (fM3))))))))))
theorem ef1_X12_bound  (M : em_M) (below : Int32) (name : Int32) (isEscape : Int32) (v : Int32) {c : Nat} (h : c < 118 ∨ 131 < c) : (et_X12_bound M below name isEscape v).2.1 c = M.1 c := by
  obtain ⟨M1, eM1⟩ : ∃ z, em_pI M 119 (((2680 : Int32) + ((4 : Int32) * (M.1 119 ((22 : Int32)).toNatClampNeg)))).toNatClampNeg name = z := ⟨_, rfl⟩
  have fM1 : M1.1 c = M.1 c := by rw [← eM1]; exact ef_pI' _ _ _ _ (by omega)
  obtain ⟨M2, eM2⟩ : ∃ z, em_pI M1 119 ((((2680 : Int32) + ((4 : Int32) * (M.1 119 ((22 : Int32)).toNatClampNeg))) + (1 : Int32))).toNatClampNeg isEscape = z := ⟨_, rfl⟩
  have fM2 : M2.1 c = M1.1 c := by rw [← eM2]; exact ef_pI' _ _ _ _ (by omega)
  obtain ⟨M3, eM3⟩ : ∃ z, em_pI M2 119 ((((2680 : Int32) + ((4 : Int32) * (M.1 119 ((22 : Int32)).toNatClampNeg))) + (2 : Int32))).toNatClampNeg v = z := ⟨_, rfl⟩
  have fM3 : M3.1 c = M2.1 c := by rw [← eM3]; exact ef_pI' _ _ _ _ (by omega)
  obtain ⟨M4, eM4⟩ : ∃ z, em_pI M3 119 ((((2680 : Int32) + ((4 : Int32) * (M.1 119 ((22 : Int32)).toNatClampNeg))) + (3 : Int32))).toNatClampNeg below = z := ⟨_, rfl⟩
  have fM4 : M4.1 c = M3.1 c := by rw [← eM4]; exact ef_pI' _ _ _ _ (by omega)
  obtain ⟨M5, eM5⟩ : ∃ z, em_pI M4 119 ((22 : Int32)).toNatClampNeg ((M.1 119 ((22 : Int32)).toNatClampNeg) + (1 : Int32)) = z := ⟨_, rfl⟩
  have fM5 : M5.1 c = M4.1 c := by rw [← eM5]; exact ef_pI' _ _ _ _ (by omega)
  rw [show et_X12_bound M below name isEscape v = ((M.1 119 ((22 : Int32)).toNatClampNeg), M5) from by simp only [et_X12_bound, eM1, eM2, eM3, eM4, eM5]]
  show M5.1 c = M.1 c
  exact (fM5).trans ((fM4).trans ((fM3).trans ((fM2).trans (fM1))))
theorem ef2_X12_bound  (M : em_M) (below : Int32) (name : Int32) (isEscape : Int32) (v : Int32) {c : Nat} (h : c < 118 ∨ 131 < c) : (et_X12_bound M below name isEscape v).2.2 c = M.2 c := by
  obtain ⟨M1, eM1⟩ : ∃ z, em_pI M 119 (((2680 : Int32) + ((4 : Int32) * (M.1 119 ((22 : Int32)).toNatClampNeg)))).toNatClampNeg name = z := ⟨_, rfl⟩
  have fM1 : M1.2 c = M.2 c := by rw [← eM1]; exact rfl
  obtain ⟨M2, eM2⟩ : ∃ z, em_pI M1 119 ((((2680 : Int32) + ((4 : Int32) * (M.1 119 ((22 : Int32)).toNatClampNeg))) + (1 : Int32))).toNatClampNeg isEscape = z := ⟨_, rfl⟩
  have fM2 : M2.2 c = M1.2 c := by rw [← eM2]; exact rfl
  obtain ⟨M3, eM3⟩ : ∃ z, em_pI M2 119 ((((2680 : Int32) + ((4 : Int32) * (M.1 119 ((22 : Int32)).toNatClampNeg))) + (2 : Int32))).toNatClampNeg v = z := ⟨_, rfl⟩
  have fM3 : M3.2 c = M2.2 c := by rw [← eM3]; exact rfl
  obtain ⟨M4, eM4⟩ : ∃ z, em_pI M3 119 ((((2680 : Int32) + ((4 : Int32) * (M.1 119 ((22 : Int32)).toNatClampNeg))) + (3 : Int32))).toNatClampNeg below = z := ⟨_, rfl⟩
  have fM4 : M4.2 c = M3.2 c := by rw [← eM4]; exact rfl
  obtain ⟨M5, eM5⟩ : ∃ z, em_pI M4 119 ((22 : Int32)).toNatClampNeg ((M.1 119 ((22 : Int32)).toNatClampNeg) + (1 : Int32)) = z := ⟨_, rfl⟩
  have fM5 : M5.2 c = M4.2 c := by rw [← eM5]; exact rfl
  rw [show et_X12_bound M below name isEscape v = ((M.1 119 ((22 : Int32)).toNatClampNeg), M5) from by simp only [et_X12_bound, eM1, eM2, eM3, eM4, eM5]]
  show M5.2 c = M.2 c
  exact (fM5).trans ((fM4).trans ((fM3).trans ((fM2).trans (fM1))))
theorem ef1_X12_worksOn  (M : em_M) {c : Nat} (h : c < 118 ∨ 131 < c) : (et_X12_worksOn M).1 c = M.1 c := by
  by_cases c1 : (M.1 122 ((M.1 119 ((14 : Int32)).toNatClampNeg)).toNatClampNeg) = (97 : Int32)
  · skip
    obtain ⟨r2, er2⟩ : ∃ z, et_X12_found M (M.1 119 ((16 : Int32)).toNatClampNeg) (M.1 123 ((M.1 119 ((14 : Int32)).toNatClampNeg)).toNatClampNeg) = z := ⟨_, rfl⟩
    by_cases c3 : r2 < 0
    · skip
      obtain ⟨M4, eM4⟩ : ∃ z, et_X12_gives M (0 : Int32) (M.1 119 (((0 : Int32) + (M.1 123 ((M.1 119 ((14 : Int32)).toNatClampNeg)).toNatClampNeg))).toNatClampNeg) = z := ⟨_, rfl⟩
      have fM4 : M4.1 c = M.1 c := by rw [← eM4]; exact (ef1_X12_gives _ _ _ (by omega))
      rw [show et_X12_worksOn M = M4 from by simp only [et_X12_worksOn, if_pos c1, er2, if_pos c3, eM4]]
      exact fM4
    · skip
      by_cases c5 : (M.1 119 ((((2680 : Int32) + ((4 : Int32) * r2)) + (1 : Int32))).toNatClampNeg) = (1 : Int32)
      · skip
        obtain ⟨M7, eM7⟩ : ∃ z, et_X12_gives M (1 : Int32) (M.1 119 ((((2680 : Int32) + ((4 : Int32) * r2)) + (2 : Int32))).toNatClampNeg) = z := ⟨_, rfl⟩
        have fM7 : M7.1 c = M.1 c := by rw [← eM7]; exact (ef1_X12_gives _ _ _ (by omega))
        rw [show et_X12_worksOn M = M7 from by simp only [et_X12_worksOn, if_pos c1, er2, if_neg c3, if_pos c5, eM7]]
        exact fM7
      · skip
        obtain ⟨M6, eM6⟩ : ∃ z, et_X12_gives M (0 : Int32) (M.1 119 ((((2680 : Int32) + ((4 : Int32) * r2)) + (2 : Int32))).toNatClampNeg) = z := ⟨_, rfl⟩
        have fM6 : M6.1 c = M.1 c := by rw [← eM6]; exact (ef1_X12_gives _ _ _ (by omega))
        rw [show et_X12_worksOn M = M6 from by simp only [et_X12_worksOn, if_pos c1, er2, if_neg c3, if_neg c5, eM6]]
        exact fM6
  · skip
    by_cases c8 : (M.1 122 ((M.1 119 ((14 : Int32)).toNatClampNeg)).toNatClampNeg) = (94 : Int32)
    · skip
      obtain ⟨r33, er33⟩ : ∃ z, et_X12_found M (M.1 119 ((16 : Int32)).toNatClampNeg) (M.1 123 ((M.1 119 ((14 : Int32)).toNatClampNeg)).toNatClampNeg) = z := ⟨_, rfl⟩
      by_cases c34 : r33 < 0
      · skip
        obtain ⟨M35, eM35⟩ : ∃ z, et_X12_stands M (2 : Int32) = z := ⟨_, rfl⟩
        have fM35 : M35.1 c = M.1 c := by rw [← eM35]; exact (ef1_X12_stands _ _ (by omega))
        rw [show et_X12_worksOn M = M35 from by simp only [et_X12_worksOn, if_neg c1, if_pos c8, er33, if_pos c34, eM35]]
        exact fM35
      · skip
        by_cases c36 : (M.1 119 ((((2680 : Int32) + ((4 : Int32) * r33)) + (1 : Int32))).toNatClampNeg) = (1 : Int32)
        · skip
          obtain ⟨r38, er38⟩ : ∃ z, et_X12_frameOf M (M.1 122 ((M.1 119 ((14 : Int32)).toNatClampNeg)).toNatClampNeg) = z := ⟨_, rfl⟩
          obtain ⟨r39, M40, eM40⟩ : ∃ y z, et_X12_comes M (M.1 119 ((17 : Int32)).toNatClampNeg) r38 (M.1 119 ((14 : Int32)).toNatClampNeg) (M.1 119 ((16 : Int32)).toNatClampNeg) (0 : Int32) (0 : Int32) (M.1 119 ((((2680 : Int32) + ((4 : Int32) * r33)) + (2 : Int32))).toNatClampNeg) = (y, z) := ⟨_, _, rfl⟩
          have fM40 : M40.1 c = M.1 c := by
            have q : (et_X12_comes M (M.1 119 ((17 : Int32)).toNatClampNeg) r38 (M.1 119 ((14 : Int32)).toNatClampNeg) (M.1 119 ((16 : Int32)).toNatClampNeg) (0 : Int32) (0 : Int32) (M.1 119 ((((2680 : Int32) + ((4 : Int32) * r33)) + (2 : Int32))).toNatClampNeg)).2.1 c = M.1 c := (ef1_X12_comes _ _ _ _ _ _ _ _ (by omega))
            rw [eM40] at q
            exact q
          by_cases c42 : r39 = 0
          · skip
            rw [show et_X12_worksOn M = M40 from by simp only [et_X12_worksOn, if_neg c1, if_pos c8, er33, if_neg c34, if_pos c36, er38, eM40, if_pos c42]]
            exact fM40
          · skip
            obtain ⟨M43, eM43⟩ : ∃ z, et_X12_works M40 (M40.1 125 (((5 : Int32) * (M.1 119 ((14 : Int32)).toNatClampNeg))).toNatClampNeg) (0 : Int32) (M.1 119 ((16 : Int32)).toNatClampNeg) = z := ⟨_, rfl⟩
            have fM43 : M43.1 c = M40.1 c := by rw [← eM43]; exact (ef1_X12_works _ _ _ _ (by omega))
            rw [show et_X12_worksOn M = M43 from by simp only [et_X12_worksOn, if_neg c1, if_pos c8, er33, if_neg c34, if_pos c36, er38, eM40, if_neg c42, eM43]]
            exact (fM43).trans (fM40)
        · skip
          obtain ⟨M37, eM37⟩ : ∃ z, et_X12_stands M (2 : Int32) = z := ⟨_, rfl⟩
          have fM37 : M37.1 c = M.1 c := by rw [← eM37]; exact (ef1_X12_stands _ _ (by omega))
          rw [show et_X12_worksOn M = M37 from by simp only [et_X12_worksOn, if_neg c1, if_pos c8, er33, if_neg c34, if_neg c36, eM37]]
          exact fM37
    · skip
      by_cases c9 : (M.1 122 ((M.1 119 ((14 : Int32)).toNatClampNeg)).toNatClampNeg) = (48 : Int32)
      · skip
        obtain ⟨M32, eM32⟩ : ∃ z, et_X12_gives M (0 : Int32) (M.1 123 ((M.1 119 ((14 : Int32)).toNatClampNeg)).toNatClampNeg) = z := ⟨_, rfl⟩
        have fM32 : M32.1 c = M.1 c := by rw [← eM32]; exact (ef1_X12_gives _ _ _ (by omega))
        rw [show et_X12_worksOn M = M32 from by simp only [et_X12_worksOn, if_neg c1, if_neg c8, if_pos c9, eM32]]
        exact fM32
      · skip
        by_cases c10 : (M.1 122 ((M.1 119 ((14 : Int32)).toNatClampNeg)).toNatClampNeg) = (91 : Int32)
        · skip
          by_cases c25 : (M.1 119 ((15 : Int32)).toNatClampNeg) = ((M.1 124 ((M.1 119 ((14 : Int32)).toNatClampNeg)).toNatClampNeg) - (1 : Int32))
          · skip
            obtain ⟨M26, eM26⟩ : ∃ z, et_X12_works M (M.1 125 ((((5 : Int32) * (M.1 119 ((14 : Int32)).toNatClampNeg)) + (M.1 119 ((15 : Int32)).toNatClampNeg))).toNatClampNeg) (0 : Int32) (M.1 119 ((16 : Int32)).toNatClampNeg) = z := ⟨_, rfl⟩
            have fM26 : M26.1 c = M.1 c := by rw [← eM26]; exact (ef1_X12_works _ _ _ _ (by omega))
            rw [show et_X12_worksOn M = M26 from by simp only [et_X12_worksOn, if_neg c1, if_neg c8, if_neg c9, if_pos c10, if_pos c25, eM26]]
            exact fM26
          · skip
            obtain ⟨r27, M28, eM28⟩ : ∃ y z, et_X12_comes M (M.1 119 ((17 : Int32)).toNatClampNeg) (4 : Int32) (M.1 119 ((14 : Int32)).toNatClampNeg) (M.1 119 ((16 : Int32)).toNatClampNeg) (0 : Int32) (0 : Int32) ((M.1 119 ((15 : Int32)).toNatClampNeg) + (1 : Int32)) = (y, z) := ⟨_, _, rfl⟩
            have fM28 : M28.1 c = M.1 c := by
              have q : (et_X12_comes M (M.1 119 ((17 : Int32)).toNatClampNeg) (4 : Int32) (M.1 119 ((14 : Int32)).toNatClampNeg) (M.1 119 ((16 : Int32)).toNatClampNeg) (0 : Int32) (0 : Int32) ((M.1 119 ((15 : Int32)).toNatClampNeg) + (1 : Int32))).2.1 c = M.1 c := (ef1_X12_comes _ _ _ _ _ _ _ _ (by omega))
              rw [eM28] at q
              exact q
            by_cases c30 : r27 = 0
            · skip
              rw [show et_X12_worksOn M = M28 from by simp only [et_X12_worksOn, if_neg c1, if_neg c8, if_neg c9, if_pos c10, if_neg c25, eM28, if_pos c30]]
              exact fM28
            · skip
              obtain ⟨M31, eM31⟩ : ∃ z, et_X12_works M28 (M28.1 125 ((((5 : Int32) * (M.1 119 ((14 : Int32)).toNatClampNeg)) + (M.1 119 ((15 : Int32)).toNatClampNeg))).toNatClampNeg) (0 : Int32) (M.1 119 ((16 : Int32)).toNatClampNeg) = z := ⟨_, rfl⟩
              have fM31 : M31.1 c = M28.1 c := by rw [← eM31]; exact (ef1_X12_works _ _ _ _ (by omega))
              rw [show et_X12_worksOn M = M31 from by simp only [et_X12_worksOn, if_neg c1, if_neg c8, if_neg c9, if_pos c10, if_neg c25, eM28, if_neg c30, eM31]]
              exact (fM31).trans (fM28)
        · skip
          by_cases c11 : (M.1 122 ((M.1 119 ((14 : Int32)).toNatClampNeg)).toNatClampNeg) = (64 : Int32)
          · skip
            obtain ⟨M18, eM18⟩ : ∃ z, em_pI M 119 (((5240 : Int32) + ((2 : Int32) * (M.1 119 ((24 : Int32)).toNatClampNeg)))).toNatClampNeg (M.1 119 ((17 : Int32)).toNatClampNeg) = z := ⟨_, rfl⟩
            have fM18 : M18.1 c = M.1 c := by rw [← eM18]; exact ef_pI' _ _ _ _ (by omega)
            obtain ⟨M19, eM19⟩ : ∃ z, em_pI M18 119 ((((5240 : Int32) + ((2 : Int32) * (M.1 119 ((24 : Int32)).toNatClampNeg))) + (1 : Int32))).toNatClampNeg (M18.1 119 ((18 : Int32)).toNatClampNeg) = z := ⟨_, rfl⟩
            have fM19 : M19.1 c = M18.1 c := by rw [← eM19]; exact ef_pI' _ _ _ _ (by omega)
            obtain ⟨M20, eM20⟩ : ∃ z, em_pI M19 119 ((24 : Int32)).toNatClampNeg ((M.1 119 ((24 : Int32)).toNatClampNeg) + (1 : Int32)) = z := ⟨_, rfl⟩
            have fM20 : M20.1 c = M19.1 c := by rw [← eM20]; exact ef_pI' _ _ _ _ (by omega)
            obtain ⟨r21, M22, eM22⟩ : ∃ y z, et_X12_bound M20 (M.1 119 ((16 : Int32)).toNatClampNeg) (M.1 123 ((M.1 119 ((14 : Int32)).toNatClampNeg)).toNatClampNeg) (1 : Int32) (M.1 119 ((24 : Int32)).toNatClampNeg) = (y, z) := ⟨_, _, rfl⟩
            have fM22 : M22.1 c = M20.1 c := by
              have q : (et_X12_bound M20 (M.1 119 ((16 : Int32)).toNatClampNeg) (M.1 123 ((M.1 119 ((14 : Int32)).toNatClampNeg)).toNatClampNeg) (1 : Int32) (M.1 119 ((24 : Int32)).toNatClampNeg)).2.1 c = M20.1 c := (ef1_X12_bound _ _ _ _ _ (by omega))
              rw [eM22] at q
              exact q
            obtain ⟨M24, eM24⟩ : ∃ z, et_X12_works M22 (M20.1 125 (((5 : Int32) * (M.1 119 ((14 : Int32)).toNatClampNeg))).toNatClampNeg) (0 : Int32) r21 = z := ⟨_, rfl⟩
            have fM24 : M24.1 c = M22.1 c := by rw [← eM24]; exact (ef1_X12_works _ _ _ _ (by omega))
            rw [show et_X12_worksOn M = M24 from by simp only [et_X12_worksOn, if_neg c1, if_neg c8, if_neg c9, if_neg c10, if_pos c11, eM18, eM19, eM20, eM22, eM24]]
            exact (fM24).trans ((fM22).trans ((fM20).trans ((fM19).trans (fM18))))
          · skip
            obtain ⟨r12, er12⟩ : ∃ z, et_X12_frameOf M (M.1 122 ((M.1 119 ((14 : Int32)).toNatClampNeg)).toNatClampNeg) = z := ⟨_, rfl⟩
            obtain ⟨r13, M14, eM14⟩ : ∃ y z, et_X12_comes M (M.1 119 ((17 : Int32)).toNatClampNeg) r12 (M.1 119 ((14 : Int32)).toNatClampNeg) (M.1 119 ((16 : Int32)).toNatClampNeg) (0 : Int32) (0 : Int32) (0 : Int32) = (y, z) := ⟨_, _, rfl⟩
            have fM14 : M14.1 c = M.1 c := by
              have q : (et_X12_comes M (M.1 119 ((17 : Int32)).toNatClampNeg) r12 (M.1 119 ((14 : Int32)).toNatClampNeg) (M.1 119 ((16 : Int32)).toNatClampNeg) (0 : Int32) (0 : Int32) (0 : Int32)).2.1 c = M.1 c := (ef1_X12_comes _ _ _ _ _ _ _ _ (by omega))
              rw [eM14] at q
              exact q
            by_cases c16 : r13 = 0
            · skip
              rw [show et_X12_worksOn M = M14 from by simp only [et_X12_worksOn, if_neg c1, if_neg c8, if_neg c9, if_neg c10, if_neg c11, er12, eM14, if_pos c16]]
              exact fM14
            · skip
              obtain ⟨M17, eM17⟩ : ∃ z, et_X12_works M14 (M14.1 125 (((5 : Int32) * (M.1 119 ((14 : Int32)).toNatClampNeg))).toNatClampNeg) (0 : Int32) (M.1 119 ((16 : Int32)).toNatClampNeg) = z := ⟨_, rfl⟩
              have fM17 : M17.1 c = M14.1 c := by rw [← eM17]; exact (ef1_X12_works _ _ _ _ (by omega))
              rw [show et_X12_worksOn M = M17 from by simp only [et_X12_worksOn, if_neg c1, if_neg c8, if_neg c9, if_neg c10, if_neg c11, er12, eM14, if_neg c16, eM17]]
              exact (fM17).trans (fM14)
theorem ef2_X12_worksOn  (M : em_M) {c : Nat} (h : c < 118 ∨ 131 < c) : (et_X12_worksOn M).2 c = M.2 c := by
  by_cases c1 : (M.1 122 ((M.1 119 ((14 : Int32)).toNatClampNeg)).toNatClampNeg) = (97 : Int32)
  · skip
    obtain ⟨r2, er2⟩ : ∃ z, et_X12_found M (M.1 119 ((16 : Int32)).toNatClampNeg) (M.1 123 ((M.1 119 ((14 : Int32)).toNatClampNeg)).toNatClampNeg) = z := ⟨_, rfl⟩
    by_cases c3 : r2 < 0
    · skip
      obtain ⟨M4, eM4⟩ : ∃ z, et_X12_gives M (0 : Int32) (M.1 119 (((0 : Int32) + (M.1 123 ((M.1 119 ((14 : Int32)).toNatClampNeg)).toNatClampNeg))).toNatClampNeg) = z := ⟨_, rfl⟩
      have fM4 : M4.2 c = M.2 c := by rw [← eM4]; exact (ef2_X12_gives _ _ _ (by omega))
      rw [show et_X12_worksOn M = M4 from by simp only [et_X12_worksOn, if_pos c1, er2, if_pos c3, eM4]]
      exact fM4
    · skip
      by_cases c5 : (M.1 119 ((((2680 : Int32) + ((4 : Int32) * r2)) + (1 : Int32))).toNatClampNeg) = (1 : Int32)
      · skip
        obtain ⟨M7, eM7⟩ : ∃ z, et_X12_gives M (1 : Int32) (M.1 119 ((((2680 : Int32) + ((4 : Int32) * r2)) + (2 : Int32))).toNatClampNeg) = z := ⟨_, rfl⟩
        have fM7 : M7.2 c = M.2 c := by rw [← eM7]; exact (ef2_X12_gives _ _ _ (by omega))
        rw [show et_X12_worksOn M = M7 from by simp only [et_X12_worksOn, if_pos c1, er2, if_neg c3, if_pos c5, eM7]]
        exact fM7
      · skip
        obtain ⟨M6, eM6⟩ : ∃ z, et_X12_gives M (0 : Int32) (M.1 119 ((((2680 : Int32) + ((4 : Int32) * r2)) + (2 : Int32))).toNatClampNeg) = z := ⟨_, rfl⟩
        have fM6 : M6.2 c = M.2 c := by rw [← eM6]; exact (ef2_X12_gives _ _ _ (by omega))
        rw [show et_X12_worksOn M = M6 from by simp only [et_X12_worksOn, if_pos c1, er2, if_neg c3, if_neg c5, eM6]]
        exact fM6
  · skip
    by_cases c8 : (M.1 122 ((M.1 119 ((14 : Int32)).toNatClampNeg)).toNatClampNeg) = (94 : Int32)
    · skip
      obtain ⟨r33, er33⟩ : ∃ z, et_X12_found M (M.1 119 ((16 : Int32)).toNatClampNeg) (M.1 123 ((M.1 119 ((14 : Int32)).toNatClampNeg)).toNatClampNeg) = z := ⟨_, rfl⟩
      by_cases c34 : r33 < 0
      · skip
        obtain ⟨M35, eM35⟩ : ∃ z, et_X12_stands M (2 : Int32) = z := ⟨_, rfl⟩
        have fM35 : M35.2 c = M.2 c := by rw [← eM35]; exact (ef2_X12_stands _ _ (by omega))
        rw [show et_X12_worksOn M = M35 from by simp only [et_X12_worksOn, if_neg c1, if_pos c8, er33, if_pos c34, eM35]]
        exact fM35
      · skip
        by_cases c36 : (M.1 119 ((((2680 : Int32) + ((4 : Int32) * r33)) + (1 : Int32))).toNatClampNeg) = (1 : Int32)
        · skip
          obtain ⟨r38, er38⟩ : ∃ z, et_X12_frameOf M (M.1 122 ((M.1 119 ((14 : Int32)).toNatClampNeg)).toNatClampNeg) = z := ⟨_, rfl⟩
          obtain ⟨r39, M40, eM40⟩ : ∃ y z, et_X12_comes M (M.1 119 ((17 : Int32)).toNatClampNeg) r38 (M.1 119 ((14 : Int32)).toNatClampNeg) (M.1 119 ((16 : Int32)).toNatClampNeg) (0 : Int32) (0 : Int32) (M.1 119 ((((2680 : Int32) + ((4 : Int32) * r33)) + (2 : Int32))).toNatClampNeg) = (y, z) := ⟨_, _, rfl⟩
          have fM40 : M40.2 c = M.2 c := by
            have q : (et_X12_comes M (M.1 119 ((17 : Int32)).toNatClampNeg) r38 (M.1 119 ((14 : Int32)).toNatClampNeg) (M.1 119 ((16 : Int32)).toNatClampNeg) (0 : Int32) (0 : Int32) (M.1 119 ((((2680 : Int32) + ((4 : Int32) * r33)) + (2 : Int32))).toNatClampNeg)).2.2 c = M.2 c := (ef2_X12_comes _ _ _ _ _ _ _ _ (by omega))
            rw [eM40] at q
            exact q
          by_cases c42 : r39 = 0
          · skip
            rw [show et_X12_worksOn M = M40 from by simp only [et_X12_worksOn, if_neg c1, if_pos c8, er33, if_neg c34, if_pos c36, er38, eM40, if_pos c42]]
            exact fM40
          · skip
            obtain ⟨M43, eM43⟩ : ∃ z, et_X12_works M40 (M40.1 125 (((5 : Int32) * (M.1 119 ((14 : Int32)).toNatClampNeg))).toNatClampNeg) (0 : Int32) (M.1 119 ((16 : Int32)).toNatClampNeg) = z := ⟨_, rfl⟩
            have fM43 : M43.2 c = M40.2 c := by rw [← eM43]; exact (ef2_X12_works _ _ _ _ (by omega))
            rw [show et_X12_worksOn M = M43 from by simp only [et_X12_worksOn, if_neg c1, if_pos c8, er33, if_neg c34, if_pos c36, er38, eM40, if_neg c42, eM43]]
            exact (fM43).trans (fM40)
        · skip
          obtain ⟨M37, eM37⟩ : ∃ z, et_X12_stands M (2 : Int32) = z := ⟨_, rfl⟩
          have fM37 : M37.2 c = M.2 c := by rw [← eM37]; exact (ef2_X12_stands _ _ (by omega))
          rw [show et_X12_worksOn M = M37 from by simp only [et_X12_worksOn, if_neg c1, if_pos c8, er33, if_neg c34, if_neg c36, eM37]]
          exact fM37
    · skip
      by_cases c9 : (M.1 122 ((M.1 119 ((14 : Int32)).toNatClampNeg)).toNatClampNeg) = (48 : Int32)
      · skip
        obtain ⟨M32, eM32⟩ : ∃ z, et_X12_gives M (0 : Int32) (M.1 123 ((M.1 119 ((14 : Int32)).toNatClampNeg)).toNatClampNeg) = z := ⟨_, rfl⟩
        have fM32 : M32.2 c = M.2 c := by rw [← eM32]; exact (ef2_X12_gives _ _ _ (by omega))
        rw [show et_X12_worksOn M = M32 from by simp only [et_X12_worksOn, if_neg c1, if_neg c8, if_pos c9, eM32]]
        exact fM32
      · skip
        by_cases c10 : (M.1 122 ((M.1 119 ((14 : Int32)).toNatClampNeg)).toNatClampNeg) = (91 : Int32)
        · skip
          by_cases c25 : (M.1 119 ((15 : Int32)).toNatClampNeg) = ((M.1 124 ((M.1 119 ((14 : Int32)).toNatClampNeg)).toNatClampNeg) - (1 : Int32))
          · skip
            obtain ⟨M26, eM26⟩ : ∃ z, et_X12_works M (M.1 125 ((((5 : Int32) * (M.1 119 ((14 : Int32)).toNatClampNeg)) + (M.1 119 ((15 : Int32)).toNatClampNeg))).toNatClampNeg) (0 : Int32) (M.1 119 ((16 : Int32)).toNatClampNeg) = z := ⟨_, rfl⟩
            have fM26 : M26.2 c = M.2 c := by rw [← eM26]; exact (ef2_X12_works _ _ _ _ (by omega))
            rw [show et_X12_worksOn M = M26 from by simp only [et_X12_worksOn, if_neg c1, if_neg c8, if_neg c9, if_pos c10, if_pos c25, eM26]]
            exact fM26
          · skip
            obtain ⟨r27, M28, eM28⟩ : ∃ y z, et_X12_comes M (M.1 119 ((17 : Int32)).toNatClampNeg) (4 : Int32) (M.1 119 ((14 : Int32)).toNatClampNeg) (M.1 119 ((16 : Int32)).toNatClampNeg) (0 : Int32) (0 : Int32) ((M.1 119 ((15 : Int32)).toNatClampNeg) + (1 : Int32)) = (y, z) := ⟨_, _, rfl⟩
            have fM28 : M28.2 c = M.2 c := by
              have q : (et_X12_comes M (M.1 119 ((17 : Int32)).toNatClampNeg) (4 : Int32) (M.1 119 ((14 : Int32)).toNatClampNeg) (M.1 119 ((16 : Int32)).toNatClampNeg) (0 : Int32) (0 : Int32) ((M.1 119 ((15 : Int32)).toNatClampNeg) + (1 : Int32))).2.2 c = M.2 c := (ef2_X12_comes _ _ _ _ _ _ _ _ (by omega))
              rw [eM28] at q
              exact q
            by_cases c30 : r27 = 0
            · skip
              rw [show et_X12_worksOn M = M28 from by simp only [et_X12_worksOn, if_neg c1, if_neg c8, if_neg c9, if_pos c10, if_neg c25, eM28, if_pos c30]]
              exact fM28
            · skip
              obtain ⟨M31, eM31⟩ : ∃ z, et_X12_works M28 (M28.1 125 ((((5 : Int32) * (M.1 119 ((14 : Int32)).toNatClampNeg)) + (M.1 119 ((15 : Int32)).toNatClampNeg))).toNatClampNeg) (0 : Int32) (M.1 119 ((16 : Int32)).toNatClampNeg) = z := ⟨_, rfl⟩
              have fM31 : M31.2 c = M28.2 c := by rw [← eM31]; exact (ef2_X12_works _ _ _ _ (by omega))
              rw [show et_X12_worksOn M = M31 from by simp only [et_X12_worksOn, if_neg c1, if_neg c8, if_neg c9, if_pos c10, if_neg c25, eM28, if_neg c30, eM31]]
              exact (fM31).trans (fM28)
        · skip
          by_cases c11 : (M.1 122 ((M.1 119 ((14 : Int32)).toNatClampNeg)).toNatClampNeg) = (64 : Int32)
          · skip
            obtain ⟨M18, eM18⟩ : ∃ z, em_pI M 119 (((5240 : Int32) + ((2 : Int32) * (M.1 119 ((24 : Int32)).toNatClampNeg)))).toNatClampNeg (M.1 119 ((17 : Int32)).toNatClampNeg) = z := ⟨_, rfl⟩
            have fM18 : M18.2 c = M.2 c := by rw [← eM18]; exact rfl
            obtain ⟨M19, eM19⟩ : ∃ z, em_pI M18 119 ((((5240 : Int32) + ((2 : Int32) * (M.1 119 ((24 : Int32)).toNatClampNeg))) + (1 : Int32))).toNatClampNeg (M18.1 119 ((18 : Int32)).toNatClampNeg) = z := ⟨_, rfl⟩
            have fM19 : M19.2 c = M18.2 c := by rw [← eM19]; exact rfl
            obtain ⟨M20, eM20⟩ : ∃ z, em_pI M19 119 ((24 : Int32)).toNatClampNeg ((M.1 119 ((24 : Int32)).toNatClampNeg) + (1 : Int32)) = z := ⟨_, rfl⟩
            have fM20 : M20.2 c = M19.2 c := by rw [← eM20]; exact rfl
            obtain ⟨r21, M22, eM22⟩ : ∃ y z, et_X12_bound M20 (M.1 119 ((16 : Int32)).toNatClampNeg) (M.1 123 ((M.1 119 ((14 : Int32)).toNatClampNeg)).toNatClampNeg) (1 : Int32) (M.1 119 ((24 : Int32)).toNatClampNeg) = (y, z) := ⟨_, _, rfl⟩
            have fM22 : M22.2 c = M20.2 c := by
              have q : (et_X12_bound M20 (M.1 119 ((16 : Int32)).toNatClampNeg) (M.1 123 ((M.1 119 ((14 : Int32)).toNatClampNeg)).toNatClampNeg) (1 : Int32) (M.1 119 ((24 : Int32)).toNatClampNeg)).2.2 c = M20.2 c := (ef2_X12_bound _ _ _ _ _ (by omega))
              rw [eM22] at q
              exact q
            obtain ⟨M24, eM24⟩ : ∃ z, et_X12_works M22 (M20.1 125 (((5 : Int32) * (M.1 119 ((14 : Int32)).toNatClampNeg))).toNatClampNeg) (0 : Int32) r21 = z := ⟨_, rfl⟩
            have fM24 : M24.2 c = M22.2 c := by rw [← eM24]; exact (ef2_X12_works _ _ _ _ (by omega))
            rw [show et_X12_worksOn M = M24 from by simp only [et_X12_worksOn, if_neg c1, if_neg c8, if_neg c9, if_neg c10, if_pos c11, eM18, eM19, eM20, eM22, eM24]]
            exact (fM24).trans ((fM22).trans ((fM20).trans ((fM19).trans (fM18))))
          · skip
            obtain ⟨r12, er12⟩ : ∃ z, et_X12_frameOf M (M.1 122 ((M.1 119 ((14 : Int32)).toNatClampNeg)).toNatClampNeg) = z := ⟨_, rfl⟩
            obtain ⟨r13, M14, eM14⟩ : ∃ y z, et_X12_comes M (M.1 119 ((17 : Int32)).toNatClampNeg) r12 (M.1 119 ((14 : Int32)).toNatClampNeg) (M.1 119 ((16 : Int32)).toNatClampNeg) (0 : Int32) (0 : Int32) (0 : Int32) = (y, z) := ⟨_, _, rfl⟩
            have fM14 : M14.2 c = M.2 c := by
              have q : (et_X12_comes M (M.1 119 ((17 : Int32)).toNatClampNeg) r12 (M.1 119 ((14 : Int32)).toNatClampNeg) (M.1 119 ((16 : Int32)).toNatClampNeg) (0 : Int32) (0 : Int32) (0 : Int32)).2.2 c = M.2 c := (ef2_X12_comes _ _ _ _ _ _ _ _ (by omega))
              rw [eM14] at q
              exact q
            by_cases c16 : r13 = 0
            · skip
              rw [show et_X12_worksOn M = M14 from by simp only [et_X12_worksOn, if_neg c1, if_neg c8, if_neg c9, if_neg c10, if_neg c11, er12, eM14, if_pos c16]]
              exact fM14
            · skip
              obtain ⟨M17, eM17⟩ : ∃ z, et_X12_works M14 (M14.1 125 (((5 : Int32) * (M.1 119 ((14 : Int32)).toNatClampNeg))).toNatClampNeg) (0 : Int32) (M.1 119 ((16 : Int32)).toNatClampNeg) = z := ⟨_, rfl⟩
              have fM17 : M17.2 c = M14.2 c := by rw [← eM17]; exact (ef2_X12_works _ _ _ _ (by omega))
              rw [show et_X12_worksOn M = M17 from by simp only [et_X12_worksOn, if_neg c1, if_neg c8, if_neg c9, if_neg c10, if_neg c11, er12, eM14, if_neg c16, eM17]]
              exact (fM17).trans (fM14)
theorem ef1_X12_calls  (M : em_M) (function : Int32) (isEscape : Int32) (v : Int32) {c : Nat} (h : c < 118 ∨ 131 < c) : (et_X12_calls M function isEscape v).1 c = M.1 c := by
  by_cases c1 : 0 ≤ (M.1 119 (((4 : Int32) + function)).toNatClampNeg)
  · skip
    obtain ⟨r2, M3, eM3⟩ : ∃ y z, et_X12_bound M (-1 : Int32) (0 : Int32) isEscape v = (y, z) := ⟨_, _, rfl⟩
    have fM3 : M3.1 c = M.1 c := by
      have q : (et_X12_bound M (-1 : Int32) (0 : Int32) isEscape v).2.1 c = M.1 c := (ef1_X12_bound _ _ _ _ _ (by omega))
      rw [eM3] at q
      exact q
    obtain ⟨M5, eM5⟩ : ∃ z, et_X12_works M3 ((101 : Int32) * (M.1 119 (((4 : Int32) + function)).toNatClampNeg)) (0 : Int32) r2 = z := ⟨_, rfl⟩
    have fM5 : M5.1 c = M3.1 c := by rw [← eM5]; exact (ef1_X12_works _ _ _ _ (by omega))
    rw [show et_X12_calls M function isEscape v = M5 from by simp only [et_X12_calls, if_pos c1, eM3, eM5]]
    exact (fM5).trans (fM3)
  · skip
    obtain ⟨M6, eM6⟩ : ∃ z, et_X12_stands M (3 : Int32) = z := ⟨_, rfl⟩
    have fM6 : M6.1 c = M.1 c := by rw [← eM6]; exact (ef1_X12_stands _ _ (by omega))
    rw [show et_X12_calls M function isEscape v = M6 from by simp only [et_X12_calls, if_neg c1, eM6]]
    exact fM6
theorem ef2_X12_calls  (M : em_M) (function : Int32) (isEscape : Int32) (v : Int32) {c : Nat} (h : c < 118 ∨ 131 < c) : (et_X12_calls M function isEscape v).2 c = M.2 c := by
  by_cases c1 : 0 ≤ (M.1 119 (((4 : Int32) + function)).toNatClampNeg)
  · skip
    obtain ⟨r2, M3, eM3⟩ : ∃ y z, et_X12_bound M (-1 : Int32) (0 : Int32) isEscape v = (y, z) := ⟨_, _, rfl⟩
    have fM3 : M3.2 c = M.2 c := by
      have q : (et_X12_bound M (-1 : Int32) (0 : Int32) isEscape v).2.2 c = M.2 c := (ef2_X12_bound _ _ _ _ _ (by omega))
      rw [eM3] at q
      exact q
    obtain ⟨M5, eM5⟩ : ∃ z, et_X12_works M3 ((101 : Int32) * (M.1 119 (((4 : Int32) + function)).toNatClampNeg)) (0 : Int32) r2 = z := ⟨_, rfl⟩
    have fM5 : M5.2 c = M3.2 c := by rw [← eM5]; exact (ef2_X12_works _ _ _ _ (by omega))
    rw [show et_X12_calls M function isEscape v = M5 from by simp only [et_X12_calls, if_pos c1, eM3, eM5]]
    exact (fM5).trans (fM3)
  · skip
    obtain ⟨M6, eM6⟩ : ∃ z, et_X12_stands M (3 : Int32) = z := ⟨_, rfl⟩
    have fM6 : M6.2 c = M.2 c := by rw [← eM6]; exact (ef2_X12_stands _ _ (by omega))
    rw [show et_X12_calls M function isEscape v = M6 from by simp only [et_X12_calls, if_neg c1, eM6]]
    exact fM6
theorem ef1_X12_goes  (M : em_M) (escape : Int32) (isEscape : Int32) (v : Int32) {c : Nat} (h : c < 118 ∨ 131 < c) : (et_X12_goes M escape isEscape v).1 c = M.1 c := by
  by_cases c1 : (M.1 119 ((18 : Int32)).toNatClampNeg) = (M.1 119 ((((5240 : Int32) + ((2 : Int32) * escape)) + (1 : Int32))).toNatClampNeg)
  · skip
    obtain ⟨M15, eM15⟩ : ∃ z, em_pI M 119 ((17 : Int32)).toNatClampNeg (M.1 119 (((5240 : Int32) + ((2 : Int32) * escape))).toNatClampNeg) = z := ⟨_, rfl⟩
    have fM15 : M15.1 c = M.1 c := by rw [← eM15]; exact ef_pI' _ _ _ _ (by omega)
    obtain ⟨M16, eM16⟩ : ∃ z, et_X12_gives M15 isEscape v = z := ⟨_, rfl⟩
    have fM16 : M16.1 c = M15.1 c := by rw [← eM16]; exact (ef1_X12_gives _ _ _ (by omega))
    rw [show et_X12_goes M escape isEscape v = M16 from by simp only [et_X12_goes, if_pos c1, eM15, eM16]]
    exact (fM16).trans (fM15)
  · skip
    obtain ⟨r2, er2⟩ : ∃ z, et_X12_goesOnFrom M (M.1 119 ((((5240 : Int32) + ((2 : Int32) * escape)) + (1 : Int32))).toNatClampNeg) (M.1 119 ((18 : Int32)).toNatClampNeg) = z := ⟨_, rfl⟩
    by_cases c3 : 0 ≤ r2
    · skip
      obtain ⟨r4, M5, eM5⟩ : ∃ y z, et_X12_comes M (-1 : Int32) (13 : Int32) r2 (-1 : Int32) isEscape v escape = (y, z) := ⟨_, _, rfl⟩
      have fM5 : M5.1 c = M.1 c := by
        have q : (et_X12_comes M (-1 : Int32) (13 : Int32) r2 (-1 : Int32) isEscape v escape).2.1 c = M.1 c := (ef1_X12_comes _ _ _ _ _ _ _ _ (by omega))
        rw [eM5] at q
        exact q
      by_cases c7 : r4 = 0
      · skip
        rw [show et_X12_goes M escape isEscape v = M5 from by simp only [et_X12_goes, if_neg c1, er2, if_pos c3, eM5, if_pos c7]]
        exact fM5
      · skip
        obtain ⟨M8, eM8⟩ : ∃ z, et_X12_works M5 (M5.1 125 ((((5 : Int32) * (M.1 119 (((3960 : Int32) + ((4 : Int32) * r2))).toNatClampNeg)) + (0 : Int32))).toNatClampNeg) (0 : Int32) (M5.1 119 ((((3960 : Int32) + ((4 : Int32) * r2)) + (1 : Int32))).toNatClampNeg) = z := ⟨_, rfl⟩
        have fM8 : M8.1 c = M5.1 c := by rw [← eM8]; exact (ef1_X12_works _ _ _ _ (by omega))
        rw [show et_X12_goes M escape isEscape v = M8 from by simp only [et_X12_goes, if_neg c1, er2, if_pos c3, eM5, if_neg c7, eM8]]
        exact (fM8).trans (fM5)
    · skip
      obtain ⟨M9, eM9⟩ : ∃ z, em_pI M 119 ((18 : Int32)).toNatClampNeg (M.1 119 ((((3960 : Int32) + ((4 : Int32) * (M.1 119 ((18 : Int32)).toNatClampNeg))) + (2 : Int32))).toNatClampNeg) = z := ⟨_, rfl⟩
      have fM9 : M9.1 c = M.1 c := by rw [← eM9]; exact ef_pI' _ _ _ _ (by omega)
      obtain ⟨r10, M11, eM11⟩ : ∃ y z, et_X12_comes M9 (-1 : Int32) (12 : Int32) (M.1 119 ((18 : Int32)).toNatClampNeg) (-1 : Int32) isEscape v escape = (y, z) := ⟨_, _, rfl⟩
      have fM11 : M11.1 c = M9.1 c := by
        have q : (et_X12_comes M9 (-1 : Int32) (12 : Int32) (M.1 119 ((18 : Int32)).toNatClampNeg) (-1 : Int32) isEscape v escape).2.1 c = M9.1 c := (ef1_X12_comes _ _ _ _ _ _ _ _ (by omega))
        rw [eM11] at q
        exact q
      by_cases c13 : r10 = 0
      · skip
        rw [show et_X12_goes M escape isEscape v = M11 from by simp only [et_X12_goes, if_neg c1, er2, if_neg c3, eM9, eM11, if_pos c13]]
        exact (fM11).trans (fM9)
      · skip
        obtain ⟨M14, eM14⟩ : ∃ z, et_X12_works M11 (M11.1 125 ((((5 : Int32) * (M9.1 119 (((3960 : Int32) + ((4 : Int32) * (M.1 119 ((18 : Int32)).toNatClampNeg)))).toNatClampNeg)) + (2 : Int32))).toNatClampNeg) (0 : Int32) (M11.1 119 ((((3960 : Int32) + ((4 : Int32) * (M.1 119 ((18 : Int32)).toNatClampNeg))) + (1 : Int32))).toNatClampNeg) = z := ⟨_, rfl⟩
        have fM14 : M14.1 c = M11.1 c := by rw [← eM14]; exact (ef1_X12_works _ _ _ _ (by omega))
        rw [show et_X12_goes M escape isEscape v = M14 from by simp only [et_X12_goes, if_neg c1, er2, if_neg c3, eM9, eM11, if_neg c13, eM14]]
        exact (fM14).trans ((fM11).trans (fM9))
theorem ef2_X12_goes  (M : em_M) (escape : Int32) (isEscape : Int32) (v : Int32) {c : Nat} (h : c < 118 ∨ 131 < c) : (et_X12_goes M escape isEscape v).2 c = M.2 c := by
  by_cases c1 : (M.1 119 ((18 : Int32)).toNatClampNeg) = (M.1 119 ((((5240 : Int32) + ((2 : Int32) * escape)) + (1 : Int32))).toNatClampNeg)
  · skip
    obtain ⟨M15, eM15⟩ : ∃ z, em_pI M 119 ((17 : Int32)).toNatClampNeg (M.1 119 (((5240 : Int32) + ((2 : Int32) * escape))).toNatClampNeg) = z := ⟨_, rfl⟩
    have fM15 : M15.2 c = M.2 c := by rw [← eM15]; exact rfl
    obtain ⟨M16, eM16⟩ : ∃ z, et_X12_gives M15 isEscape v = z := ⟨_, rfl⟩
    have fM16 : M16.2 c = M15.2 c := by rw [← eM16]; exact (ef2_X12_gives _ _ _ (by omega))
    rw [show et_X12_goes M escape isEscape v = M16 from by simp only [et_X12_goes, if_pos c1, eM15, eM16]]
    exact (fM16).trans (fM15)
  · skip
    obtain ⟨r2, er2⟩ : ∃ z, et_X12_goesOnFrom M (M.1 119 ((((5240 : Int32) + ((2 : Int32) * escape)) + (1 : Int32))).toNatClampNeg) (M.1 119 ((18 : Int32)).toNatClampNeg) = z := ⟨_, rfl⟩
    by_cases c3 : 0 ≤ r2
    · skip
      obtain ⟨r4, M5, eM5⟩ : ∃ y z, et_X12_comes M (-1 : Int32) (13 : Int32) r2 (-1 : Int32) isEscape v escape = (y, z) := ⟨_, _, rfl⟩
      have fM5 : M5.2 c = M.2 c := by
        have q : (et_X12_comes M (-1 : Int32) (13 : Int32) r2 (-1 : Int32) isEscape v escape).2.2 c = M.2 c := (ef2_X12_comes _ _ _ _ _ _ _ _ (by omega))
        rw [eM5] at q
        exact q
      by_cases c7 : r4 = 0
      · skip
        rw [show et_X12_goes M escape isEscape v = M5 from by simp only [et_X12_goes, if_neg c1, er2, if_pos c3, eM5, if_pos c7]]
        exact fM5
      · skip
        obtain ⟨M8, eM8⟩ : ∃ z, et_X12_works M5 (M5.1 125 ((((5 : Int32) * (M.1 119 (((3960 : Int32) + ((4 : Int32) * r2))).toNatClampNeg)) + (0 : Int32))).toNatClampNeg) (0 : Int32) (M5.1 119 ((((3960 : Int32) + ((4 : Int32) * r2)) + (1 : Int32))).toNatClampNeg) = z := ⟨_, rfl⟩
        have fM8 : M8.2 c = M5.2 c := by rw [← eM8]; exact (ef2_X12_works _ _ _ _ (by omega))
        rw [show et_X12_goes M escape isEscape v = M8 from by simp only [et_X12_goes, if_neg c1, er2, if_pos c3, eM5, if_neg c7, eM8]]
        exact (fM8).trans (fM5)
    · skip
      obtain ⟨M9, eM9⟩ : ∃ z, em_pI M 119 ((18 : Int32)).toNatClampNeg (M.1 119 ((((3960 : Int32) + ((4 : Int32) * (M.1 119 ((18 : Int32)).toNatClampNeg))) + (2 : Int32))).toNatClampNeg) = z := ⟨_, rfl⟩
      have fM9 : M9.2 c = M.2 c := by rw [← eM9]; exact rfl
      obtain ⟨r10, M11, eM11⟩ : ∃ y z, et_X12_comes M9 (-1 : Int32) (12 : Int32) (M.1 119 ((18 : Int32)).toNatClampNeg) (-1 : Int32) isEscape v escape = (y, z) := ⟨_, _, rfl⟩
      have fM11 : M11.2 c = M9.2 c := by
        have q : (et_X12_comes M9 (-1 : Int32) (12 : Int32) (M.1 119 ((18 : Int32)).toNatClampNeg) (-1 : Int32) isEscape v escape).2.2 c = M9.2 c := (ef2_X12_comes _ _ _ _ _ _ _ _ (by omega))
        rw [eM11] at q
        exact q
      by_cases c13 : r10 = 0
      · skip
        rw [show et_X12_goes M escape isEscape v = M11 from by simp only [et_X12_goes, if_neg c1, er2, if_neg c3, eM9, eM11, if_pos c13]]
        exact (fM11).trans (fM9)
      · skip
        obtain ⟨M14, eM14⟩ : ∃ z, et_X12_works M11 (M11.1 125 ((((5 : Int32) * (M9.1 119 (((3960 : Int32) + ((4 : Int32) * (M.1 119 ((18 : Int32)).toNatClampNeg)))).toNatClampNeg)) + (2 : Int32))).toNatClampNeg) (0 : Int32) (M11.1 119 ((((3960 : Int32) + ((4 : Int32) * (M.1 119 ((18 : Int32)).toNatClampNeg))) + (1 : Int32))).toNatClampNeg) = z := ⟨_, rfl⟩
        have fM14 : M14.2 c = M11.2 c := by rw [← eM14]; exact (ef2_X12_works _ _ _ _ (by omega))
        rw [show et_X12_goes M escape isEscape v = M14 from by simp only [et_X12_goes, if_neg c1, er2, if_neg c3, eM9, eM11, if_neg c13, eM14]]
        exact (fM14).trans ((fM11).trans (fM9))
theorem ef1_X12_winds  (M : em_M) (k : Int32) (what : Int32) (e : Int32) (scope : Int32) (isEscape : Int32) (v : Int32) {c : Nat} (h : c < 118 ∨ 131 < c) : (et_X12_winds M k what e scope isEscape v).1 c = M.1 c := by
  by_cases c1 : what = (9 : Int32)
  · skip
    obtain ⟨r15, M16, eM16⟩ : ∃ y z, et_X12_comes M (M.1 119 ((17 : Int32)).toNatClampNeg) (10 : Int32) e scope (0 : Int32) (0 : Int32) (0 : Int32) = (y, z) := ⟨_, _, rfl⟩
    have fM16 : M16.1 c = M.1 c := by
      have q : (et_X12_comes M (M.1 119 ((17 : Int32)).toNatClampNeg) (10 : Int32) e scope (0 : Int32) (0 : Int32) (0 : Int32)).2.1 c = M.1 c := (ef1_X12_comes _ _ _ _ _ _ _ _ (by omega))
      rw [eM16] at q
      exact q
    by_cases c18 : r15 = 0
    · skip
      rw [show et_X12_winds M k what e scope isEscape v = M16 from by simp only [et_X12_winds, if_pos c1, eM16, if_pos c18]]
      exact fM16
    · skip
      obtain ⟨M19, eM19⟩ : ∃ z, em_pI M16 119 (((3960 : Int32) + ((4 : Int32) * (M.1 119 ((23 : Int32)).toNatClampNeg)))).toNatClampNeg e = z := ⟨_, rfl⟩
      have fM19 : M19.1 c = M16.1 c := by rw [← eM19]; exact ef_pI' _ _ _ _ (by omega)
      obtain ⟨M20, eM20⟩ : ∃ z, em_pI M19 119 ((((3960 : Int32) + ((4 : Int32) * (M.1 119 ((23 : Int32)).toNatClampNeg))) + (1 : Int32))).toNatClampNeg scope = z := ⟨_, rfl⟩
      have fM20 : M20.1 c = M19.1 c := by rw [← eM20]; exact ef_pI' _ _ _ _ (by omega)
      obtain ⟨M21, eM21⟩ : ∃ z, em_pI M20 119 ((((3960 : Int32) + ((4 : Int32) * (M.1 119 ((23 : Int32)).toNatClampNeg))) + (2 : Int32))).toNatClampNeg (M.1 119 ((18 : Int32)).toNatClampNeg) = z := ⟨_, rfl⟩
      have fM21 : M21.1 c = M20.1 c := by rw [← eM21]; exact ef_pI' _ _ _ _ (by omega)
      obtain ⟨M22, eM22⟩ : ∃ z, em_pI M21 119 ((23 : Int32)).toNatClampNeg ((M.1 119 ((23 : Int32)).toNatClampNeg) + (1 : Int32)) = z := ⟨_, rfl⟩
      have fM22 : M22.1 c = M21.1 c := by rw [← eM22]; exact ef_pI' _ _ _ _ (by omega)
      obtain ⟨M23, eM23⟩ : ∃ z, em_pI M22 119 ((18 : Int32)).toNatClampNeg (M.1 119 ((23 : Int32)).toNatClampNeg) = z := ⟨_, rfl⟩
      have fM23 : M23.1 c = M22.1 c := by rw [← eM23]; exact ef_pI' _ _ _ _ (by omega)
      obtain ⟨M24, eM24⟩ : ∃ z, et_X12_works M23 (M23.1 125 ((((5 : Int32) * e) + (1 : Int32))).toNatClampNeg) (0 : Int32) scope = z := ⟨_, rfl⟩
      have fM24 : M24.1 c = M23.1 c := by rw [← eM24]; exact (ef1_X12_works _ _ _ _ (by omega))
      rw [show et_X12_winds M k what e scope isEscape v = M24 from by simp only [et_X12_winds, if_pos c1, eM16, if_neg c18, eM19, eM20, eM21, eM22, eM23, eM24]]
      exact (fM24).trans ((fM23).trans ((fM22).trans ((fM21).trans ((fM20).trans ((fM19).trans (fM16))))))
  · skip
    by_cases c2 : what = (10 : Int32)
    · skip
      obtain ⟨r9, M10, eM10⟩ : ∃ y z, et_X12_comes M (M.1 119 ((17 : Int32)).toNatClampNeg) (11 : Int32) e scope isEscape v (0 : Int32) = (y, z) := ⟨_, _, rfl⟩
      have fM10 : M10.1 c = M.1 c := by
        have q : (et_X12_comes M (M.1 119 ((17 : Int32)).toNatClampNeg) (11 : Int32) e scope isEscape v (0 : Int32)).2.1 c = M.1 c := (ef1_X12_comes _ _ _ _ _ _ _ _ (by omega))
        rw [eM10] at q
        exact q
      by_cases c12 : r9 = 0
      · skip
        rw [show et_X12_winds M k what e scope isEscape v = M10 from by simp only [et_X12_winds, if_neg c1, if_pos c2, eM10, if_pos c12]]
        exact fM10
      · skip
        obtain ⟨M13, eM13⟩ : ∃ z, em_pI M10 119 ((18 : Int32)).toNatClampNeg (M10.1 119 ((((3960 : Int32) + ((4 : Int32) * (M.1 119 ((18 : Int32)).toNatClampNeg))) + (2 : Int32))).toNatClampNeg) = z := ⟨_, rfl⟩
        have fM13 : M13.1 c = M10.1 c := by rw [← eM13]; exact ef_pI' _ _ _ _ (by omega)
        obtain ⟨M14, eM14⟩ : ∃ z, et_X12_works M13 (M13.1 125 ((((5 : Int32) * e) + (2 : Int32))).toNatClampNeg) (0 : Int32) scope = z := ⟨_, rfl⟩
        have fM14 : M14.1 c = M13.1 c := by rw [← eM14]; exact (ef1_X12_works _ _ _ _ (by omega))
        rw [show et_X12_winds M k what e scope isEscape v = M14 from by simp only [et_X12_winds, if_neg c1, if_pos c2, eM10, if_neg c12, eM13, eM14]]
        exact (fM14).trans ((fM13).trans (fM10))
    · skip
      by_cases c3 : what = (11 : Int32)
      · skip
        obtain ⟨M8, eM8⟩ : ∃ z, et_X12_gives M (M.1 119 ((k + (3 : Int32))).toNatClampNeg) (M.1 119 ((k + (4 : Int32))).toNatClampNeg) = z := ⟨_, rfl⟩
        have fM8 : M8.1 c = M.1 c := by rw [← eM8]; exact (ef1_X12_gives _ _ _ (by omega))
        rw [show et_X12_winds M k what e scope isEscape v = M8 from by simp only [et_X12_winds, if_neg c1, if_neg c2, if_pos c3, eM8]]
        exact fM8
      · skip
        by_cases c4 : what = (13 : Int32)
        · skip
          obtain ⟨M6, eM6⟩ : ∃ z, em_pI M 119 ((18 : Int32)).toNatClampNeg e = z := ⟨_, rfl⟩
          have fM6 : M6.1 c = M.1 c := by rw [← eM6]; exact ef_pI' _ _ _ _ (by omega)
          obtain ⟨M7, eM7⟩ : ∃ z, et_X12_goes M6 (M6.1 119 ((k + (7 : Int32))).toNatClampNeg) (M6.1 119 ((k + (3 : Int32))).toNatClampNeg) (M6.1 119 ((k + (4 : Int32))).toNatClampNeg) = z := ⟨_, rfl⟩
          have fM7 : M7.1 c = M6.1 c := by rw [← eM7]; exact (ef1_X12_goes _ _ _ _ (by omega))
          rw [show et_X12_winds M k what e scope isEscape v = M7 from by simp only [et_X12_winds, if_neg c1, if_neg c2, if_neg c3, if_pos c4, eM6, eM7]]
          exact (fM7).trans (fM6)
        · skip
          obtain ⟨M5, eM5⟩ : ∃ z, et_X12_goes M (M.1 119 ((k + (7 : Int32))).toNatClampNeg) (M.1 119 ((k + (3 : Int32))).toNatClampNeg) (M.1 119 ((k + (4 : Int32))).toNatClampNeg) = z := ⟨_, rfl⟩
          have fM5 : M5.1 c = M.1 c := by rw [← eM5]; exact (ef1_X12_goes _ _ _ _ (by omega))
          rw [show et_X12_winds M k what e scope isEscape v = M5 from by simp only [et_X12_winds, if_neg c1, if_neg c2, if_neg c3, if_neg c4, eM5]]
          exact fM5
theorem ef2_X12_winds  (M : em_M) (k : Int32) (what : Int32) (e : Int32) (scope : Int32) (isEscape : Int32) (v : Int32) {c : Nat} (h : c < 118 ∨ 131 < c) : (et_X12_winds M k what e scope isEscape v).2 c = M.2 c := by
  by_cases c1 : what = (9 : Int32)
  · skip
    obtain ⟨r15, M16, eM16⟩ : ∃ y z, et_X12_comes M (M.1 119 ((17 : Int32)).toNatClampNeg) (10 : Int32) e scope (0 : Int32) (0 : Int32) (0 : Int32) = (y, z) := ⟨_, _, rfl⟩
    have fM16 : M16.2 c = M.2 c := by
      have q : (et_X12_comes M (M.1 119 ((17 : Int32)).toNatClampNeg) (10 : Int32) e scope (0 : Int32) (0 : Int32) (0 : Int32)).2.2 c = M.2 c := (ef2_X12_comes _ _ _ _ _ _ _ _ (by omega))
      rw [eM16] at q
      exact q
    by_cases c18 : r15 = 0
    · skip
      rw [show et_X12_winds M k what e scope isEscape v = M16 from by simp only [et_X12_winds, if_pos c1, eM16, if_pos c18]]
      exact fM16
    · skip
      obtain ⟨M19, eM19⟩ : ∃ z, em_pI M16 119 (((3960 : Int32) + ((4 : Int32) * (M.1 119 ((23 : Int32)).toNatClampNeg)))).toNatClampNeg e = z := ⟨_, rfl⟩
      have fM19 : M19.2 c = M16.2 c := by rw [← eM19]; exact rfl
      obtain ⟨M20, eM20⟩ : ∃ z, em_pI M19 119 ((((3960 : Int32) + ((4 : Int32) * (M.1 119 ((23 : Int32)).toNatClampNeg))) + (1 : Int32))).toNatClampNeg scope = z := ⟨_, rfl⟩
      have fM20 : M20.2 c = M19.2 c := by rw [← eM20]; exact rfl
      obtain ⟨M21, eM21⟩ : ∃ z, em_pI M20 119 ((((3960 : Int32) + ((4 : Int32) * (M.1 119 ((23 : Int32)).toNatClampNeg))) + (2 : Int32))).toNatClampNeg (M.1 119 ((18 : Int32)).toNatClampNeg) = z := ⟨_, rfl⟩
      have fM21 : M21.2 c = M20.2 c := by rw [← eM21]; exact rfl
      obtain ⟨M22, eM22⟩ : ∃ z, em_pI M21 119 ((23 : Int32)).toNatClampNeg ((M.1 119 ((23 : Int32)).toNatClampNeg) + (1 : Int32)) = z := ⟨_, rfl⟩
      have fM22 : M22.2 c = M21.2 c := by rw [← eM22]; exact rfl
      obtain ⟨M23, eM23⟩ : ∃ z, em_pI M22 119 ((18 : Int32)).toNatClampNeg (M.1 119 ((23 : Int32)).toNatClampNeg) = z := ⟨_, rfl⟩
      have fM23 : M23.2 c = M22.2 c := by rw [← eM23]; exact rfl
      obtain ⟨M24, eM24⟩ : ∃ z, et_X12_works M23 (M23.1 125 ((((5 : Int32) * e) + (1 : Int32))).toNatClampNeg) (0 : Int32) scope = z := ⟨_, rfl⟩
      have fM24 : M24.2 c = M23.2 c := by rw [← eM24]; exact (ef2_X12_works _ _ _ _ (by omega))
      rw [show et_X12_winds M k what e scope isEscape v = M24 from by simp only [et_X12_winds, if_pos c1, eM16, if_neg c18, eM19, eM20, eM21, eM22, eM23, eM24]]
      exact (fM24).trans ((fM23).trans ((fM22).trans ((fM21).trans ((fM20).trans ((fM19).trans (fM16))))))
  · skip
    by_cases c2 : what = (10 : Int32)
    · skip
      obtain ⟨r9, M10, eM10⟩ : ∃ y z, et_X12_comes M (M.1 119 ((17 : Int32)).toNatClampNeg) (11 : Int32) e scope isEscape v (0 : Int32) = (y, z) := ⟨_, _, rfl⟩
      have fM10 : M10.2 c = M.2 c := by
        have q : (et_X12_comes M (M.1 119 ((17 : Int32)).toNatClampNeg) (11 : Int32) e scope isEscape v (0 : Int32)).2.2 c = M.2 c := (ef2_X12_comes _ _ _ _ _ _ _ _ (by omega))
        rw [eM10] at q
        exact q
      by_cases c12 : r9 = 0
      · skip
        rw [show et_X12_winds M k what e scope isEscape v = M10 from by simp only [et_X12_winds, if_neg c1, if_pos c2, eM10, if_pos c12]]
        exact fM10
      · skip
        obtain ⟨M13, eM13⟩ : ∃ z, em_pI M10 119 ((18 : Int32)).toNatClampNeg (M10.1 119 ((((3960 : Int32) + ((4 : Int32) * (M.1 119 ((18 : Int32)).toNatClampNeg))) + (2 : Int32))).toNatClampNeg) = z := ⟨_, rfl⟩
        have fM13 : M13.2 c = M10.2 c := by rw [← eM13]; exact rfl
        obtain ⟨M14, eM14⟩ : ∃ z, et_X12_works M13 (M13.1 125 ((((5 : Int32) * e) + (2 : Int32))).toNatClampNeg) (0 : Int32) scope = z := ⟨_, rfl⟩
        have fM14 : M14.2 c = M13.2 c := by rw [← eM14]; exact (ef2_X12_works _ _ _ _ (by omega))
        rw [show et_X12_winds M k what e scope isEscape v = M14 from by simp only [et_X12_winds, if_neg c1, if_pos c2, eM10, if_neg c12, eM13, eM14]]
        exact (fM14).trans ((fM13).trans (fM10))
    · skip
      by_cases c3 : what = (11 : Int32)
      · skip
        obtain ⟨M8, eM8⟩ : ∃ z, et_X12_gives M (M.1 119 ((k + (3 : Int32))).toNatClampNeg) (M.1 119 ((k + (4 : Int32))).toNatClampNeg) = z := ⟨_, rfl⟩
        have fM8 : M8.2 c = M.2 c := by rw [← eM8]; exact (ef2_X12_gives _ _ _ (by omega))
        rw [show et_X12_winds M k what e scope isEscape v = M8 from by simp only [et_X12_winds, if_neg c1, if_neg c2, if_pos c3, eM8]]
        exact fM8
      · skip
        by_cases c4 : what = (13 : Int32)
        · skip
          obtain ⟨M6, eM6⟩ : ∃ z, em_pI M 119 ((18 : Int32)).toNatClampNeg e = z := ⟨_, rfl⟩
          have fM6 : M6.2 c = M.2 c := by rw [← eM6]; exact rfl
          obtain ⟨M7, eM7⟩ : ∃ z, et_X12_goes M6 (M6.1 119 ((k + (7 : Int32))).toNatClampNeg) (M6.1 119 ((k + (3 : Int32))).toNatClampNeg) (M6.1 119 ((k + (4 : Int32))).toNatClampNeg) = z := ⟨_, rfl⟩
          have fM7 : M7.2 c = M6.2 c := by rw [← eM7]; exact (ef2_X12_goes _ _ _ _ (by omega))
          rw [show et_X12_winds M k what e scope isEscape v = M7 from by simp only [et_X12_winds, if_neg c1, if_neg c2, if_neg c3, if_pos c4, eM6, eM7]]
          exact (fM7).trans (fM6)
        · skip
          obtain ⟨M5, eM5⟩ : ∃ z, et_X12_goes M (M.1 119 ((k + (7 : Int32))).toNatClampNeg) (M.1 119 ((k + (3 : Int32))).toNatClampNeg) (M.1 119 ((k + (4 : Int32))).toNatClampNeg) = z := ⟨_, rfl⟩
          have fM5 : M5.2 c = M.2 c := by rw [← eM5]; exact (ef2_X12_goes _ _ _ _ (by omega))
          rw [show et_X12_winds M k what e scope isEscape v = M5 from by simp only [et_X12_winds, if_neg c1, if_neg c2, if_neg c3, if_neg c4, eM5]]
          exact fM5
theorem ef1_X12_givesOn  (M : em_M) {c : Nat} (h : c < 118 ∨ 131 < c) : (et_X12_givesOn M).1 c = M.1 c := by
  by_cases c1 : 0 ≤ (M.1 119 ((17 : Int32)).toNatClampNeg)
  · skip
    by_cases c2 : (M.1 119 (((120 : Int32) + ((8 : Int32) * (M.1 119 ((17 : Int32)).toNatClampNeg)))).toNatClampNeg) = (1 : Int32)
    · skip
      by_cases c3 : (M.1 119 ((19 : Int32)).toNatClampNeg) = (1 : Int32)
      · skip
        obtain ⟨M4, eM4⟩ : ∃ z, et_X12_stands M (2 : Int32) = z := ⟨_, rfl⟩
        have fM4 : M4.1 c = M.1 c := by rw [← eM4]; exact (ef1_X12_stands _ _ (by omega))
        rw [show et_X12_givesOn M = M4 from by simp only [et_X12_givesOn, if_pos c1, if_pos c2, if_pos c3, eM4]]
        exact fM4
      · skip
        by_cases c5 : (M.1 119 ((((120 : Int32) + ((8 : Int32) * (M.1 119 ((17 : Int32)).toNatClampNeg))) + (3 : Int32))).toNatClampNeg) = (1 : Int32)
        · skip
          obtain ⟨M9, eM9⟩ : ∃ z, et_X12_stands M (2 : Int32) = z := ⟨_, rfl⟩
          have fM9 : M9.1 c = M.1 c := by rw [← eM9]; exact (ef1_X12_stands _ _ (by omega))
          rw [show et_X12_givesOn M = M9 from by simp only [et_X12_givesOn, if_pos c1, if_pos c2, if_neg c3, if_pos c5, eM9]]
          exact fM9
        · skip
          obtain ⟨M6, eM6⟩ : ∃ z, em_pI M 119 ((17 : Int32)).toNatClampNeg (M.1 119 ((((120 : Int32) + ((8 : Int32) * (M.1 119 ((17 : Int32)).toNatClampNeg))) + (5 : Int32))).toNatClampNeg) = z := ⟨_, rfl⟩
          have fM6 : M6.1 c = M.1 c := by rw [← eM6]; exact ef_pI' _ _ _ _ (by omega)
          obtain ⟨r7, er7⟩ : ∃ z, et_X12_made M6 (M6.1 122 ((M.1 119 ((((120 : Int32) + ((8 : Int32) * (M.1 119 ((17 : Int32)).toNatClampNeg))) + (1 : Int32))).toNatClampNeg)).toNatClampNeg) (M6.1 119 ((((120 : Int32) + ((8 : Int32) * (M.1 119 ((17 : Int32)).toNatClampNeg))) + (4 : Int32))).toNatClampNeg) (M.1 119 ((20 : Int32)).toNatClampNeg) = z := ⟨_, rfl⟩
          obtain ⟨M8, eM8⟩ : ∃ z, et_X12_gives M6 (0 : Int32) r7 = z := ⟨_, rfl⟩
          have fM8 : M8.1 c = M6.1 c := by rw [← eM8]; exact (ef1_X12_gives _ _ _ (by omega))
          rw [show et_X12_givesOn M = M8 from by simp only [et_X12_givesOn, if_pos c1, if_pos c2, if_neg c3, if_neg c5, eM6, er7, eM8]]
          exact (fM8).trans (fM6)
    · skip
      by_cases c10 : (M.1 119 (((120 : Int32) + ((8 : Int32) * (M.1 119 ((17 : Int32)).toNatClampNeg)))).toNatClampNeg) = (2 : Int32)
      · skip
        by_cases c11 : (M.1 119 ((19 : Int32)).toNatClampNeg) = (1 : Int32)
        · skip
          obtain ⟨M12, eM12⟩ : ∃ z, et_X12_stands M (2 : Int32) = z := ⟨_, rfl⟩
          have fM12 : M12.1 c = M.1 c := by rw [← eM12]; exact (ef1_X12_stands _ _ (by omega))
          rw [show et_X12_givesOn M = M12 from by simp only [et_X12_givesOn, if_pos c1, if_neg c2, if_pos c10, if_pos c11, eM12]]
          exact fM12
        · skip
          obtain ⟨M13, eM13⟩ : ∃ z, em_pI M 119 ((17 : Int32)).toNatClampNeg (M.1 119 ((((120 : Int32) + ((8 : Int32) * (M.1 119 ((17 : Int32)).toNatClampNeg))) + (5 : Int32))).toNatClampNeg) = z := ⟨_, rfl⟩
          have fM13 : M13.1 c = M.1 c := by rw [← eM13]; exact ef_pI' _ _ _ _ (by omega)
          by_cases c14 : (M.1 119 ((20 : Int32)).toNatClampNeg) = 0
          · skip
            obtain ⟨M15, eM15⟩ : ∃ z, et_X12_works M13 (M13.1 125 ((((5 : Int32) * (M.1 119 ((((120 : Int32) + ((8 : Int32) * (M.1 119 ((17 : Int32)).toNatClampNeg))) + (1 : Int32))).toNatClampNeg)) + (2 : Int32))).toNatClampNeg) (0 : Int32) (M.1 119 ((((120 : Int32) + ((8 : Int32) * (M.1 119 ((17 : Int32)).toNatClampNeg))) + (2 : Int32))).toNatClampNeg) = z := ⟨_, rfl⟩
            have fM15 : M15.1 c = M13.1 c := by rw [← eM15]; exact (ef1_X12_works _ _ _ _ (by omega))
            rw [show et_X12_givesOn M = M15 from by simp only [et_X12_givesOn, if_pos c1, if_neg c2, if_pos c10, if_neg c11, eM13, if_pos c14, eM15]]
            exact (fM15).trans (fM13)
          · skip
            obtain ⟨M16, eM16⟩ : ∃ z, et_X12_works M13 (M13.1 125 ((((5 : Int32) * (M.1 119 ((((120 : Int32) + ((8 : Int32) * (M.1 119 ((17 : Int32)).toNatClampNeg))) + (1 : Int32))).toNatClampNeg)) + (1 : Int32))).toNatClampNeg) (0 : Int32) (M.1 119 ((((120 : Int32) + ((8 : Int32) * (M.1 119 ((17 : Int32)).toNatClampNeg))) + (2 : Int32))).toNatClampNeg) = z := ⟨_, rfl⟩
            have fM16 : M16.1 c = M13.1 c := by rw [← eM16]; exact (ef1_X12_works _ _ _ _ (by omega))
            rw [show et_X12_givesOn M = M16 from by simp only [et_X12_givesOn, if_pos c1, if_neg c2, if_pos c10, if_neg c11, eM13, if_neg c14, eM16]]
            exact (fM16).trans (fM13)
      · skip
        by_cases c17 : (M.1 119 (((120 : Int32) + ((8 : Int32) * (M.1 119 ((17 : Int32)).toNatClampNeg)))).toNatClampNeg) = (7 : Int32)
        · skip
          by_cases c18 : (M.1 119 ((19 : Int32)).toNatClampNeg) = (1 : Int32)
          · skip
            obtain ⟨M19, eM19⟩ : ∃ z, et_X12_stands M (2 : Int32) = z := ⟨_, rfl⟩
            have fM19 : M19.1 c = M.1 c := by rw [← eM19]; exact (ef1_X12_stands _ _ (by omega))
            rw [show et_X12_givesOn M = M19 from by simp only [et_X12_givesOn, if_pos c1, if_neg c2, if_neg c10, if_pos c17, if_pos c18, eM19]]
            exact fM19
          · skip
            obtain ⟨M20, eM20⟩ : ∃ z, em_pI M 119 ((17 : Int32)).toNatClampNeg (M.1 119 ((((120 : Int32) + ((8 : Int32) * (M.1 119 ((17 : Int32)).toNatClampNeg))) + (5 : Int32))).toNatClampNeg) = z := ⟨_, rfl⟩
            have fM20 : M20.1 c = M.1 c := by rw [← eM20]; exact ef_pI' _ _ _ _ (by omega)
            by_cases c21 : (40 : Int32) ≤ (M20.1 119 ((12 : Int32)).toNatClampNeg)
            · skip
              rw [show et_X12_givesOn M = M20 from by simp only [et_X12_givesOn, if_pos c1, if_neg c2, if_neg c10, if_pos c17, if_neg c18, eM20, if_pos c21]]
              exact fM20
            · skip
              obtain ⟨M22, eM22⟩ : ∃ z, em_pI M20 119 (((74 : Int32) + (M20.1 119 ((12 : Int32)).toNatClampNeg))).toNatClampNeg (M.1 119 ((20 : Int32)).toNatClampNeg) = z := ⟨_, rfl⟩
              have fM22 : M22.1 c = M20.1 c := by rw [← eM22]; exact ef_pI' _ _ _ _ (by omega)
              obtain ⟨M23, eM23⟩ : ∃ z, em_pI M22 119 ((12 : Int32)).toNatClampNeg ((M22.1 119 ((12 : Int32)).toNatClampNeg) + (1 : Int32)) = z := ⟨_, rfl⟩
              have fM23 : M23.1 c = M22.1 c := by rw [← eM23]; exact ef_pI' _ _ _ _ (by omega)
              rw [show et_X12_givesOn M = M23 from by simp only [et_X12_givesOn, if_pos c1, if_neg c2, if_neg c10, if_pos c17, if_neg c18, eM20, if_neg c21, eM22, eM23]]
              exact (fM23).trans ((fM22).trans (fM20))
        · skip
          by_cases c24 : (M.1 119 (((120 : Int32) + ((8 : Int32) * (M.1 119 ((17 : Int32)).toNatClampNeg)))).toNatClampNeg) = (8 : Int32)
          · skip
            by_cases c44 : (M.1 119 ((19 : Int32)).toNatClampNeg) = (1 : Int32)
            · skip
              obtain ⟨M45, eM45⟩ : ∃ z, et_X12_stands M (2 : Int32) = z := ⟨_, rfl⟩
              have fM45 : M45.1 c = M.1 c := by rw [← eM45]; exact (ef1_X12_stands _ _ (by omega))
              rw [show et_X12_givesOn M = M45 from by simp only [et_X12_givesOn, if_pos c1, if_neg c2, if_neg c10, if_neg c17, if_pos c24, if_pos c44, eM45]]
              exact fM45
            · skip
              obtain ⟨M46, eM46⟩ : ∃ z, em_pI M 119 ((17 : Int32)).toNatClampNeg (M.1 119 ((((120 : Int32) + ((8 : Int32) * (M.1 119 ((17 : Int32)).toNatClampNeg))) + (5 : Int32))).toNatClampNeg) = z := ⟨_, rfl⟩
              have fM46 : M46.1 c = M.1 c := by rw [← eM46]; exact ef_pI' _ _ _ _ (by omega)
              obtain ⟨M47, eM47⟩ : ∃ z, em_pI M46 119 (((0 : Int32) + (M46.1 123 ((M.1 119 ((((120 : Int32) + ((8 : Int32) * (M.1 119 ((17 : Int32)).toNatClampNeg))) + (1 : Int32))).toNatClampNeg)).toNatClampNeg))).toNatClampNeg (M.1 119 ((20 : Int32)).toNatClampNeg) = z := ⟨_, rfl⟩
              have fM47 : M47.1 c = M46.1 c := by rw [← eM47]; exact ef_pI' _ _ _ _ (by omega)
              rw [show et_X12_givesOn M = M47 from by simp only [et_X12_givesOn, if_pos c1, if_neg c2, if_neg c10, if_neg c17, if_pos c24, if_neg c44, eM46, eM47]]
              exact (fM47).trans (fM46)
          · skip
            obtain ⟨M25, eM25⟩ : ∃ z, em_pI M 119 ((17 : Int32)).toNatClampNeg (M.1 119 ((((120 : Int32) + ((8 : Int32) * (M.1 119 ((17 : Int32)).toNatClampNeg))) + (5 : Int32))).toNatClampNeg) = z := ⟨_, rfl⟩
            have fM25 : M25.1 c = M.1 c := by rw [← eM25]; exact ef_pI' _ _ _ _ (by omega)
            by_cases c26 : (M.1 119 (((120 : Int32) + ((8 : Int32) * (M.1 119 ((17 : Int32)).toNatClampNeg)))).toNatClampNeg) = (0 : Int32)
            · skip
              obtain ⟨r27, M28, eM28⟩ : ∃ y z, et_X12_comes M25 (M25.1 119 ((17 : Int32)).toNatClampNeg) (1 : Int32) (M.1 119 ((((120 : Int32) + ((8 : Int32) * (M.1 119 ((17 : Int32)).toNatClampNeg))) + (1 : Int32))).toNatClampNeg) (M.1 119 ((((120 : Int32) + ((8 : Int32) * (M.1 119 ((17 : Int32)).toNatClampNeg))) + (2 : Int32))).toNatClampNeg) (M.1 119 ((19 : Int32)).toNatClampNeg) (M.1 119 ((20 : Int32)).toNatClampNeg) (0 : Int32) = (y, z) := ⟨_, _, rfl⟩
              have fM28 : M28.1 c = M25.1 c := by
                have q : (et_X12_comes M25 (M25.1 119 ((17 : Int32)).toNatClampNeg) (1 : Int32) (M.1 119 ((((120 : Int32) + ((8 : Int32) * (M.1 119 ((17 : Int32)).toNatClampNeg))) + (1 : Int32))).toNatClampNeg) (M.1 119 ((((120 : Int32) + ((8 : Int32) * (M.1 119 ((17 : Int32)).toNatClampNeg))) + (2 : Int32))).toNatClampNeg) (M.1 119 ((19 : Int32)).toNatClampNeg) (M.1 119 ((20 : Int32)).toNatClampNeg) (0 : Int32)).2.1 c = M25.1 c := (ef1_X12_comes _ _ _ _ _ _ _ _ (by omega))
                rw [eM28] at q
                exact q
              by_cases c30 : r27 = 0
              · skip
                rw [show et_X12_givesOn M = M28 from by simp only [et_X12_givesOn, if_pos c1, if_neg c2, if_neg c10, if_neg c17, if_neg c24, eM25, if_pos c26, eM28, if_pos c30]]
                exact (fM28).trans (fM25)
              · skip
                obtain ⟨M31, eM31⟩ : ∃ z, et_X12_works M28 (M28.1 125 ((((5 : Int32) * (M.1 119 ((((120 : Int32) + ((8 : Int32) * (M.1 119 ((17 : Int32)).toNatClampNeg))) + (1 : Int32))).toNatClampNeg)) + (1 : Int32))).toNatClampNeg) (0 : Int32) (M.1 119 ((((120 : Int32) + ((8 : Int32) * (M.1 119 ((17 : Int32)).toNatClampNeg))) + (2 : Int32))).toNatClampNeg) = z := ⟨_, rfl⟩
                have fM31 : M31.1 c = M28.1 c := by rw [← eM31]; exact (ef1_X12_works _ _ _ _ (by omega))
                rw [show et_X12_givesOn M = M31 from by simp only [et_X12_givesOn, if_pos c1, if_neg c2, if_neg c10, if_neg c17, if_neg c24, eM25, if_pos c26, eM28, if_neg c30, eM31]]
                exact (fM31).trans ((fM28).trans (fM25))
            · skip
              by_cases c32 : (M.1 119 (((120 : Int32) + ((8 : Int32) * (M.1 119 ((17 : Int32)).toNatClampNeg)))).toNatClampNeg) = (3 : Int32)
              · skip
                obtain ⟨r33, M34, eM34⟩ : ∃ y z, et_X12_bound M25 (M.1 119 ((((120 : Int32) + ((8 : Int32) * (M.1 119 ((17 : Int32)).toNatClampNeg))) + (2 : Int32))).toNatClampNeg) (M25.1 123 ((M.1 119 ((((120 : Int32) + ((8 : Int32) * (M.1 119 ((17 : Int32)).toNatClampNeg))) + (1 : Int32))).toNatClampNeg)).toNatClampNeg) (M.1 119 ((19 : Int32)).toNatClampNeg) (M.1 119 ((20 : Int32)).toNatClampNeg) = (y, z) := ⟨_, _, rfl⟩
                have fM34 : M34.1 c = M25.1 c := by
                  have q : (et_X12_bound M25 (M.1 119 ((((120 : Int32) + ((8 : Int32) * (M.1 119 ((17 : Int32)).toNatClampNeg))) + (2 : Int32))).toNatClampNeg) (M25.1 123 ((M.1 119 ((((120 : Int32) + ((8 : Int32) * (M.1 119 ((17 : Int32)).toNatClampNeg))) + (1 : Int32))).toNatClampNeg)).toNatClampNeg) (M.1 119 ((19 : Int32)).toNatClampNeg) (M.1 119 ((20 : Int32)).toNatClampNeg)).2.1 c = M25.1 c := (ef1_X12_bound _ _ _ _ _ (by omega))
                  rw [eM34] at q
                  exact q
                obtain ⟨M36, eM36⟩ : ∃ z, et_X12_works M34 (M25.1 125 ((((5 : Int32) * (M.1 119 ((((120 : Int32) + ((8 : Int32) * (M.1 119 ((17 : Int32)).toNatClampNeg))) + (1 : Int32))).toNatClampNeg)) + (1 : Int32))).toNatClampNeg) (0 : Int32) r33 = z := ⟨_, rfl⟩
                have fM36 : M36.1 c = M34.1 c := by rw [← eM36]; exact (ef1_X12_works _ _ _ _ (by omega))
                rw [show et_X12_givesOn M = M36 from by simp only [et_X12_givesOn, if_pos c1, if_neg c2, if_neg c10, if_neg c17, if_neg c24, eM25, if_neg c26, if_pos c32, eM34, eM36]]
                exact (fM36).trans ((fM34).trans (fM25))
              · skip
                by_cases c37 : (M.1 119 (((120 : Int32) + ((8 : Int32) * (M.1 119 ((17 : Int32)).toNatClampNeg)))).toNatClampNeg) = (4 : Int32)
                · skip
                  obtain ⟨M38, eM38⟩ : ∃ z, et_X12_works M25 (M.1 119 ((((120 : Int32) + ((8 : Int32) * (M.1 119 ((17 : Int32)).toNatClampNeg))) + (1 : Int32))).toNatClampNeg) (M25.1 119 ((((120 : Int32) + ((8 : Int32) * (M.1 119 ((17 : Int32)).toNatClampNeg))) + (7 : Int32))).toNatClampNeg) (M.1 119 ((((120 : Int32) + ((8 : Int32) * (M.1 119 ((17 : Int32)).toNatClampNeg))) + (2 : Int32))).toNatClampNeg) = z := ⟨_, rfl⟩
                  have fM38 : M38.1 c = M25.1 c := by rw [← eM38]; exact (ef1_X12_works _ _ _ _ (by omega))
                  rw [show et_X12_givesOn M = M38 from by simp only [et_X12_givesOn, if_pos c1, if_neg c2, if_neg c10, if_neg c17, if_neg c24, eM25, if_neg c26, if_neg c32, if_pos c37, eM38]]
                  exact (fM38).trans (fM25)
                · skip
                  by_cases c39 : (M.1 119 (((120 : Int32) + ((8 : Int32) * (M.1 119 ((17 : Int32)).toNatClampNeg)))).toNatClampNeg) = (5 : Int32)
                  · skip
                    obtain ⟨M40, eM40⟩ : ∃ z, et_X12_calls M25 ((M25.1 122 ((M.1 119 ((((120 : Int32) + ((8 : Int32) * (M.1 119 ((17 : Int32)).toNatClampNeg))) + (1 : Int32))).toNatClampNeg)).toNatClampNeg) - (70 : Int32)) (M.1 119 ((19 : Int32)).toNatClampNeg) (M.1 119 ((20 : Int32)).toNatClampNeg) = z := ⟨_, rfl⟩
                    have fM40 : M40.1 c = M25.1 c := by rw [← eM40]; exact (ef1_X12_calls _ _ _ _ (by omega))
                    rw [show et_X12_givesOn M = M40 from by simp only [et_X12_givesOn, if_pos c1, if_neg c2, if_neg c10, if_neg c17, if_neg c24, eM25, if_neg c26, if_neg c32, if_neg c37, if_pos c39, eM40]]
                    exact (fM40).trans (fM25)
                  · skip
                    by_cases c41 : (M.1 119 (((120 : Int32) + ((8 : Int32) * (M.1 119 ((17 : Int32)).toNatClampNeg)))).toNatClampNeg) = (6 : Int32)
                    · skip
                      obtain ⟨M42, eM42⟩ : ∃ z, et_X12_goes M25 (M25.1 119 ((((120 : Int32) + ((8 : Int32) * (M.1 119 ((17 : Int32)).toNatClampNeg))) + (7 : Int32))).toNatClampNeg) (M.1 119 ((19 : Int32)).toNatClampNeg) (M.1 119 ((20 : Int32)).toNatClampNeg) = z := ⟨_, rfl⟩
                      have fM42 : M42.1 c = M25.1 c := by rw [← eM42]; exact (ef1_X12_goes _ _ _ _ (by omega))
                      rw [show et_X12_givesOn M = M42 from by simp only [et_X12_givesOn, if_pos c1, if_neg c2, if_neg c10, if_neg c17, if_neg c24, eM25, if_neg c26, if_neg c32, if_neg c37, if_neg c39, if_pos c41, eM42]]
                      exact (fM42).trans (fM25)
                    · skip
                      obtain ⟨M43, eM43⟩ : ∃ z, et_X12_winds M25 ((120 : Int32) + ((8 : Int32) * (M.1 119 ((17 : Int32)).toNatClampNeg))) (M.1 119 (((120 : Int32) + ((8 : Int32) * (M.1 119 ((17 : Int32)).toNatClampNeg)))).toNatClampNeg) (M.1 119 ((((120 : Int32) + ((8 : Int32) * (M.1 119 ((17 : Int32)).toNatClampNeg))) + (1 : Int32))).toNatClampNeg) (M.1 119 ((((120 : Int32) + ((8 : Int32) * (M.1 119 ((17 : Int32)).toNatClampNeg))) + (2 : Int32))).toNatClampNeg) (M.1 119 ((19 : Int32)).toNatClampNeg) (M.1 119 ((20 : Int32)).toNatClampNeg) = z := ⟨_, rfl⟩
                      have fM43 : M43.1 c = M25.1 c := by rw [← eM43]; exact (ef1_X12_winds _ _ _ _ _ _ _ (by omega))
                      rw [show et_X12_givesOn M = M43 from by simp only [et_X12_givesOn, if_pos c1, if_neg c2, if_neg c10, if_neg c17, if_neg c24, eM25, if_neg c26, if_neg c32, if_neg c37, if_neg c39, if_neg c41, eM43]]
                      exact (fM43).trans (fM25)
  · skip
    obtain ⟨M48, eM48⟩ : ∃ z, em_pI M 119 ((8 : Int32)).toNatClampNeg (M.1 119 ((19 : Int32)).toNatClampNeg) = z := ⟨_, rfl⟩
    have fM48 : M48.1 c = M.1 c := by rw [← eM48]; exact ef_pI' _ _ _ _ (by omega)
    obtain ⟨M49, eM49⟩ : ∃ z, em_pI M48 119 ((9 : Int32)).toNatClampNeg (M.1 119 ((20 : Int32)).toNatClampNeg) = z := ⟨_, rfl⟩
    have fM49 : M49.1 c = M48.1 c := by rw [← eM49]; exact ef_pI' _ _ _ _ (by omega)
    obtain ⟨M50, eM50⟩ : ∃ z, et_X12_stands M49 (0 : Int32) = z := ⟨_, rfl⟩
    have fM50 : M50.1 c = M49.1 c := by rw [← eM50]; exact (ef1_X12_stands _ _ (by omega))
    rw [show et_X12_givesOn M = M50 from by simp only [et_X12_givesOn, if_neg c1, eM48, eM49, eM50]]
    exact (fM50).trans ((fM49).trans (fM48))
theorem ef2_X12_givesOn  (M : em_M) {c : Nat} (h : c < 118 ∨ 131 < c) : (et_X12_givesOn M).2 c = M.2 c := by
  by_cases c1 : 0 ≤ (M.1 119 ((17 : Int32)).toNatClampNeg)
  · skip
    by_cases c2 : (M.1 119 (((120 : Int32) + ((8 : Int32) * (M.1 119 ((17 : Int32)).toNatClampNeg)))).toNatClampNeg) = (1 : Int32)
    · skip
      by_cases c3 : (M.1 119 ((19 : Int32)).toNatClampNeg) = (1 : Int32)
      · skip
        obtain ⟨M4, eM4⟩ : ∃ z, et_X12_stands M (2 : Int32) = z := ⟨_, rfl⟩
        have fM4 : M4.2 c = M.2 c := by rw [← eM4]; exact (ef2_X12_stands _ _ (by omega))
        rw [show et_X12_givesOn M = M4 from by simp only [et_X12_givesOn, if_pos c1, if_pos c2, if_pos c3, eM4]]
        exact fM4
      · skip
        by_cases c5 : (M.1 119 ((((120 : Int32) + ((8 : Int32) * (M.1 119 ((17 : Int32)).toNatClampNeg))) + (3 : Int32))).toNatClampNeg) = (1 : Int32)
        · skip
          obtain ⟨M9, eM9⟩ : ∃ z, et_X12_stands M (2 : Int32) = z := ⟨_, rfl⟩
          have fM9 : M9.2 c = M.2 c := by rw [← eM9]; exact (ef2_X12_stands _ _ (by omega))
          rw [show et_X12_givesOn M = M9 from by simp only [et_X12_givesOn, if_pos c1, if_pos c2, if_neg c3, if_pos c5, eM9]]
          exact fM9
        · skip
          obtain ⟨M6, eM6⟩ : ∃ z, em_pI M 119 ((17 : Int32)).toNatClampNeg (M.1 119 ((((120 : Int32) + ((8 : Int32) * (M.1 119 ((17 : Int32)).toNatClampNeg))) + (5 : Int32))).toNatClampNeg) = z := ⟨_, rfl⟩
          have fM6 : M6.2 c = M.2 c := by rw [← eM6]; exact rfl
          obtain ⟨r7, er7⟩ : ∃ z, et_X12_made M6 (M6.1 122 ((M.1 119 ((((120 : Int32) + ((8 : Int32) * (M.1 119 ((17 : Int32)).toNatClampNeg))) + (1 : Int32))).toNatClampNeg)).toNatClampNeg) (M6.1 119 ((((120 : Int32) + ((8 : Int32) * (M.1 119 ((17 : Int32)).toNatClampNeg))) + (4 : Int32))).toNatClampNeg) (M.1 119 ((20 : Int32)).toNatClampNeg) = z := ⟨_, rfl⟩
          obtain ⟨M8, eM8⟩ : ∃ z, et_X12_gives M6 (0 : Int32) r7 = z := ⟨_, rfl⟩
          have fM8 : M8.2 c = M6.2 c := by rw [← eM8]; exact (ef2_X12_gives _ _ _ (by omega))
          rw [show et_X12_givesOn M = M8 from by simp only [et_X12_givesOn, if_pos c1, if_pos c2, if_neg c3, if_neg c5, eM6, er7, eM8]]
          exact (fM8).trans (fM6)
    · skip
      by_cases c10 : (M.1 119 (((120 : Int32) + ((8 : Int32) * (M.1 119 ((17 : Int32)).toNatClampNeg)))).toNatClampNeg) = (2 : Int32)
      · skip
        by_cases c11 : (M.1 119 ((19 : Int32)).toNatClampNeg) = (1 : Int32)
        · skip
          obtain ⟨M12, eM12⟩ : ∃ z, et_X12_stands M (2 : Int32) = z := ⟨_, rfl⟩
          have fM12 : M12.2 c = M.2 c := by rw [← eM12]; exact (ef2_X12_stands _ _ (by omega))
          rw [show et_X12_givesOn M = M12 from by simp only [et_X12_givesOn, if_pos c1, if_neg c2, if_pos c10, if_pos c11, eM12]]
          exact fM12
        · skip
          obtain ⟨M13, eM13⟩ : ∃ z, em_pI M 119 ((17 : Int32)).toNatClampNeg (M.1 119 ((((120 : Int32) + ((8 : Int32) * (M.1 119 ((17 : Int32)).toNatClampNeg))) + (5 : Int32))).toNatClampNeg) = z := ⟨_, rfl⟩
          have fM13 : M13.2 c = M.2 c := by rw [← eM13]; exact rfl
          by_cases c14 : (M.1 119 ((20 : Int32)).toNatClampNeg) = 0
          · skip
            obtain ⟨M15, eM15⟩ : ∃ z, et_X12_works M13 (M13.1 125 ((((5 : Int32) * (M.1 119 ((((120 : Int32) + ((8 : Int32) * (M.1 119 ((17 : Int32)).toNatClampNeg))) + (1 : Int32))).toNatClampNeg)) + (2 : Int32))).toNatClampNeg) (0 : Int32) (M.1 119 ((((120 : Int32) + ((8 : Int32) * (M.1 119 ((17 : Int32)).toNatClampNeg))) + (2 : Int32))).toNatClampNeg) = z := ⟨_, rfl⟩
            have fM15 : M15.2 c = M13.2 c := by rw [← eM15]; exact (ef2_X12_works _ _ _ _ (by omega))
            rw [show et_X12_givesOn M = M15 from by simp only [et_X12_givesOn, if_pos c1, if_neg c2, if_pos c10, if_neg c11, eM13, if_pos c14, eM15]]
            exact (fM15).trans (fM13)
          · skip
            obtain ⟨M16, eM16⟩ : ∃ z, et_X12_works M13 (M13.1 125 ((((5 : Int32) * (M.1 119 ((((120 : Int32) + ((8 : Int32) * (M.1 119 ((17 : Int32)).toNatClampNeg))) + (1 : Int32))).toNatClampNeg)) + (1 : Int32))).toNatClampNeg) (0 : Int32) (M.1 119 ((((120 : Int32) + ((8 : Int32) * (M.1 119 ((17 : Int32)).toNatClampNeg))) + (2 : Int32))).toNatClampNeg) = z := ⟨_, rfl⟩
            have fM16 : M16.2 c = M13.2 c := by rw [← eM16]; exact (ef2_X12_works _ _ _ _ (by omega))
            rw [show et_X12_givesOn M = M16 from by simp only [et_X12_givesOn, if_pos c1, if_neg c2, if_pos c10, if_neg c11, eM13, if_neg c14, eM16]]
            exact (fM16).trans (fM13)
      · skip
        by_cases c17 : (M.1 119 (((120 : Int32) + ((8 : Int32) * (M.1 119 ((17 : Int32)).toNatClampNeg)))).toNatClampNeg) = (7 : Int32)
        · skip
          by_cases c18 : (M.1 119 ((19 : Int32)).toNatClampNeg) = (1 : Int32)
          · skip
            obtain ⟨M19, eM19⟩ : ∃ z, et_X12_stands M (2 : Int32) = z := ⟨_, rfl⟩
            have fM19 : M19.2 c = M.2 c := by rw [← eM19]; exact (ef2_X12_stands _ _ (by omega))
            rw [show et_X12_givesOn M = M19 from by simp only [et_X12_givesOn, if_pos c1, if_neg c2, if_neg c10, if_pos c17, if_pos c18, eM19]]
            exact fM19
          · skip
            obtain ⟨M20, eM20⟩ : ∃ z, em_pI M 119 ((17 : Int32)).toNatClampNeg (M.1 119 ((((120 : Int32) + ((8 : Int32) * (M.1 119 ((17 : Int32)).toNatClampNeg))) + (5 : Int32))).toNatClampNeg) = z := ⟨_, rfl⟩
            have fM20 : M20.2 c = M.2 c := by rw [← eM20]; exact rfl
            by_cases c21 : (40 : Int32) ≤ (M20.1 119 ((12 : Int32)).toNatClampNeg)
            · skip
              rw [show et_X12_givesOn M = M20 from by simp only [et_X12_givesOn, if_pos c1, if_neg c2, if_neg c10, if_pos c17, if_neg c18, eM20, if_pos c21]]
              exact fM20
            · skip
              obtain ⟨M22, eM22⟩ : ∃ z, em_pI M20 119 (((74 : Int32) + (M20.1 119 ((12 : Int32)).toNatClampNeg))).toNatClampNeg (M.1 119 ((20 : Int32)).toNatClampNeg) = z := ⟨_, rfl⟩
              have fM22 : M22.2 c = M20.2 c := by rw [← eM22]; exact rfl
              obtain ⟨M23, eM23⟩ : ∃ z, em_pI M22 119 ((12 : Int32)).toNatClampNeg ((M22.1 119 ((12 : Int32)).toNatClampNeg) + (1 : Int32)) = z := ⟨_, rfl⟩
              have fM23 : M23.2 c = M22.2 c := by rw [← eM23]; exact rfl
              rw [show et_X12_givesOn M = M23 from by simp only [et_X12_givesOn, if_pos c1, if_neg c2, if_neg c10, if_pos c17, if_neg c18, eM20, if_neg c21, eM22, eM23]]
              exact (fM23).trans ((fM22).trans (fM20))
        · skip
          by_cases c24 : (M.1 119 (((120 : Int32) + ((8 : Int32) * (M.1 119 ((17 : Int32)).toNatClampNeg)))).toNatClampNeg) = (8 : Int32)
          · skip
            by_cases c44 : (M.1 119 ((19 : Int32)).toNatClampNeg) = (1 : Int32)
            · skip
              obtain ⟨M45, eM45⟩ : ∃ z, et_X12_stands M (2 : Int32) = z := ⟨_, rfl⟩
              have fM45 : M45.2 c = M.2 c := by rw [← eM45]; exact (ef2_X12_stands _ _ (by omega))
              rw [show et_X12_givesOn M = M45 from by simp only [et_X12_givesOn, if_pos c1, if_neg c2, if_neg c10, if_neg c17, if_pos c24, if_pos c44, eM45]]
              exact fM45
            · skip
              obtain ⟨M46, eM46⟩ : ∃ z, em_pI M 119 ((17 : Int32)).toNatClampNeg (M.1 119 ((((120 : Int32) + ((8 : Int32) * (M.1 119 ((17 : Int32)).toNatClampNeg))) + (5 : Int32))).toNatClampNeg) = z := ⟨_, rfl⟩
              have fM46 : M46.2 c = M.2 c := by rw [← eM46]; exact rfl
              obtain ⟨M47, eM47⟩ : ∃ z, em_pI M46 119 (((0 : Int32) + (M46.1 123 ((M.1 119 ((((120 : Int32) + ((8 : Int32) * (M.1 119 ((17 : Int32)).toNatClampNeg))) + (1 : Int32))).toNatClampNeg)).toNatClampNeg))).toNatClampNeg (M.1 119 ((20 : Int32)).toNatClampNeg) = z := ⟨_, rfl⟩
              have fM47 : M47.2 c = M46.2 c := by rw [← eM47]; exact rfl
              rw [show et_X12_givesOn M = M47 from by simp only [et_X12_givesOn, if_pos c1, if_neg c2, if_neg c10, if_neg c17, if_pos c24, if_neg c44, eM46, eM47]]
              exact (fM47).trans (fM46)
          · skip
            obtain ⟨M25, eM25⟩ : ∃ z, em_pI M 119 ((17 : Int32)).toNatClampNeg (M.1 119 ((((120 : Int32) + ((8 : Int32) * (M.1 119 ((17 : Int32)).toNatClampNeg))) + (5 : Int32))).toNatClampNeg) = z := ⟨_, rfl⟩
            have fM25 : M25.2 c = M.2 c := by rw [← eM25]; exact rfl
            by_cases c26 : (M.1 119 (((120 : Int32) + ((8 : Int32) * (M.1 119 ((17 : Int32)).toNatClampNeg)))).toNatClampNeg) = (0 : Int32)
            · skip
              obtain ⟨r27, M28, eM28⟩ : ∃ y z, et_X12_comes M25 (M25.1 119 ((17 : Int32)).toNatClampNeg) (1 : Int32) (M.1 119 ((((120 : Int32) + ((8 : Int32) * (M.1 119 ((17 : Int32)).toNatClampNeg))) + (1 : Int32))).toNatClampNeg) (M.1 119 ((((120 : Int32) + ((8 : Int32) * (M.1 119 ((17 : Int32)).toNatClampNeg))) + (2 : Int32))).toNatClampNeg) (M.1 119 ((19 : Int32)).toNatClampNeg) (M.1 119 ((20 : Int32)).toNatClampNeg) (0 : Int32) = (y, z) := ⟨_, _, rfl⟩
              have fM28 : M28.2 c = M25.2 c := by
                have q : (et_X12_comes M25 (M25.1 119 ((17 : Int32)).toNatClampNeg) (1 : Int32) (M.1 119 ((((120 : Int32) + ((8 : Int32) * (M.1 119 ((17 : Int32)).toNatClampNeg))) + (1 : Int32))).toNatClampNeg) (M.1 119 ((((120 : Int32) + ((8 : Int32) * (M.1 119 ((17 : Int32)).toNatClampNeg))) + (2 : Int32))).toNatClampNeg) (M.1 119 ((19 : Int32)).toNatClampNeg) (M.1 119 ((20 : Int32)).toNatClampNeg) (0 : Int32)).2.2 c = M25.2 c := (ef2_X12_comes _ _ _ _ _ _ _ _ (by omega))
                rw [eM28] at q
                exact q
              by_cases c30 : r27 = 0
              · skip
                rw [show et_X12_givesOn M = M28 from by simp only [et_X12_givesOn, if_pos c1, if_neg c2, if_neg c10, if_neg c17, if_neg c24, eM25, if_pos c26, eM28, if_pos c30]]
                exact (fM28).trans (fM25)
              · skip
                obtain ⟨M31, eM31⟩ : ∃ z, et_X12_works M28 (M28.1 125 ((((5 : Int32) * (M.1 119 ((((120 : Int32) + ((8 : Int32) * (M.1 119 ((17 : Int32)).toNatClampNeg))) + (1 : Int32))).toNatClampNeg)) + (1 : Int32))).toNatClampNeg) (0 : Int32) (M.1 119 ((((120 : Int32) + ((8 : Int32) * (M.1 119 ((17 : Int32)).toNatClampNeg))) + (2 : Int32))).toNatClampNeg) = z := ⟨_, rfl⟩
                have fM31 : M31.2 c = M28.2 c := by rw [← eM31]; exact (ef2_X12_works _ _ _ _ (by omega))
                rw [show et_X12_givesOn M = M31 from by simp only [et_X12_givesOn, if_pos c1, if_neg c2, if_neg c10, if_neg c17, if_neg c24, eM25, if_pos c26, eM28, if_neg c30, eM31]]
                exact (fM31).trans ((fM28).trans (fM25))
            · skip
              by_cases c32 : (M.1 119 (((120 : Int32) + ((8 : Int32) * (M.1 119 ((17 : Int32)).toNatClampNeg)))).toNatClampNeg) = (3 : Int32)
              · skip
                obtain ⟨r33, M34, eM34⟩ : ∃ y z, et_X12_bound M25 (M.1 119 ((((120 : Int32) + ((8 : Int32) * (M.1 119 ((17 : Int32)).toNatClampNeg))) + (2 : Int32))).toNatClampNeg) (M25.1 123 ((M.1 119 ((((120 : Int32) + ((8 : Int32) * (M.1 119 ((17 : Int32)).toNatClampNeg))) + (1 : Int32))).toNatClampNeg)).toNatClampNeg) (M.1 119 ((19 : Int32)).toNatClampNeg) (M.1 119 ((20 : Int32)).toNatClampNeg) = (y, z) := ⟨_, _, rfl⟩
                have fM34 : M34.2 c = M25.2 c := by
                  have q : (et_X12_bound M25 (M.1 119 ((((120 : Int32) + ((8 : Int32) * (M.1 119 ((17 : Int32)).toNatClampNeg))) + (2 : Int32))).toNatClampNeg) (M25.1 123 ((M.1 119 ((((120 : Int32) + ((8 : Int32) * (M.1 119 ((17 : Int32)).toNatClampNeg))) + (1 : Int32))).toNatClampNeg)).toNatClampNeg) (M.1 119 ((19 : Int32)).toNatClampNeg) (M.1 119 ((20 : Int32)).toNatClampNeg)).2.2 c = M25.2 c := (ef2_X12_bound _ _ _ _ _ (by omega))
                  rw [eM34] at q
                  exact q
                obtain ⟨M36, eM36⟩ : ∃ z, et_X12_works M34 (M25.1 125 ((((5 : Int32) * (M.1 119 ((((120 : Int32) + ((8 : Int32) * (M.1 119 ((17 : Int32)).toNatClampNeg))) + (1 : Int32))).toNatClampNeg)) + (1 : Int32))).toNatClampNeg) (0 : Int32) r33 = z := ⟨_, rfl⟩
                have fM36 : M36.2 c = M34.2 c := by rw [← eM36]; exact (ef2_X12_works _ _ _ _ (by omega))
                rw [show et_X12_givesOn M = M36 from by simp only [et_X12_givesOn, if_pos c1, if_neg c2, if_neg c10, if_neg c17, if_neg c24, eM25, if_neg c26, if_pos c32, eM34, eM36]]
                exact (fM36).trans ((fM34).trans (fM25))
              · skip
                by_cases c37 : (M.1 119 (((120 : Int32) + ((8 : Int32) * (M.1 119 ((17 : Int32)).toNatClampNeg)))).toNatClampNeg) = (4 : Int32)
                · skip
                  obtain ⟨M38, eM38⟩ : ∃ z, et_X12_works M25 (M.1 119 ((((120 : Int32) + ((8 : Int32) * (M.1 119 ((17 : Int32)).toNatClampNeg))) + (1 : Int32))).toNatClampNeg) (M25.1 119 ((((120 : Int32) + ((8 : Int32) * (M.1 119 ((17 : Int32)).toNatClampNeg))) + (7 : Int32))).toNatClampNeg) (M.1 119 ((((120 : Int32) + ((8 : Int32) * (M.1 119 ((17 : Int32)).toNatClampNeg))) + (2 : Int32))).toNatClampNeg) = z := ⟨_, rfl⟩
                  have fM38 : M38.2 c = M25.2 c := by rw [← eM38]; exact (ef2_X12_works _ _ _ _ (by omega))
                  rw [show et_X12_givesOn M = M38 from by simp only [et_X12_givesOn, if_pos c1, if_neg c2, if_neg c10, if_neg c17, if_neg c24, eM25, if_neg c26, if_neg c32, if_pos c37, eM38]]
                  exact (fM38).trans (fM25)
                · skip
                  by_cases c39 : (M.1 119 (((120 : Int32) + ((8 : Int32) * (M.1 119 ((17 : Int32)).toNatClampNeg)))).toNatClampNeg) = (5 : Int32)
                  · skip
                    obtain ⟨M40, eM40⟩ : ∃ z, et_X12_calls M25 ((M25.1 122 ((M.1 119 ((((120 : Int32) + ((8 : Int32) * (M.1 119 ((17 : Int32)).toNatClampNeg))) + (1 : Int32))).toNatClampNeg)).toNatClampNeg) - (70 : Int32)) (M.1 119 ((19 : Int32)).toNatClampNeg) (M.1 119 ((20 : Int32)).toNatClampNeg) = z := ⟨_, rfl⟩
                    have fM40 : M40.2 c = M25.2 c := by rw [← eM40]; exact (ef2_X12_calls _ _ _ _ (by omega))
                    rw [show et_X12_givesOn M = M40 from by simp only [et_X12_givesOn, if_pos c1, if_neg c2, if_neg c10, if_neg c17, if_neg c24, eM25, if_neg c26, if_neg c32, if_neg c37, if_pos c39, eM40]]
                    exact (fM40).trans (fM25)
                  · skip
                    by_cases c41 : (M.1 119 (((120 : Int32) + ((8 : Int32) * (M.1 119 ((17 : Int32)).toNatClampNeg)))).toNatClampNeg) = (6 : Int32)
                    · skip
                      obtain ⟨M42, eM42⟩ : ∃ z, et_X12_goes M25 (M25.1 119 ((((120 : Int32) + ((8 : Int32) * (M.1 119 ((17 : Int32)).toNatClampNeg))) + (7 : Int32))).toNatClampNeg) (M.1 119 ((19 : Int32)).toNatClampNeg) (M.1 119 ((20 : Int32)).toNatClampNeg) = z := ⟨_, rfl⟩
                      have fM42 : M42.2 c = M25.2 c := by rw [← eM42]; exact (ef2_X12_goes _ _ _ _ (by omega))
                      rw [show et_X12_givesOn M = M42 from by simp only [et_X12_givesOn, if_pos c1, if_neg c2, if_neg c10, if_neg c17, if_neg c24, eM25, if_neg c26, if_neg c32, if_neg c37, if_neg c39, if_pos c41, eM42]]
                      exact (fM42).trans (fM25)
                    · skip
                      obtain ⟨M43, eM43⟩ : ∃ z, et_X12_winds M25 ((120 : Int32) + ((8 : Int32) * (M.1 119 ((17 : Int32)).toNatClampNeg))) (M.1 119 (((120 : Int32) + ((8 : Int32) * (M.1 119 ((17 : Int32)).toNatClampNeg)))).toNatClampNeg) (M.1 119 ((((120 : Int32) + ((8 : Int32) * (M.1 119 ((17 : Int32)).toNatClampNeg))) + (1 : Int32))).toNatClampNeg) (M.1 119 ((((120 : Int32) + ((8 : Int32) * (M.1 119 ((17 : Int32)).toNatClampNeg))) + (2 : Int32))).toNatClampNeg) (M.1 119 ((19 : Int32)).toNatClampNeg) (M.1 119 ((20 : Int32)).toNatClampNeg) = z := ⟨_, rfl⟩
                      have fM43 : M43.2 c = M25.2 c := by rw [← eM43]; exact (ef2_X12_winds _ _ _ _ _ _ _ (by omega))
                      rw [show et_X12_givesOn M = M43 from by simp only [et_X12_givesOn, if_pos c1, if_neg c2, if_neg c10, if_neg c17, if_neg c24, eM25, if_neg c26, if_neg c32, if_neg c37, if_neg c39, if_neg c41, eM43]]
                      exact (fM43).trans (fM25)
  · skip
    obtain ⟨M48, eM48⟩ : ∃ z, em_pI M 119 ((8 : Int32)).toNatClampNeg (M.1 119 ((19 : Int32)).toNatClampNeg) = z := ⟨_, rfl⟩
    have fM48 : M48.2 c = M.2 c := by rw [← eM48]; exact rfl
    obtain ⟨M49, eM49⟩ : ∃ z, em_pI M48 119 ((9 : Int32)).toNatClampNeg (M.1 119 ((20 : Int32)).toNatClampNeg) = z := ⟨_, rfl⟩
    have fM49 : M49.2 c = M48.2 c := by rw [← eM49]; exact rfl
    obtain ⟨M50, eM50⟩ : ∃ z, et_X12_stands M49 (0 : Int32) = z := ⟨_, rfl⟩
    have fM50 : M50.2 c = M49.2 c := by rw [← eM50]; exact (ef2_X12_stands _ _ (by omega))
    rw [show et_X12_givesOn M = M50 from by simp only [et_X12_givesOn, if_neg c1, eM48, eM49, eM50]]
    exact (fM50).trans ((fM49).trans (fM48))
theorem ef1_X12_begins  (M : em_M) (line : Int32) {c : Nat} (h : c < 118 ∨ 131 < c) : (et_X12_begins M line).1 c = M.1 c := by
  obtain ⟨M1, eM1⟩ : ∃ z, em_pI M 119 ((7 : Int32)).toNatClampNeg (-5 : Int32) = z := ⟨_, rfl⟩
  have fM1 : M1.1 c = M.1 c := by rw [← eM1]; exact ef_pI' _ _ _ _ (by omega)
  obtain ⟨M2, eM2⟩ : ∃ z, em_pI M1 119 ((10 : Int32)).toNatClampNeg (0 : Int32) = z := ⟨_, rfl⟩
  have fM2 : M2.1 c = M1.1 c := by rw [← eM2]; exact ef_pI' _ _ _ _ (by omega)
  obtain ⟨M3, eM3⟩ : ∃ z, em_pI M2 119 ((11 : Int32)).toNatClampNeg (0 : Int32) = z := ⟨_, rfl⟩
  have fM3 : M3.1 c = M2.1 c := by rw [← eM3]; exact ef_pI' _ _ _ _ (by omega)
  obtain ⟨M4, eM4⟩ : ∃ z, em_pI M3 119 ((12 : Int32)).toNatClampNeg (0 : Int32) = z := ⟨_, rfl⟩
  have fM4 : M4.1 c = M3.1 c := by rw [← eM4]; exact ef_pI' _ _ _ _ (by omega)
  obtain ⟨M5, eM5⟩ : ∃ z, em_pI M4 119 ((17 : Int32)).toNatClampNeg (-1 : Int32) = z := ⟨_, rfl⟩
  have fM5 : M5.1 c = M4.1 c := by rw [← eM5]; exact ef_pI' _ _ _ _ (by omega)
  obtain ⟨M6, eM6⟩ : ∃ z, em_pI M5 119 ((18 : Int32)).toNatClampNeg (-1 : Int32) = z := ⟨_, rfl⟩
  have fM6 : M6.1 c = M5.1 c := by rw [← eM6]; exact ef_pI' _ _ _ _ (by omega)
  obtain ⟨M7, eM7⟩ : ∃ z, em_pI M6 119 ((21 : Int32)).toNatClampNeg (0 : Int32) = z := ⟨_, rfl⟩
  have fM7 : M7.1 c = M6.1 c := by rw [← eM7]; exact ef_pI' _ _ _ _ (by omega)
  obtain ⟨M8, eM8⟩ : ∃ z, em_pI M7 119 ((22 : Int32)).toNatClampNeg (0 : Int32) = z := ⟨_, rfl⟩
  have fM8 : M8.1 c = M7.1 c := by rw [← eM8]; exact ef_pI' _ _ _ _ (by omega)
  obtain ⟨M9, eM9⟩ : ∃ z, em_pI M8 119 ((23 : Int32)).toNatClampNeg (0 : Int32) = z := ⟨_, rfl⟩
  have fM9 : M9.1 c = M8.1 c := by rw [← eM9]; exact ef_pI' _ _ _ _ (by omega)
  obtain ⟨M10, eM10⟩ : ∃ z, em_pI M9 119 ((24 : Int32)).toNatClampNeg (0 : Int32) = z := ⟨_, rfl⟩
  have fM10 : M10.1 c = M9.1 c := by rw [← eM10]; exact ef_pI' _ _ _ _ (by omega)
  obtain ⟨M11, eM11⟩ : ∃ z, et_X12_works M10 ((101 : Int32) * line) (0 : Int32) (-1 : Int32) = z := ⟨_, rfl⟩
  have fM11 : M11.1 c = M10.1 c := by rw [← eM11]; exact (ef1_X12_works _ _ _ _ (by omega))
  rw [show et_X12_begins M line = M11 from by simp only [et_X12_begins, eM1, eM2, eM3, eM4, eM5, eM6, eM7, eM8, eM9, eM10, eM11]]
  exact (fM11).trans ((fM10).trans ((fM9).trans ((fM8).trans ((fM7).trans ((fM6).trans ((fM5).trans ((fM4).trans ((fM3).trans ((fM2).trans (fM1))))))))))
theorem ef2_X12_begins  (M : em_M) (line : Int32) {c : Nat} (h : c < 118 ∨ 131 < c) : (et_X12_begins M line).2 c = M.2 c := by
  obtain ⟨M1, eM1⟩ : ∃ z, em_pI M 119 ((7 : Int32)).toNatClampNeg (-5 : Int32) = z := ⟨_, rfl⟩
  have fM1 : M1.2 c = M.2 c := by rw [← eM1]; exact rfl
  obtain ⟨M2, eM2⟩ : ∃ z, em_pI M1 119 ((10 : Int32)).toNatClampNeg (0 : Int32) = z := ⟨_, rfl⟩
  have fM2 : M2.2 c = M1.2 c := by rw [← eM2]; exact rfl
  obtain ⟨M3, eM3⟩ : ∃ z, em_pI M2 119 ((11 : Int32)).toNatClampNeg (0 : Int32) = z := ⟨_, rfl⟩
  have fM3 : M3.2 c = M2.2 c := by rw [← eM3]; exact rfl
  obtain ⟨M4, eM4⟩ : ∃ z, em_pI M3 119 ((12 : Int32)).toNatClampNeg (0 : Int32) = z := ⟨_, rfl⟩
  have fM4 : M4.2 c = M3.2 c := by rw [← eM4]; exact rfl
  obtain ⟨M5, eM5⟩ : ∃ z, em_pI M4 119 ((17 : Int32)).toNatClampNeg (-1 : Int32) = z := ⟨_, rfl⟩
  have fM5 : M5.2 c = M4.2 c := by rw [← eM5]; exact rfl
  obtain ⟨M6, eM6⟩ : ∃ z, em_pI M5 119 ((18 : Int32)).toNatClampNeg (-1 : Int32) = z := ⟨_, rfl⟩
  have fM6 : M6.2 c = M5.2 c := by rw [← eM6]; exact rfl
  obtain ⟨M7, eM7⟩ : ∃ z, em_pI M6 119 ((21 : Int32)).toNatClampNeg (0 : Int32) = z := ⟨_, rfl⟩
  have fM7 : M7.2 c = M6.2 c := by rw [← eM7]; exact rfl
  obtain ⟨M8, eM8⟩ : ∃ z, em_pI M7 119 ((22 : Int32)).toNatClampNeg (0 : Int32) = z := ⟨_, rfl⟩
  have fM8 : M8.2 c = M7.2 c := by rw [← eM8]; exact rfl
  obtain ⟨M9, eM9⟩ : ∃ z, em_pI M8 119 ((23 : Int32)).toNatClampNeg (0 : Int32) = z := ⟨_, rfl⟩
  have fM9 : M9.2 c = M8.2 c := by rw [← eM9]; exact rfl
  obtain ⟨M10, eM10⟩ : ∃ z, em_pI M9 119 ((24 : Int32)).toNatClampNeg (0 : Int32) = z := ⟨_, rfl⟩
  have fM10 : M10.2 c = M9.2 c := by rw [← eM10]; exact rfl
  obtain ⟨M11, eM11⟩ : ∃ z, et_X12_works M10 ((101 : Int32) * line) (0 : Int32) (-1 : Int32) = z := ⟨_, rfl⟩
  have fM11 : M11.2 c = M10.2 c := by rw [← eM11]; exact (ef2_X12_works _ _ _ _ (by omega))
  rw [show et_X12_begins M line = M11 from by simp only [et_X12_begins, eM1, eM2, eM3, eM4, eM5, eM6, eM7, eM8, eM9, eM10, eM11]]
  exact (fM11).trans ((fM10).trans ((fM9).trans ((fM8).trans ((fM7).trans ((fM6).trans ((fM5).trans ((fM4).trans ((fM3).trans ((fM2).trans (fM1))))))))))
theorem ef1_X12_steps_2    {c : Nat} (h : c < 118 ∨ 131 < c) : ∀ (fu : Nat) (M : em_M) (n : Int32) (k : Int32), (et_X12_steps_2  fu M n k).2.1 c = M.1 c := by
  intro fu
  induction fu with
  | zero => intros; rfl
  | succ fu ih =>
    intro M n k
    by_cases c1 : n ≤ k
    · skip
      rw [show et_X12_steps_2  (fu + 1) M n k = (k, M) from by simp only [et_X12_steps_2, if_pos c1]]
      all_goals rfl
    · skip
      by_cases c2 : (M.1 119 ((7 : Int32)).toNatClampNeg) = (-5 : Int32)
      · skip
        by_cases c3 : (M.1 119 ((13 : Int32)).toNatClampNeg) = 0
        · skip
          obtain ⟨M9, eM9⟩ : ∃ z, et_X12_worksOn M = z := ⟨_, rfl⟩
          have fM9 : M9.1 c = M.1 c := by rw [← eM9]; exact (ef1_X12_worksOn _ (by omega))
          obtain ⟨M10, eM10⟩ : ∃ z, em_pI M9 119 ((10 : Int32)).toNatClampNeg ((M9.1 119 ((10 : Int32)).toNatClampNeg) + (1 : Int32)) = z := ⟨_, rfl⟩
          have fM10 : M10.1 c = M9.1 c := by rw [← eM10]; exact ef_pI' _ _ _ _ (by omega)
          by_cases c11 : (M10.1 119 ((10 : Int32)).toNatClampNeg) = (300 : Int32)
          · skip
            by_cases c12 : (M10.1 119 ((7 : Int32)).toNatClampNeg) = (-5 : Int32)
            · skip
              obtain ⟨M13, eM13⟩ : ∃ z, et_X12_stands M10 (8 : Int32) = z := ⟨_, rfl⟩
              have fM13 : M13.1 c = M10.1 c := by rw [← eM13]; exact (ef1_X12_stands _ _ (by omega))
              rw [show et_X12_steps_2  (fu + 1) M n k = et_X12_steps_2 fu M13 n (k + (1 : Int32)) from by simp only [et_X12_steps_2, if_neg c1, if_pos c2, if_pos c3, eM9, eM10, if_pos c11, if_pos c12, eM13]]
              exact (ih _ _ _).trans ((fM13).trans ((fM10).trans (fM9)))
            · skip
              rw [show et_X12_steps_2  (fu + 1) M n k = et_X12_steps_2 fu M10 n (k + (1 : Int32)) from by simp only [et_X12_steps_2, if_neg c1, if_pos c2, if_pos c3, eM9, eM10, if_pos c11, if_neg c12]]
              exact (ih _ _ _).trans ((fM10).trans (fM9))
          · skip
            rw [show et_X12_steps_2  (fu + 1) M n k = et_X12_steps_2 fu M10 n (k + (1 : Int32)) from by simp only [et_X12_steps_2, if_neg c1, if_pos c2, if_pos c3, eM9, eM10, if_neg c11]]
            exact (ih _ _ _).trans ((fM10).trans (fM9))
        · skip
          obtain ⟨M4, eM4⟩ : ∃ z, et_X12_givesOn M = z := ⟨_, rfl⟩
          have fM4 : M4.1 c = M.1 c := by rw [← eM4]; exact (ef1_X12_givesOn _ (by omega))
          obtain ⟨M5, eM5⟩ : ∃ z, em_pI M4 119 ((10 : Int32)).toNatClampNeg ((M4.1 119 ((10 : Int32)).toNatClampNeg) + (1 : Int32)) = z := ⟨_, rfl⟩
          have fM5 : M5.1 c = M4.1 c := by rw [← eM5]; exact ef_pI' _ _ _ _ (by omega)
          by_cases c6 : (M5.1 119 ((10 : Int32)).toNatClampNeg) = (300 : Int32)
          · skip
            by_cases c7 : (M5.1 119 ((7 : Int32)).toNatClampNeg) = (-5 : Int32)
            · skip
              obtain ⟨M8, eM8⟩ : ∃ z, et_X12_stands M5 (8 : Int32) = z := ⟨_, rfl⟩
              have fM8 : M8.1 c = M5.1 c := by rw [← eM8]; exact (ef1_X12_stands _ _ (by omega))
              rw [show et_X12_steps_2  (fu + 1) M n k = et_X12_steps_2 fu M8 n (k + (1 : Int32)) from by simp only [et_X12_steps_2, if_neg c1, if_pos c2, if_neg c3, eM4, eM5, if_pos c6, if_pos c7, eM8]]
              exact (ih _ _ _).trans ((fM8).trans ((fM5).trans (fM4)))
            · skip
              rw [show et_X12_steps_2  (fu + 1) M n k = et_X12_steps_2 fu M5 n (k + (1 : Int32)) from by simp only [et_X12_steps_2, if_neg c1, if_pos c2, if_neg c3, eM4, eM5, if_pos c6, if_neg c7]]
              exact (ih _ _ _).trans ((fM5).trans (fM4))
          · skip
            rw [show et_X12_steps_2  (fu + 1) M n k = et_X12_steps_2 fu M5 n (k + (1 : Int32)) from by simp only [et_X12_steps_2, if_neg c1, if_pos c2, if_neg c3, eM4, eM5, if_neg c6]]
            exact (ih _ _ _).trans ((fM5).trans (fM4))
      · skip
        rw [show et_X12_steps_2  (fu + 1) M n k = (k, M) from by simp only [et_X12_steps_2, if_neg c1, if_neg c2]]
        all_goals rfl
theorem ef2_X12_steps_2    {c : Nat} (h : c < 118 ∨ 131 < c) : ∀ (fu : Nat) (M : em_M) (n : Int32) (k : Int32), (et_X12_steps_2  fu M n k).2.2 c = M.2 c := by
  intro fu
  induction fu with
  | zero => intros; rfl
  | succ fu ih =>
    intro M n k
    by_cases c1 : n ≤ k
    · skip
      rw [show et_X12_steps_2  (fu + 1) M n k = (k, M) from by simp only [et_X12_steps_2, if_pos c1]]
      all_goals rfl
    · skip
      by_cases c2 : (M.1 119 ((7 : Int32)).toNatClampNeg) = (-5 : Int32)
      · skip
        by_cases c3 : (M.1 119 ((13 : Int32)).toNatClampNeg) = 0
        · skip
          obtain ⟨M9, eM9⟩ : ∃ z, et_X12_worksOn M = z := ⟨_, rfl⟩
          have fM9 : M9.2 c = M.2 c := by rw [← eM9]; exact (ef2_X12_worksOn _ (by omega))
          obtain ⟨M10, eM10⟩ : ∃ z, em_pI M9 119 ((10 : Int32)).toNatClampNeg ((M9.1 119 ((10 : Int32)).toNatClampNeg) + (1 : Int32)) = z := ⟨_, rfl⟩
          have fM10 : M10.2 c = M9.2 c := by rw [← eM10]; exact rfl
          by_cases c11 : (M10.1 119 ((10 : Int32)).toNatClampNeg) = (300 : Int32)
          · skip
            by_cases c12 : (M10.1 119 ((7 : Int32)).toNatClampNeg) = (-5 : Int32)
            · skip
              obtain ⟨M13, eM13⟩ : ∃ z, et_X12_stands M10 (8 : Int32) = z := ⟨_, rfl⟩
              have fM13 : M13.2 c = M10.2 c := by rw [← eM13]; exact (ef2_X12_stands _ _ (by omega))
              rw [show et_X12_steps_2  (fu + 1) M n k = et_X12_steps_2 fu M13 n (k + (1 : Int32)) from by simp only [et_X12_steps_2, if_neg c1, if_pos c2, if_pos c3, eM9, eM10, if_pos c11, if_pos c12, eM13]]
              exact (ih _ _ _).trans ((fM13).trans ((fM10).trans (fM9)))
            · skip
              rw [show et_X12_steps_2  (fu + 1) M n k = et_X12_steps_2 fu M10 n (k + (1 : Int32)) from by simp only [et_X12_steps_2, if_neg c1, if_pos c2, if_pos c3, eM9, eM10, if_pos c11, if_neg c12]]
              exact (ih _ _ _).trans ((fM10).trans (fM9))
          · skip
            rw [show et_X12_steps_2  (fu + 1) M n k = et_X12_steps_2 fu M10 n (k + (1 : Int32)) from by simp only [et_X12_steps_2, if_neg c1, if_pos c2, if_pos c3, eM9, eM10, if_neg c11]]
            exact (ih _ _ _).trans ((fM10).trans (fM9))
        · skip
          obtain ⟨M4, eM4⟩ : ∃ z, et_X12_givesOn M = z := ⟨_, rfl⟩
          have fM4 : M4.2 c = M.2 c := by rw [← eM4]; exact (ef2_X12_givesOn _ (by omega))
          obtain ⟨M5, eM5⟩ : ∃ z, em_pI M4 119 ((10 : Int32)).toNatClampNeg ((M4.1 119 ((10 : Int32)).toNatClampNeg) + (1 : Int32)) = z := ⟨_, rfl⟩
          have fM5 : M5.2 c = M4.2 c := by rw [← eM5]; exact rfl
          by_cases c6 : (M5.1 119 ((10 : Int32)).toNatClampNeg) = (300 : Int32)
          · skip
            by_cases c7 : (M5.1 119 ((7 : Int32)).toNatClampNeg) = (-5 : Int32)
            · skip
              obtain ⟨M8, eM8⟩ : ∃ z, et_X12_stands M5 (8 : Int32) = z := ⟨_, rfl⟩
              have fM8 : M8.2 c = M5.2 c := by rw [← eM8]; exact (ef2_X12_stands _ _ (by omega))
              rw [show et_X12_steps_2  (fu + 1) M n k = et_X12_steps_2 fu M8 n (k + (1 : Int32)) from by simp only [et_X12_steps_2, if_neg c1, if_pos c2, if_neg c3, eM4, eM5, if_pos c6, if_pos c7, eM8]]
              exact (ih _ _ _).trans ((fM8).trans ((fM5).trans (fM4)))
            · skip
              rw [show et_X12_steps_2  (fu + 1) M n k = et_X12_steps_2 fu M5 n (k + (1 : Int32)) from by simp only [et_X12_steps_2, if_neg c1, if_pos c2, if_neg c3, eM4, eM5, if_pos c6, if_neg c7]]
              exact (ih _ _ _).trans ((fM5).trans (fM4))
          · skip
            rw [show et_X12_steps_2  (fu + 1) M n k = et_X12_steps_2 fu M5 n (k + (1 : Int32)) from by simp only [et_X12_steps_2, if_neg c1, if_pos c2, if_neg c3, eM4, eM5, if_neg c6]]
            exact (ih _ _ _).trans ((fM5).trans (fM4))
      · skip
        rw [show et_X12_steps_2  (fu + 1) M n k = (k, M) from by simp only [et_X12_steps_2, if_neg c1, if_neg c2]]
        all_goals rfl
theorem ef1_X12_steps  (M : em_M) (n : Int32) {c : Nat} (h : c < 118 ∨ 131 < c) : (et_X12_steps M n).2.1 c = M.1 c := by
  rw [show et_X12_steps M n = et_X12_steps_2 (n.toNatClampNeg + 1) M n (0 : Int32) from by simp only [et_X12_steps]]
  exact (ef1_X12_steps_2  (by omega) _ _ _ _)
theorem ef2_X12_steps  (M : em_M) (n : Int32) {c : Nat} (h : c < 118 ∨ 131 < c) : (et_X12_steps M n).2.2 c = M.2 c := by
  rw [show et_X12_steps M n = et_X12_steps_2 (n.toNatClampNeg + 1) M n (0 : Int32) from by simp only [et_X12_steps]]
  exact (ef2_X12_steps_2  (by omega) _ _ _ _)
theorem ef1_X12_runs  (M : em_M) (line : Int32) {c : Nat} (h : c < 118 ∨ 131 < c) : (et_X12_runs M line).1 c = M.1 c := by
  obtain ⟨M1, eM1⟩ : ∃ z, et_X12_begins M line = z := ⟨_, rfl⟩
  have fM1 : M1.1 c = M.1 c := by rw [← eM1]; exact (ef1_X12_begins _ _ (by omega))
  obtain ⟨r2, M3, eM3⟩ : ∃ y z, et_X12_steps M1 (300 : Int32) = (y, z) := ⟨_, _, rfl⟩
  have fM3 : M3.1 c = M1.1 c := by
    have q : (et_X12_steps M1 (300 : Int32)).2.1 c = M1.1 c := (ef1_X12_steps _ _ (by omega))
    rw [eM3] at q
    exact q
  rw [show et_X12_runs M line = M3 from by simp only [et_X12_runs, eM1, eM3]]
  exact (fM3).trans (fM1)
theorem ef2_X12_runs  (M : em_M) (line : Int32) {c : Nat} (h : c < 118 ∨ 131 < c) : (et_X12_runs M line).2 c = M.2 c := by
  obtain ⟨M1, eM1⟩ : ∃ z, et_X12_begins M line = z := ⟨_, rfl⟩
  have fM1 : M1.2 c = M.2 c := by rw [← eM1]; exact (ef2_X12_begins _ _ (by omega))
  obtain ⟨r2, M3, eM3⟩ : ∃ y z, et_X12_steps M1 (300 : Int32) = (y, z) := ⟨_, _, rfl⟩
  have fM3 : M3.2 c = M1.2 c := by
    have q : (et_X12_steps M1 (300 : Int32)).2.2 c = M1.2 c := (ef2_X12_steps _ _ (by omega))
    rw [eM3] at q
    exact q
  rw [show et_X12_runs M line = M3 from by simp only [et_X12_runs, eM1, eM3]]
  exact (fM3).trans (fM1)
theorem ef1_X12_begin  (M : em_M) (line : Int32) {c : Nat} (h : c < 118 ∨ 131 < c) : (et_X12_begin M line).2.1 c = M.1 c := by
  obtain ⟨r1, er1⟩ : ∃ z, et_X12_isLine M line = z := ⟨_, rfl⟩
  by_cases c2 : r1 = 0
  · skip
    rw [show et_X12_begin M line = ((-1 : Int32), M) from by simp only [et_X12_begin, er1, if_pos c2]]
    all_goals rfl
  · skip
    obtain ⟨M3, eM3⟩ : ∃ z, et_X12_begins M line = z := ⟨_, rfl⟩
    have fM3 : M3.1 c = M.1 c := by rw [← eM3]; exact (ef1_X12_begins _ _ (by omega))
    rw [show et_X12_begin M line = ((M3.1 126 (line).toNatClampNeg), M3) from by simp only [et_X12_begin, er1, if_neg c2, eM3]]
    show M3.1 c = M.1 c
    exact fM3
theorem ef2_X12_begin  (M : em_M) (line : Int32) {c : Nat} (h : c < 118 ∨ 131 < c) : (et_X12_begin M line).2.2 c = M.2 c := by
  obtain ⟨r1, er1⟩ : ∃ z, et_X12_isLine M line = z := ⟨_, rfl⟩
  by_cases c2 : r1 = 0
  · skip
    rw [show et_X12_begin M line = ((-1 : Int32), M) from by simp only [et_X12_begin, er1, if_pos c2]]
    all_goals rfl
  · skip
    obtain ⟨M3, eM3⟩ : ∃ z, et_X12_begins M line = z := ⟨_, rfl⟩
    have fM3 : M3.2 c = M.2 c := by rw [← eM3]; exact (ef2_X12_begins _ _ (by omega))
    rw [show et_X12_begin M line = ((M3.1 126 (line).toNatClampNeg), M3) from by simp only [et_X12_begin, er1, if_neg c2, eM3]]
    show M3.2 c = M.2 c
    exact fM3
theorem ef1_X12_step  (M : em_M) (n : Int32) {c : Nat} (h : c < 118 ∨ 131 < c) : (et_X12_step M n).2.1 c = M.1 c := by
  obtain ⟨r1, er1⟩ : ∃ z, et_X12_in M ((n).toInt64) (0 : Int64) (300 : Int64) = z := ⟨_, rfl⟩
  by_cases c2 : r1 = 0
  · skip
    rw [show et_X12_step M n = ((-2 : Int32), M) from by simp only [et_X12_step, er1, if_pos c2]]
    all_goals rfl
  · skip
    by_cases c3 : (M.1 119 ((7 : Int32)).toNatClampNeg) = (-5 : Int32)
    · skip
      obtain ⟨r4, M5, eM5⟩ : ∃ y z, et_X12_steps M n = (y, z) := ⟨_, _, rfl⟩
      have fM5 : M5.1 c = M.1 c := by
        have q : (et_X12_steps M n).2.1 c = M.1 c := (ef1_X12_steps _ _ (by omega))
        rw [eM5] at q
        exact q
      rw [show et_X12_step M n = (r4, M5) from by simp only [et_X12_step, er1, if_neg c2, if_pos c3, eM5]]
      show M5.1 c = M.1 c
      exact fM5
    · skip
      rw [show et_X12_step M n = ((-3 : Int32), M) from by simp only [et_X12_step, er1, if_neg c2, if_neg c3]]
      all_goals rfl
theorem ef2_X12_step  (M : em_M) (n : Int32) {c : Nat} (h : c < 118 ∨ 131 < c) : (et_X12_step M n).2.2 c = M.2 c := by
  obtain ⟨r1, er1⟩ : ∃ z, et_X12_in M ((n).toInt64) (0 : Int64) (300 : Int64) = z := ⟨_, rfl⟩
  by_cases c2 : r1 = 0
  · skip
    rw [show et_X12_step M n = ((-2 : Int32), M) from by simp only [et_X12_step, er1, if_pos c2]]
    all_goals rfl
  · skip
    by_cases c3 : (M.1 119 ((7 : Int32)).toNatClampNeg) = (-5 : Int32)
    · skip
      obtain ⟨r4, M5, eM5⟩ : ∃ y z, et_X12_steps M n = (y, z) := ⟨_, _, rfl⟩
      have fM5 : M5.2 c = M.2 c := by
        have q : (et_X12_steps M n).2.2 c = M.2 c := (ef2_X12_steps _ _ (by omega))
        rw [eM5] at q
        exact q
      rw [show et_X12_step M n = (r4, M5) from by simp only [et_X12_step, er1, if_neg c2, if_pos c3, eM5]]
      show M5.2 c = M.2 c
      exact fM5
    · skip
      rw [show et_X12_step M n = ((-3 : Int32), M) from by simp only [et_X12_step, er1, if_neg c2, if_neg c3]]
      all_goals rfl
theorem ef1_X12_run  (M : em_M) (line : Int32) {c : Nat} (h : c < 118 ∨ 131 < c) : (et_X12_run M line).2.1 c = M.1 c := by
  obtain ⟨r1, er1⟩ : ∃ z, et_X12_isLine M line = z := ⟨_, rfl⟩
  by_cases c2 : r1 = 0
  · skip
    rw [show et_X12_run M line = ((-1 : Int32), M) from by simp only [et_X12_run, er1, if_pos c2]]
    all_goals rfl
  · skip
    obtain ⟨M3, eM3⟩ : ∃ z, et_X12_runs M line = z := ⟨_, rfl⟩
    have fM3 : M3.1 c = M.1 c := by rw [← eM3]; exact (ef1_X12_runs _ _ (by omega))
    rw [show et_X12_run M line = ((M3.1 119 ((7 : Int32)).toNatClampNeg), M3) from by simp only [et_X12_run, er1, if_neg c2, eM3]]
    show M3.1 c = M.1 c
    exact fM3
theorem ef2_X12_run  (M : em_M) (line : Int32) {c : Nat} (h : c < 118 ∨ 131 < c) : (et_X12_run M line).2.2 c = M.2 c := by
  obtain ⟨r1, er1⟩ : ∃ z, et_X12_isLine M line = z := ⟨_, rfl⟩
  by_cases c2 : r1 = 0
  · skip
    rw [show et_X12_run M line = ((-1 : Int32), M) from by simp only [et_X12_run, er1, if_pos c2]]
    all_goals rfl
  · skip
    obtain ⟨M3, eM3⟩ : ∃ z, et_X12_runs M line = z := ⟨_, rfl⟩
    have fM3 : M3.2 c = M.2 c := by rw [← eM3]; exact (ef2_X12_runs _ _ (by omega))
    rw [show et_X12_run M line = ((M3.1 119 ((7 : Int32)).toNatClampNeg), M3) from by simp only [et_X12_run, er1, if_neg c2, eM3]]
    show M3.2 c = M.2 c
    exact fM3
theorem ef1_X12_on  (M : em_M) (line : Int32) (what : Int32) {c : Nat} (h : c < 118 ∨ 131 < c) : (et_X12_on M line what).2.1 c = M.1 c := by
  obtain ⟨r1, er1⟩ : ∃ z, et_X12_isLine M line = z := ⟨_, rfl⟩
  by_cases c2 : r1 = 0
  · skip
    rw [show et_X12_on M line what = ((-9223372036854775808 : Int64), M) from by simp only [et_X12_on, er1, if_pos c2]]
    all_goals rfl
  · skip
    obtain ⟨r3, er3⟩ : ∃ z, et_X12_in M ((what).toInt64) (5 : Int64) (39 : Int64) = z := ⟨_, rfl⟩
    by_cases c4 : r3 = 0
    · skip
      obtain ⟨M5, eM5⟩ : ∃ z, et_X12_copies 119 5880 120 5880 M = z := ⟨_, rfl⟩
      have fM5 : M5.1 c = M.1 c := by rw [← eM5]; exact (ef1_X12_copies _ _ _ _ _ (by omega))
      obtain ⟨M6, eM6⟩ : ∃ z, et_X12_runs M5 line = z := ⟨_, rfl⟩
      have fM6 : M6.1 c = M5.1 c := by rw [← eM6]; exact (ef1_X12_runs _ _ (by omega))
      obtain ⟨r7, er7⟩ : ∃ z, et_X12_toldOf M6 what = z := ⟨_, rfl⟩
      obtain ⟨M8, eM8⟩ : ∃ z, et_X12_copies 120 5880 119 5880 M6 = z := ⟨_, rfl⟩
      have fM8 : M8.1 c = M6.1 c := by rw [← eM8]; exact (ef1_X12_copies _ _ _ _ _ (by omega))
      rw [show et_X12_on M line what = (r7, M8) from by simp only [et_X12_on, er1, if_neg c2, er3, if_pos c4, eM5, eM6, er7, eM8]]
      show M8.1 c = M.1 c
      exact (fM8).trans ((fM6).trans (fM5))
    · skip
      rw [show et_X12_on M line what = ((-9223372036854775808 : Int64), M) from by simp only [et_X12_on, er1, if_neg c2, er3, if_neg c4]]
      all_goals rfl
theorem ef2_X12_on  (M : em_M) (line : Int32) (what : Int32) {c : Nat} (h : c < 118 ∨ 131 < c) : (et_X12_on M line what).2.2 c = M.2 c := by
  obtain ⟨r1, er1⟩ : ∃ z, et_X12_isLine M line = z := ⟨_, rfl⟩
  by_cases c2 : r1 = 0
  · skip
    rw [show et_X12_on M line what = ((-9223372036854775808 : Int64), M) from by simp only [et_X12_on, er1, if_pos c2]]
    all_goals rfl
  · skip
    obtain ⟨r3, er3⟩ : ∃ z, et_X12_in M ((what).toInt64) (5 : Int64) (39 : Int64) = z := ⟨_, rfl⟩
    by_cases c4 : r3 = 0
    · skip
      obtain ⟨M5, eM5⟩ : ∃ z, et_X12_copies 119 5880 120 5880 M = z := ⟨_, rfl⟩
      have fM5 : M5.2 c = M.2 c := by rw [← eM5]; exact (ef2_X12_copies _ _ _ _ _ (by omega))
      obtain ⟨M6, eM6⟩ : ∃ z, et_X12_runs M5 line = z := ⟨_, rfl⟩
      have fM6 : M6.2 c = M5.2 c := by rw [← eM6]; exact (ef2_X12_runs _ _ (by omega))
      obtain ⟨r7, er7⟩ : ∃ z, et_X12_toldOf M6 what = z := ⟨_, rfl⟩
      obtain ⟨M8, eM8⟩ : ∃ z, et_X12_copies 120 5880 119 5880 M6 = z := ⟨_, rfl⟩
      have fM8 : M8.2 c = M6.2 c := by rw [← eM8]; exact (ef2_X12_copies _ _ _ _ _ (by omega))
      rw [show et_X12_on M line what = (r7, M8) from by simp only [et_X12_on, er1, if_neg c2, er3, if_pos c4, eM5, eM6, er7, eM8]]
      show M8.2 c = M.2 c
      exact (fM8).trans ((fM6).trans (fM5))
    · skip
      rw [show et_X12_on M line what = ((-9223372036854775808 : Int64), M) from by simp only [et_X12_on, er1, if_neg c2, er3, if_neg c4]]
      all_goals rfl
theorem ef1_X12_see  (M : em_M) (place : Int32) (v : Int32) {c : Nat} (h : c < 118 ∨ 131 < c) : (et_X12_see M place v).2.1 c = M.1 c := by
  by_cases c1 : place = (-1 : Int32)
  · skip
    obtain ⟨M8, eM8⟩ : ∃ z, em_pI M 119 ((25 : Int32)).toNatClampNeg (0 : Int32) = z := ⟨_, rfl⟩
    have fM8 : M8.1 c = M.1 c := by rw [← eM8]; exact ef_pI' _ _ _ _ (by omega)
    rw [show et_X12_see M place v = ((0 : Int32), M8) from by simp only [et_X12_see, if_pos c1, eM8]]
    show M8.1 c = M.1 c
    exact fM8
  · skip
    obtain ⟨r2, er2⟩ : ∃ z, et_X12_in M ((place).toInt64) (0 : Int64) (39 : Int64) = z := ⟨_, rfl⟩
    by_cases c3 : r2 = 0
    · skip
      rw [show et_X12_see M place v = ((-2 : Int32), M) from by simp only [et_X12_see, if_neg c1, er2, if_pos c3]]
      all_goals rfl
    · skip
      by_cases c4 : (M.1 119 ((25 : Int32)).toNatClampNeg) = (5 : Int32)
      · skip
        rw [show et_X12_see M place v = ((-4 : Int32), M) from by simp only [et_X12_see, if_neg c1, er2, if_neg c3, if_pos c4]]
        all_goals rfl
      · skip
        obtain ⟨M5, eM5⟩ : ∃ z, em_pI M 119 (((28 : Int32) + ((2 : Int32) * (M.1 119 ((25 : Int32)).toNatClampNeg)))).toNatClampNeg place = z := ⟨_, rfl⟩
        have fM5 : M5.1 c = M.1 c := by rw [← eM5]; exact ef_pI' _ _ _ _ (by omega)
        obtain ⟨M6, eM6⟩ : ∃ z, em_pI M5 119 ((((28 : Int32) + ((2 : Int32) * (M.1 119 ((25 : Int32)).toNatClampNeg))) + (1 : Int32))).toNatClampNeg v = z := ⟨_, rfl⟩
        have fM6 : M6.1 c = M5.1 c := by rw [← eM6]; exact ef_pI' _ _ _ _ (by omega)
        obtain ⟨M7, eM7⟩ : ∃ z, em_pI M6 119 ((25 : Int32)).toNatClampNeg ((M.1 119 ((25 : Int32)).toNatClampNeg) + (1 : Int32)) = z := ⟨_, rfl⟩
        have fM7 : M7.1 c = M6.1 c := by rw [← eM7]; exact ef_pI' _ _ _ _ (by omega)
        rw [show et_X12_see M place v = (((M.1 119 ((25 : Int32)).toNatClampNeg) + (1 : Int32)), M7) from by simp only [et_X12_see, if_neg c1, er2, if_neg c3, if_neg c4, eM5, eM6, eM7]]
        show M7.1 c = M.1 c
        exact (fM7).trans ((fM6).trans (fM5))
theorem ef2_X12_see  (M : em_M) (place : Int32) (v : Int32) {c : Nat} (h : c < 118 ∨ 131 < c) : (et_X12_see M place v).2.2 c = M.2 c := by
  by_cases c1 : place = (-1 : Int32)
  · skip
    obtain ⟨M8, eM8⟩ : ∃ z, em_pI M 119 ((25 : Int32)).toNatClampNeg (0 : Int32) = z := ⟨_, rfl⟩
    have fM8 : M8.2 c = M.2 c := by rw [← eM8]; exact rfl
    rw [show et_X12_see M place v = ((0 : Int32), M8) from by simp only [et_X12_see, if_pos c1, eM8]]
    show M8.2 c = M.2 c
    exact fM8
  · skip
    obtain ⟨r2, er2⟩ : ∃ z, et_X12_in M ((place).toInt64) (0 : Int64) (39 : Int64) = z := ⟨_, rfl⟩
    by_cases c3 : r2 = 0
    · skip
      rw [show et_X12_see M place v = ((-2 : Int32), M) from by simp only [et_X12_see, if_neg c1, er2, if_pos c3]]
      all_goals rfl
    · skip
      by_cases c4 : (M.1 119 ((25 : Int32)).toNatClampNeg) = (5 : Int32)
      · skip
        rw [show et_X12_see M place v = ((-4 : Int32), M) from by simp only [et_X12_see, if_neg c1, er2, if_neg c3, if_pos c4]]
        all_goals rfl
      · skip
        obtain ⟨M5, eM5⟩ : ∃ z, em_pI M 119 (((28 : Int32) + ((2 : Int32) * (M.1 119 ((25 : Int32)).toNatClampNeg)))).toNatClampNeg place = z := ⟨_, rfl⟩
        have fM5 : M5.2 c = M.2 c := by rw [← eM5]; exact rfl
        obtain ⟨M6, eM6⟩ : ∃ z, em_pI M5 119 ((((28 : Int32) + ((2 : Int32) * (M.1 119 ((25 : Int32)).toNatClampNeg))) + (1 : Int32))).toNatClampNeg v = z := ⟨_, rfl⟩
        have fM6 : M6.2 c = M5.2 c := by rw [← eM6]; exact rfl
        obtain ⟨M7, eM7⟩ : ∃ z, em_pI M6 119 ((25 : Int32)).toNatClampNeg ((M.1 119 ((25 : Int32)).toNatClampNeg) + (1 : Int32)) = z := ⟨_, rfl⟩
        have fM7 : M7.2 c = M6.2 c := by rw [← eM7]; exact rfl
        rw [show et_X12_see M place v = (((M.1 119 ((25 : Int32)).toNatClampNeg) + (1 : Int32)), M7) from by simp only [et_X12_see, if_neg c1, er2, if_neg c3, if_neg c4, eM5, eM6, eM7]]
        show M7.2 c = M.2 c
        exact (fM7).trans ((fM6).trans (fM5))
theorem ef1_X12_fits_49    {c : Nat} (h : c < 118 ∨ 131 < c) : ∀ (fu : Nat) (M : em_M) (line : Int32) (name : Int32) (what : Int32) (n : Int32) (least : Int32) (v : Int32), (et_X12_fits_49  fu M line name what n least v).2.1 c = M.1 c := by
  intro fu
  induction fu with
  | zero => intros; rfl
  | succ fu ih =>
    intro M line name what n least v
    by_cases c8 : v < 0
    · skip
      by_cases c9 : what = 0
      · skip
        rw [show et_X12_fits_49  (fu + 1) M line name what n least v = (n, M) from by simp only [et_X12_fits_49, if_pos c8, if_pos c9]]
        all_goals rfl
      · skip
        rw [show et_X12_fits_49  (fu + 1) M line name what n least v = (least, M) from by simp only [et_X12_fits_49, if_pos c8, if_neg c9]]
        all_goals rfl
    · skip
      obtain ⟨M10, eM10⟩ : ∃ z, em_pI M 119 (((0 : Int32) + name)).toNatClampNeg v = z := ⟨_, rfl⟩
      have fM10 : M10.1 c = M.1 c := by rw [← eM10]; exact ef_pI' _ _ _ _ (by omega)
      obtain ⟨M11, eM11⟩ : ∃ z, et_X12_runs M10 line = z := ⟨_, rfl⟩
      have fM11 : M11.1 c = M10.1 c := by rw [← eM11]; exact (ef1_X12_runs _ _ (by omega))
      obtain ⟨r12, er12⟩ : ∃ z, et_X12_isSeen M11 = z := ⟨_, rfl⟩
      by_cases c13 : r12 = 0
      · skip
        obtain ⟨M14, eM14⟩ : ∃ z, et_X12_copies 120 5880 119 5880 M11 = z := ⟨_, rfl⟩
        have fM14 : M14.1 c = M11.1 c := by rw [← eM14]; exact (ef1_X12_copies _ _ _ _ _ (by omega))
        rw [show et_X12_fits_49  (fu + 1) M line name what n least v = et_X12_fits_49 fu M14 line name what n least (v + (-1 : Int32)) from by simp only [et_X12_fits_49, if_neg c8, eM10, eM11, er12, if_pos c13, eM14]]
        exact (ih _ _ _ _ _ _ _).trans ((fM14).trans ((fM11).trans (fM10)))
      · skip
        obtain ⟨M15, eM15⟩ : ∃ z, et_X12_copies 120 5880 119 5880 M11 = z := ⟨_, rfl⟩
        have fM15 : M15.1 c = M11.1 c := by rw [← eM15]; exact (ef1_X12_copies _ _ _ _ _ (by omega))
        rw [show et_X12_fits_49  (fu + 1) M line name what n least v = et_X12_fits_49 fu M15 line name what (n + (1 : Int32)) v (v + (-1 : Int32)) from by simp only [et_X12_fits_49, if_neg c8, eM10, eM11, er12, if_neg c13, eM15]]
        exact (ih _ _ _ _ _ _ _).trans ((fM15).trans ((fM11).trans (fM10)))
theorem ef2_X12_fits_49    {c : Nat} (h : c < 118 ∨ 131 < c) : ∀ (fu : Nat) (M : em_M) (line : Int32) (name : Int32) (what : Int32) (n : Int32) (least : Int32) (v : Int32), (et_X12_fits_49  fu M line name what n least v).2.2 c = M.2 c := by
  intro fu
  induction fu with
  | zero => intros; rfl
  | succ fu ih =>
    intro M line name what n least v
    by_cases c8 : v < 0
    · skip
      by_cases c9 : what = 0
      · skip
        rw [show et_X12_fits_49  (fu + 1) M line name what n least v = (n, M) from by simp only [et_X12_fits_49, if_pos c8, if_pos c9]]
        all_goals rfl
      · skip
        rw [show et_X12_fits_49  (fu + 1) M line name what n least v = (least, M) from by simp only [et_X12_fits_49, if_pos c8, if_neg c9]]
        all_goals rfl
    · skip
      obtain ⟨M10, eM10⟩ : ∃ z, em_pI M 119 (((0 : Int32) + name)).toNatClampNeg v = z := ⟨_, rfl⟩
      have fM10 : M10.2 c = M.2 c := by rw [← eM10]; exact rfl
      obtain ⟨M11, eM11⟩ : ∃ z, et_X12_runs M10 line = z := ⟨_, rfl⟩
      have fM11 : M11.2 c = M10.2 c := by rw [← eM11]; exact (ef2_X12_runs _ _ (by omega))
      obtain ⟨r12, er12⟩ : ∃ z, et_X12_isSeen M11 = z := ⟨_, rfl⟩
      by_cases c13 : r12 = 0
      · skip
        obtain ⟨M14, eM14⟩ : ∃ z, et_X12_copies 120 5880 119 5880 M11 = z := ⟨_, rfl⟩
        have fM14 : M14.2 c = M11.2 c := by rw [← eM14]; exact (ef2_X12_copies _ _ _ _ _ (by omega))
        rw [show et_X12_fits_49  (fu + 1) M line name what n least v = et_X12_fits_49 fu M14 line name what n least (v + (-1 : Int32)) from by simp only [et_X12_fits_49, if_neg c8, eM10, eM11, er12, if_pos c13, eM14]]
        exact (ih _ _ _ _ _ _ _).trans ((fM14).trans ((fM11).trans (fM10)))
      · skip
        obtain ⟨M15, eM15⟩ : ∃ z, et_X12_copies 120 5880 119 5880 M11 = z := ⟨_, rfl⟩
        have fM15 : M15.2 c = M11.2 c := by rw [← eM15]; exact (ef2_X12_copies _ _ _ _ _ (by omega))
        rw [show et_X12_fits_49  (fu + 1) M line name what n least v = et_X12_fits_49 fu M15 line name what (n + (1 : Int32)) v (v + (-1 : Int32)) from by simp only [et_X12_fits_49, if_neg c8, eM10, eM11, er12, if_neg c13, eM15]]
        exact (ih _ _ _ _ _ _ _).trans ((fM15).trans ((fM11).trans (fM10)))
theorem ef1_X12_fits  (M : em_M) (line : Int32) (name : Int32) (what : Int32) {c : Nat} (h : c < 118 ∨ 131 < c) : (et_X12_fits M line name what).2.1 c = M.1 c := by
  obtain ⟨r1, er1⟩ : ∃ z, et_X12_isLine M line = z := ⟨_, rfl⟩
  by_cases c2 : r1 = 0
  · skip
    rw [show et_X12_fits M line name what = ((-1 : Int32), M) from by simp only [et_X12_fits, er1, if_pos c2]]
    all_goals rfl
  · skip
    obtain ⟨r3, er3⟩ : ∃ z, et_X12_isName M name = z := ⟨_, rfl⟩
    by_cases c4 : r3 = 0
    · skip
      rw [show et_X12_fits M line name what = ((-1 : Int32), M) from by simp only [et_X12_fits, er1, if_neg c2, er3, if_pos c4]]
      all_goals rfl
    · skip
      obtain ⟨r5, er5⟩ : ∃ z, et_X12_in M ((what).toInt64) (0 : Int64) (1 : Int64) = z := ⟨_, rfl⟩
      by_cases c6 : r5 = 0
      · skip
        rw [show et_X12_fits M line name what = ((-1 : Int32), M) from by simp only [et_X12_fits, er1, if_neg c2, er3, if_neg c4, er5, if_pos c6]]
        all_goals rfl
      · skip
        obtain ⟨M7, eM7⟩ : ∃ z, et_X12_copies 119 5880 120 5880 M = z := ⟨_, rfl⟩
        have fM7 : M7.1 c = M.1 c := by rw [← eM7]; exact (ef1_X12_copies _ _ _ _ _ (by omega))
        rw [show et_X12_fits M line name what = et_X12_fits_49 21 M7 line name what (0 : Int32) (-5 : Int32) (19 : Int32) from by simp only [et_X12_fits, er1, if_neg c2, er3, if_neg c4, er5, if_neg c6, eM7]]
        exact ((ef1_X12_fits_49  (by omega) _ _ _ _ _ _ _ _)).trans (fM7)
theorem ef2_X12_fits  (M : em_M) (line : Int32) (name : Int32) (what : Int32) {c : Nat} (h : c < 118 ∨ 131 < c) : (et_X12_fits M line name what).2.2 c = M.2 c := by
  obtain ⟨r1, er1⟩ : ∃ z, et_X12_isLine M line = z := ⟨_, rfl⟩
  by_cases c2 : r1 = 0
  · skip
    rw [show et_X12_fits M line name what = ((-1 : Int32), M) from by simp only [et_X12_fits, er1, if_pos c2]]
    all_goals rfl
  · skip
    obtain ⟨r3, er3⟩ : ∃ z, et_X12_isName M name = z := ⟨_, rfl⟩
    by_cases c4 : r3 = 0
    · skip
      rw [show et_X12_fits M line name what = ((-1 : Int32), M) from by simp only [et_X12_fits, er1, if_neg c2, er3, if_pos c4]]
      all_goals rfl
    · skip
      obtain ⟨r5, er5⟩ : ∃ z, et_X12_in M ((what).toInt64) (0 : Int64) (1 : Int64) = z := ⟨_, rfl⟩
      by_cases c6 : r5 = 0
      · skip
        rw [show et_X12_fits M line name what = ((-1 : Int32), M) from by simp only [et_X12_fits, er1, if_neg c2, er3, if_neg c4, er5, if_pos c6]]
        all_goals rfl
      · skip
        obtain ⟨M7, eM7⟩ : ∃ z, et_X12_copies 119 5880 120 5880 M = z := ⟨_, rfl⟩
        have fM7 : M7.2 c = M.2 c := by rw [← eM7]; exact (ef2_X12_copies _ _ _ _ _ (by omega))
        rw [show et_X12_fits M line name what = et_X12_fits_49 21 M7 line name what (0 : Int32) (-5 : Int32) (19 : Int32) from by simp only [et_X12_fits, er1, if_neg c2, er3, if_neg c4, er5, if_neg c6, eM7]]
        exact ((ef2_X12_fits_49  (by omega) _ _ _ _ _ _ _ _)).trans (fM7)
theorem ef1_X12_alike_169    {c : Nat} (h : c < 118 ∨ 131 < c) : ∀ (fu : Nat) (M : em_M) (same : Int32) (k : Int32), (et_X12_alike_169  fu M same k).2.1 c = M.1 c := by
  intro fu
  induction fu with
  | zero => intros; rfl
  | succ fu ih =>
    intro M same k
    by_cases c12 : (M.1 119 ((12 : Int32)).toNatClampNeg) ≤ k
    · skip
      obtain ⟨M13, eM13⟩ : ∃ z, et_X12_copies 120 5880 119 5880 M = z := ⟨_, rfl⟩
      have fM13 : M13.1 c = M.1 c := by rw [← eM13]; exact (ef1_X12_copies _ _ _ _ _ (by omega))
      by_cases c14 : same = 0
      · skip
        rw [show et_X12_alike_169  (fu + 1) M same k = ((0 : Int32), M13) from by simp only [et_X12_alike_169, if_pos c12, eM13, if_pos c14]]
        show M13.1 c = M.1 c
        exact fM13
      · skip
        rw [show et_X12_alike_169  (fu + 1) M same k = ((1 : Int32), M13) from by simp only [et_X12_alike_169, if_pos c12, eM13, if_neg c14]]
        show M13.1 c = M.1 c
        exact fM13
    · skip
      by_cases c15 : same = 0
      · skip
        rw [show et_X12_alike_169  (fu + 1) M same k = et_X12_alike_169 fu M (0 : Int32) (k + (1 : Int32)) from by simp only [et_X12_alike_169, if_neg c12, if_pos c15]]
        exact ih _ _ _
      · skip
        by_cases c16 : (M.1 119 (((74 : Int32) + k)).toNatClampNeg) = (M.1 128 (((74 : Int32) + k)).toNatClampNeg)
        · skip
          rw [show et_X12_alike_169  (fu + 1) M same k = et_X12_alike_169 fu M (1 : Int32) (k + (1 : Int32)) from by simp only [et_X12_alike_169, if_neg c12, if_neg c15, if_pos c16]]
          exact ih _ _ _
        · skip
          rw [show et_X12_alike_169  (fu + 1) M same k = et_X12_alike_169 fu M (0 : Int32) (k + (1 : Int32)) from by simp only [et_X12_alike_169, if_neg c12, if_neg c15, if_neg c16]]
          exact ih _ _ _
theorem ef2_X12_alike_169    {c : Nat} (h : c < 118 ∨ 131 < c) : ∀ (fu : Nat) (M : em_M) (same : Int32) (k : Int32), (et_X12_alike_169  fu M same k).2.2 c = M.2 c := by
  intro fu
  induction fu with
  | zero => intros; rfl
  | succ fu ih =>
    intro M same k
    by_cases c12 : (M.1 119 ((12 : Int32)).toNatClampNeg) ≤ k
    · skip
      obtain ⟨M13, eM13⟩ : ∃ z, et_X12_copies 120 5880 119 5880 M = z := ⟨_, rfl⟩
      have fM13 : M13.2 c = M.2 c := by rw [← eM13]; exact (ef2_X12_copies _ _ _ _ _ (by omega))
      by_cases c14 : same = 0
      · skip
        rw [show et_X12_alike_169  (fu + 1) M same k = ((0 : Int32), M13) from by simp only [et_X12_alike_169, if_pos c12, eM13, if_pos c14]]
        show M13.2 c = M.2 c
        exact fM13
      · skip
        rw [show et_X12_alike_169  (fu + 1) M same k = ((1 : Int32), M13) from by simp only [et_X12_alike_169, if_pos c12, eM13, if_neg c14]]
        show M13.2 c = M.2 c
        exact fM13
    · skip
      by_cases c15 : same = 0
      · skip
        rw [show et_X12_alike_169  (fu + 1) M same k = et_X12_alike_169 fu M (0 : Int32) (k + (1 : Int32)) from by simp only [et_X12_alike_169, if_neg c12, if_pos c15]]
        exact ih _ _ _
      · skip
        by_cases c16 : (M.1 119 (((74 : Int32) + k)).toNatClampNeg) = (M.1 128 (((74 : Int32) + k)).toNatClampNeg)
        · skip
          rw [show et_X12_alike_169  (fu + 1) M same k = et_X12_alike_169 fu M (1 : Int32) (k + (1 : Int32)) from by simp only [et_X12_alike_169, if_neg c12, if_neg c15, if_pos c16]]
          exact ih _ _ _
        · skip
          rw [show et_X12_alike_169  (fu + 1) M same k = et_X12_alike_169 fu M (0 : Int32) (k + (1 : Int32)) from by simp only [et_X12_alike_169, if_neg c12, if_neg c15, if_neg c16]]
          exact ih _ _ _
theorem ef1_X12_alike  (M : em_M) (line : Int32) (second : Int32) {c : Nat} (h : c < 118 ∨ 131 < c) : (et_X12_alike M line second).2.1 c = M.1 c := by
  obtain ⟨r1, er1⟩ : ∃ z, et_X12_isLine M line = z := ⟨_, rfl⟩
  by_cases c2 : r1 = 0
  · skip
    rw [show et_X12_alike M line second = ((-1 : Int32), M) from by simp only [et_X12_alike, er1, if_pos c2]]
    all_goals rfl
  · skip
    obtain ⟨r3, er3⟩ : ∃ z, et_X12_isLine M second = z := ⟨_, rfl⟩
    by_cases c4 : r3 = 0
    · skip
      rw [show et_X12_alike M line second = ((-1 : Int32), M) from by simp only [et_X12_alike, er1, if_neg c2, er3, if_pos c4]]
      all_goals rfl
    · skip
      obtain ⟨M5, eM5⟩ : ∃ z, et_X12_copies 119 5880 120 5880 M = z := ⟨_, rfl⟩
      have fM5 : M5.1 c = M.1 c := by rw [← eM5]; exact (ef1_X12_copies _ _ _ _ _ (by omega))
      obtain ⟨M6, eM6⟩ : ∃ z, et_X12_runs M5 line = z := ⟨_, rfl⟩
      have fM6 : M6.1 c = M5.1 c := by rw [← eM6]; exact (ef1_X12_runs _ _ (by omega))
      obtain ⟨M7, eM7⟩ : ∃ z, et_X12_copies 119 5880 128 5880 M6 = z := ⟨_, rfl⟩
      have fM7 : M7.1 c = M6.1 c := by rw [← eM7]; exact (ef1_X12_copies _ _ _ _ _ (by omega))
      obtain ⟨M8, eM8⟩ : ∃ z, et_X12_copies 120 5880 119 5880 M7 = z := ⟨_, rfl⟩
      have fM8 : M8.1 c = M7.1 c := by rw [← eM8]; exact (ef1_X12_copies _ _ _ _ _ (by omega))
      obtain ⟨M9, eM9⟩ : ∃ z, et_X12_runs M8 second = z := ⟨_, rfl⟩
      have fM9 : M9.1 c = M8.1 c := by rw [← eM9]; exact (ef1_X12_runs _ _ (by omega))
      by_cases c10 : (M9.1 119 ((7 : Int32)).toNatClampNeg) = (M9.1 128 ((7 : Int32)).toNatClampNeg)
      · skip
        by_cases c17 : (M9.1 119 ((12 : Int32)).toNatClampNeg) = (M9.1 128 ((12 : Int32)).toNatClampNeg)
        · skip
          by_cases c19 : (M9.1 119 ((7 : Int32)).toNatClampNeg) = 0
          · skip
            by_cases c20 : (M9.1 119 ((8 : Int32)).toNatClampNeg) = (M9.1 128 ((8 : Int32)).toNatClampNeg)
            · skip
              by_cases c21 : (M9.1 119 ((8 : Int32)).toNatClampNeg) = (1 : Int32)
              · skip
                rw [show et_X12_alike M line second = et_X12_alike_169 42 M9 (1 : Int32) (0 : Int32) from by simp only [et_X12_alike, er1, if_neg c2, er3, if_neg c4, eM5, eM6, eM7, eM8, eM9, if_pos c10, if_pos c17, if_pos c19, if_pos c20, if_pos c21]]
                exact ((ef1_X12_alike_169  (by omega) _ _ _ _)).trans ((fM9).trans ((fM8).trans ((fM7).trans ((fM6).trans (fM5)))))
              · skip
                by_cases c22 : (M9.1 119 ((9 : Int32)).toNatClampNeg) = (M9.1 128 ((9 : Int32)).toNatClampNeg)
                · skip
                  rw [show et_X12_alike M line second = et_X12_alike_169 42 M9 (1 : Int32) (0 : Int32) from by simp only [et_X12_alike, er1, if_neg c2, er3, if_neg c4, eM5, eM6, eM7, eM8, eM9, if_pos c10, if_pos c17, if_pos c19, if_pos c20, if_neg c21, if_pos c22]]
                  exact ((ef1_X12_alike_169  (by omega) _ _ _ _)).trans ((fM9).trans ((fM8).trans ((fM7).trans ((fM6).trans (fM5)))))
                · skip
                  rw [show et_X12_alike M line second = et_X12_alike_169 42 M9 (0 : Int32) (0 : Int32) from by simp only [et_X12_alike, er1, if_neg c2, er3, if_neg c4, eM5, eM6, eM7, eM8, eM9, if_pos c10, if_pos c17, if_pos c19, if_pos c20, if_neg c21, if_neg c22]]
                  exact ((ef1_X12_alike_169  (by omega) _ _ _ _)).trans ((fM9).trans ((fM8).trans ((fM7).trans ((fM6).trans (fM5)))))
            · skip
              rw [show et_X12_alike M line second = et_X12_alike_169 42 M9 (0 : Int32) (0 : Int32) from by simp only [et_X12_alike, er1, if_neg c2, er3, if_neg c4, eM5, eM6, eM7, eM8, eM9, if_pos c10, if_pos c17, if_pos c19, if_neg c20]]
              exact ((ef1_X12_alike_169  (by omega) _ _ _ _)).trans ((fM9).trans ((fM8).trans ((fM7).trans ((fM6).trans (fM5)))))
          · skip
            rw [show et_X12_alike M line second = et_X12_alike_169 42 M9 (1 : Int32) (0 : Int32) from by simp only [et_X12_alike, er1, if_neg c2, er3, if_neg c4, eM5, eM6, eM7, eM8, eM9, if_pos c10, if_pos c17, if_neg c19]]
            exact ((ef1_X12_alike_169  (by omega) _ _ _ _)).trans ((fM9).trans ((fM8).trans ((fM7).trans ((fM6).trans (fM5)))))
        · skip
          by_cases c18 : (M9.1 119 ((7 : Int32)).toNatClampNeg) = 0
          · skip
            rw [show et_X12_alike M line second = et_X12_alike_169 42 M9 (0 : Int32) (0 : Int32) from by simp only [et_X12_alike, er1, if_neg c2, er3, if_neg c4, eM5, eM6, eM7, eM8, eM9, if_pos c10, if_neg c17, if_pos c18]]
            exact ((ef1_X12_alike_169  (by omega) _ _ _ _)).trans ((fM9).trans ((fM8).trans ((fM7).trans ((fM6).trans (fM5)))))
          · skip
            rw [show et_X12_alike M line second = et_X12_alike_169 42 M9 (0 : Int32) (0 : Int32) from by simp only [et_X12_alike, er1, if_neg c2, er3, if_neg c4, eM5, eM6, eM7, eM8, eM9, if_pos c10, if_neg c17, if_neg c18]]
            exact ((ef1_X12_alike_169  (by omega) _ _ _ _)).trans ((fM9).trans ((fM8).trans ((fM7).trans ((fM6).trans (fM5)))))
      · skip
        by_cases c11 : (M9.1 119 ((7 : Int32)).toNatClampNeg) = 0
        · skip
          rw [show et_X12_alike M line second = et_X12_alike_169 42 M9 (0 : Int32) (0 : Int32) from by simp only [et_X12_alike, er1, if_neg c2, er3, if_neg c4, eM5, eM6, eM7, eM8, eM9, if_neg c10, if_pos c11]]
          exact ((ef1_X12_alike_169  (by omega) _ _ _ _)).trans ((fM9).trans ((fM8).trans ((fM7).trans ((fM6).trans (fM5)))))
        · skip
          rw [show et_X12_alike M line second = et_X12_alike_169 42 M9 (0 : Int32) (0 : Int32) from by simp only [et_X12_alike, er1, if_neg c2, er3, if_neg c4, eM5, eM6, eM7, eM8, eM9, if_neg c10, if_neg c11]]
          exact ((ef1_X12_alike_169  (by omega) _ _ _ _)).trans ((fM9).trans ((fM8).trans ((fM7).trans ((fM6).trans (fM5)))))
theorem ef2_X12_alike  (M : em_M) (line : Int32) (second : Int32) {c : Nat} (h : c < 118 ∨ 131 < c) : (et_X12_alike M line second).2.2 c = M.2 c := by
  obtain ⟨r1, er1⟩ : ∃ z, et_X12_isLine M line = z := ⟨_, rfl⟩
  by_cases c2 : r1 = 0
  · skip
    rw [show et_X12_alike M line second = ((-1 : Int32), M) from by simp only [et_X12_alike, er1, if_pos c2]]
    all_goals rfl
  · skip
    obtain ⟨r3, er3⟩ : ∃ z, et_X12_isLine M second = z := ⟨_, rfl⟩
    by_cases c4 : r3 = 0
    · skip
      rw [show et_X12_alike M line second = ((-1 : Int32), M) from by simp only [et_X12_alike, er1, if_neg c2, er3, if_pos c4]]
      all_goals rfl
    · skip
      obtain ⟨M5, eM5⟩ : ∃ z, et_X12_copies 119 5880 120 5880 M = z := ⟨_, rfl⟩
      have fM5 : M5.2 c = M.2 c := by rw [← eM5]; exact (ef2_X12_copies _ _ _ _ _ (by omega))
      obtain ⟨M6, eM6⟩ : ∃ z, et_X12_runs M5 line = z := ⟨_, rfl⟩
      have fM6 : M6.2 c = M5.2 c := by rw [← eM6]; exact (ef2_X12_runs _ _ (by omega))
      obtain ⟨M7, eM7⟩ : ∃ z, et_X12_copies 119 5880 128 5880 M6 = z := ⟨_, rfl⟩
      have fM7 : M7.2 c = M6.2 c := by rw [← eM7]; exact (ef2_X12_copies _ _ _ _ _ (by omega))
      obtain ⟨M8, eM8⟩ : ∃ z, et_X12_copies 120 5880 119 5880 M7 = z := ⟨_, rfl⟩
      have fM8 : M8.2 c = M7.2 c := by rw [← eM8]; exact (ef2_X12_copies _ _ _ _ _ (by omega))
      obtain ⟨M9, eM9⟩ : ∃ z, et_X12_runs M8 second = z := ⟨_, rfl⟩
      have fM9 : M9.2 c = M8.2 c := by rw [← eM9]; exact (ef2_X12_runs _ _ (by omega))
      by_cases c10 : (M9.1 119 ((7 : Int32)).toNatClampNeg) = (M9.1 128 ((7 : Int32)).toNatClampNeg)
      · skip
        by_cases c17 : (M9.1 119 ((12 : Int32)).toNatClampNeg) = (M9.1 128 ((12 : Int32)).toNatClampNeg)
        · skip
          by_cases c19 : (M9.1 119 ((7 : Int32)).toNatClampNeg) = 0
          · skip
            by_cases c20 : (M9.1 119 ((8 : Int32)).toNatClampNeg) = (M9.1 128 ((8 : Int32)).toNatClampNeg)
            · skip
              by_cases c21 : (M9.1 119 ((8 : Int32)).toNatClampNeg) = (1 : Int32)
              · skip
                rw [show et_X12_alike M line second = et_X12_alike_169 42 M9 (1 : Int32) (0 : Int32) from by simp only [et_X12_alike, er1, if_neg c2, er3, if_neg c4, eM5, eM6, eM7, eM8, eM9, if_pos c10, if_pos c17, if_pos c19, if_pos c20, if_pos c21]]
                exact ((ef2_X12_alike_169  (by omega) _ _ _ _)).trans ((fM9).trans ((fM8).trans ((fM7).trans ((fM6).trans (fM5)))))
              · skip
                by_cases c22 : (M9.1 119 ((9 : Int32)).toNatClampNeg) = (M9.1 128 ((9 : Int32)).toNatClampNeg)
                · skip
                  rw [show et_X12_alike M line second = et_X12_alike_169 42 M9 (1 : Int32) (0 : Int32) from by simp only [et_X12_alike, er1, if_neg c2, er3, if_neg c4, eM5, eM6, eM7, eM8, eM9, if_pos c10, if_pos c17, if_pos c19, if_pos c20, if_neg c21, if_pos c22]]
                  exact ((ef2_X12_alike_169  (by omega) _ _ _ _)).trans ((fM9).trans ((fM8).trans ((fM7).trans ((fM6).trans (fM5)))))
                · skip
                  rw [show et_X12_alike M line second = et_X12_alike_169 42 M9 (0 : Int32) (0 : Int32) from by simp only [et_X12_alike, er1, if_neg c2, er3, if_neg c4, eM5, eM6, eM7, eM8, eM9, if_pos c10, if_pos c17, if_pos c19, if_pos c20, if_neg c21, if_neg c22]]
                  exact ((ef2_X12_alike_169  (by omega) _ _ _ _)).trans ((fM9).trans ((fM8).trans ((fM7).trans ((fM6).trans (fM5)))))
            · skip
              rw [show et_X12_alike M line second = et_X12_alike_169 42 M9 (0 : Int32) (0 : Int32) from by simp only [et_X12_alike, er1, if_neg c2, er3, if_neg c4, eM5, eM6, eM7, eM8, eM9, if_pos c10, if_pos c17, if_pos c19, if_neg c20]]
              exact ((ef2_X12_alike_169  (by omega) _ _ _ _)).trans ((fM9).trans ((fM8).trans ((fM7).trans ((fM6).trans (fM5)))))
          · skip
            rw [show et_X12_alike M line second = et_X12_alike_169 42 M9 (1 : Int32) (0 : Int32) from by simp only [et_X12_alike, er1, if_neg c2, er3, if_neg c4, eM5, eM6, eM7, eM8, eM9, if_pos c10, if_pos c17, if_neg c19]]
            exact ((ef2_X12_alike_169  (by omega) _ _ _ _)).trans ((fM9).trans ((fM8).trans ((fM7).trans ((fM6).trans (fM5)))))
        · skip
          by_cases c18 : (M9.1 119 ((7 : Int32)).toNatClampNeg) = 0
          · skip
            rw [show et_X12_alike M line second = et_X12_alike_169 42 M9 (0 : Int32) (0 : Int32) from by simp only [et_X12_alike, er1, if_neg c2, er3, if_neg c4, eM5, eM6, eM7, eM8, eM9, if_pos c10, if_neg c17, if_pos c18]]
            exact ((ef2_X12_alike_169  (by omega) _ _ _ _)).trans ((fM9).trans ((fM8).trans ((fM7).trans ((fM6).trans (fM5)))))
          · skip
            rw [show et_X12_alike M line second = et_X12_alike_169 42 M9 (0 : Int32) (0 : Int32) from by simp only [et_X12_alike, er1, if_neg c2, er3, if_neg c4, eM5, eM6, eM7, eM8, eM9, if_pos c10, if_neg c17, if_neg c18]]
            exact ((ef2_X12_alike_169  (by omega) _ _ _ _)).trans ((fM9).trans ((fM8).trans ((fM7).trans ((fM6).trans (fM5)))))
      · skip
        by_cases c11 : (M9.1 119 ((7 : Int32)).toNatClampNeg) = 0
        · skip
          rw [show et_X12_alike M line second = et_X12_alike_169 42 M9 (0 : Int32) (0 : Int32) from by simp only [et_X12_alike, er1, if_neg c2, er3, if_neg c4, eM5, eM6, eM7, eM8, eM9, if_neg c10, if_pos c11]]
          exact ((ef2_X12_alike_169  (by omega) _ _ _ _)).trans ((fM9).trans ((fM8).trans ((fM7).trans ((fM6).trans (fM5)))))
        · skip
          rw [show et_X12_alike M line second = et_X12_alike_169 42 M9 (0 : Int32) (0 : Int32) from by simp only [et_X12_alike, er1, if_neg c2, er3, if_neg c4, eM5, eM6, eM7, eM8, eM9, if_neg c10, if_neg c11]]
          exact ((ef2_X12_alike_169  (by omega) _ _ _ _)).trans ((fM9).trans ((fM8).trans ((fM7).trans ((fM6).trans (fM5)))))
theorem ef1_X12_odds_46    {c : Nat} (h : c < 118 ∨ 131 < c) : ∀ (fu : Nat) (M : em_M) (line : Int32) (name : Int32) (part : Int32) (so : Int64) (v : Int32), (et_X12_odds_46  fu M line name part so v).2.1 c = M.1 c := by
  intro fu
  induction fu with
  | zero => intros; rfl
  | succ fu ih =>
    intro M line name part so v
    by_cases c8 : (10 : Int32) ≤ v
    · skip
      obtain ⟨r9, er9⟩ : ∃ z, et_X12_lowest M so (10 : Int64) part = z := ⟨_, rfl⟩
      rw [show et_X12_odds_46  (fu + 1) M line name part so v = (r9, M) from by simp only [et_X12_odds_46, if_pos c8, er9]]
      all_goals rfl
    · skip
      obtain ⟨M10, eM10⟩ : ∃ z, em_pI M 119 (((0 : Int32) + name)).toNatClampNeg v = z := ⟨_, rfl⟩
      have fM10 : M10.1 c = M.1 c := by rw [← eM10]; exact ef_pI' _ _ _ _ (by omega)
      obtain ⟨M11, eM11⟩ : ∃ z, et_X12_runs M10 line = z := ⟨_, rfl⟩
      have fM11 : M11.1 c = M10.1 c := by rw [← eM11]; exact (ef1_X12_runs _ _ (by omega))
      by_cases c12 : (M11.1 119 ((7 : Int32)).toNatClampNeg) = 0
      · skip
        by_cases c14 : (M11.1 119 ((8 : Int32)).toNatClampNeg) = 0
        · skip
          by_cases c16 : (M11.1 119 ((9 : Int32)).toNatClampNeg) = 0
          · skip
            obtain ⟨M17, eM17⟩ : ∃ z, et_X12_copies 120 5880 119 5880 M11 = z := ⟨_, rfl⟩
            have fM17 : M17.1 c = M11.1 c := by rw [← eM17]; exact (ef1_X12_copies _ _ _ _ _ (by omega))
            rw [show et_X12_odds_46  (fu + 1) M line name part so v = et_X12_odds_46 fu M17 line name part (so + (0 : Int64)) (v + (1 : Int32)) from by simp only [et_X12_odds_46, if_neg c8, eM10, eM11, if_pos c12, if_pos c14, if_pos c16, eM17]]
            exact (ih _ _ _ _ _ _).trans ((fM17).trans ((fM11).trans (fM10)))
          · skip
            obtain ⟨M18, eM18⟩ : ∃ z, et_X12_copies 120 5880 119 5880 M11 = z := ⟨_, rfl⟩
            have fM18 : M18.1 c = M11.1 c := by rw [← eM18]; exact (ef1_X12_copies _ _ _ _ _ (by omega))
            rw [show et_X12_odds_46  (fu + 1) M line name part so v = et_X12_odds_46 fu M18 line name part (so + (1 : Int64)) (v + (1 : Int32)) from by simp only [et_X12_odds_46, if_neg c8, eM10, eM11, if_pos c12, if_pos c14, if_neg c16, eM18]]
            exact (ih _ _ _ _ _ _).trans ((fM18).trans ((fM11).trans (fM10)))
        · skip
          obtain ⟨M15, eM15⟩ : ∃ z, et_X12_copies 120 5880 119 5880 M11 = z := ⟨_, rfl⟩
          have fM15 : M15.1 c = M11.1 c := by rw [← eM15]; exact (ef1_X12_copies _ _ _ _ _ (by omega))
          rw [show et_X12_odds_46  (fu + 1) M line name part so v = et_X12_odds_46 fu M15 line name part (so + (0 : Int64)) (v + (1 : Int32)) from by simp only [et_X12_odds_46, if_neg c8, eM10, eM11, if_pos c12, if_neg c14, eM15]]
          exact (ih _ _ _ _ _ _).trans ((fM15).trans ((fM11).trans (fM10)))
      · skip
        obtain ⟨M13, eM13⟩ : ∃ z, et_X12_copies 120 5880 119 5880 M11 = z := ⟨_, rfl⟩
        have fM13 : M13.1 c = M11.1 c := by rw [← eM13]; exact (ef1_X12_copies _ _ _ _ _ (by omega))
        rw [show et_X12_odds_46  (fu + 1) M line name part so v = et_X12_odds_46 fu M13 line name part (so + (0 : Int64)) (v + (1 : Int32)) from by simp only [et_X12_odds_46, if_neg c8, eM10, eM11, if_neg c12, eM13]]
        exact (ih _ _ _ _ _ _).trans ((fM13).trans ((fM11).trans (fM10)))
theorem ef2_X12_odds_46    {c : Nat} (h : c < 118 ∨ 131 < c) : ∀ (fu : Nat) (M : em_M) (line : Int32) (name : Int32) (part : Int32) (so : Int64) (v : Int32), (et_X12_odds_46  fu M line name part so v).2.2 c = M.2 c := by
  intro fu
  induction fu with
  | zero => intros; rfl
  | succ fu ih =>
    intro M line name part so v
    by_cases c8 : (10 : Int32) ≤ v
    · skip
      obtain ⟨r9, er9⟩ : ∃ z, et_X12_lowest M so (10 : Int64) part = z := ⟨_, rfl⟩
      rw [show et_X12_odds_46  (fu + 1) M line name part so v = (r9, M) from by simp only [et_X12_odds_46, if_pos c8, er9]]
      all_goals rfl
    · skip
      obtain ⟨M10, eM10⟩ : ∃ z, em_pI M 119 (((0 : Int32) + name)).toNatClampNeg v = z := ⟨_, rfl⟩
      have fM10 : M10.2 c = M.2 c := by rw [← eM10]; exact rfl
      obtain ⟨M11, eM11⟩ : ∃ z, et_X12_runs M10 line = z := ⟨_, rfl⟩
      have fM11 : M11.2 c = M10.2 c := by rw [← eM11]; exact (ef2_X12_runs _ _ (by omega))
      by_cases c12 : (M11.1 119 ((7 : Int32)).toNatClampNeg) = 0
      · skip
        by_cases c14 : (M11.1 119 ((8 : Int32)).toNatClampNeg) = 0
        · skip
          by_cases c16 : (M11.1 119 ((9 : Int32)).toNatClampNeg) = 0
          · skip
            obtain ⟨M17, eM17⟩ : ∃ z, et_X12_copies 120 5880 119 5880 M11 = z := ⟨_, rfl⟩
            have fM17 : M17.2 c = M11.2 c := by rw [← eM17]; exact (ef2_X12_copies _ _ _ _ _ (by omega))
            rw [show et_X12_odds_46  (fu + 1) M line name part so v = et_X12_odds_46 fu M17 line name part (so + (0 : Int64)) (v + (1 : Int32)) from by simp only [et_X12_odds_46, if_neg c8, eM10, eM11, if_pos c12, if_pos c14, if_pos c16, eM17]]
            exact (ih _ _ _ _ _ _).trans ((fM17).trans ((fM11).trans (fM10)))
          · skip
            obtain ⟨M18, eM18⟩ : ∃ z, et_X12_copies 120 5880 119 5880 M11 = z := ⟨_, rfl⟩
            have fM18 : M18.2 c = M11.2 c := by rw [← eM18]; exact (ef2_X12_copies _ _ _ _ _ (by omega))
            rw [show et_X12_odds_46  (fu + 1) M line name part so v = et_X12_odds_46 fu M18 line name part (so + (1 : Int64)) (v + (1 : Int32)) from by simp only [et_X12_odds_46, if_neg c8, eM10, eM11, if_pos c12, if_pos c14, if_neg c16, eM18]]
            exact (ih _ _ _ _ _ _).trans ((fM18).trans ((fM11).trans (fM10)))
        · skip
          obtain ⟨M15, eM15⟩ : ∃ z, et_X12_copies 120 5880 119 5880 M11 = z := ⟨_, rfl⟩
          have fM15 : M15.2 c = M11.2 c := by rw [← eM15]; exact (ef2_X12_copies _ _ _ _ _ (by omega))
          rw [show et_X12_odds_46  (fu + 1) M line name part so v = et_X12_odds_46 fu M15 line name part (so + (0 : Int64)) (v + (1 : Int32)) from by simp only [et_X12_odds_46, if_neg c8, eM10, eM11, if_pos c12, if_neg c14, eM15]]
          exact (ih _ _ _ _ _ _).trans ((fM15).trans ((fM11).trans (fM10)))
      · skip
        obtain ⟨M13, eM13⟩ : ∃ z, et_X12_copies 120 5880 119 5880 M11 = z := ⟨_, rfl⟩
        have fM13 : M13.2 c = M11.2 c := by rw [← eM13]; exact (ef2_X12_copies _ _ _ _ _ (by omega))
        rw [show et_X12_odds_46  (fu + 1) M line name part so v = et_X12_odds_46 fu M13 line name part (so + (0 : Int64)) (v + (1 : Int32)) from by simp only [et_X12_odds_46, if_neg c8, eM10, eM11, if_neg c12, eM13]]
        exact (ih _ _ _ _ _ _).trans ((fM13).trans ((fM11).trans (fM10)))
theorem ef1_X12_odds  (M : em_M) (line : Int32) (name : Int32) (part : Int32) {c : Nat} (h : c < 118 ∨ 131 < c) : (et_X12_odds M line name part).2.1 c = M.1 c := by
  obtain ⟨r1, er1⟩ : ∃ z, et_X12_isLine M line = z := ⟨_, rfl⟩
  by_cases c2 : r1 = 0
  · skip
    rw [show et_X12_odds M line name part = ((-9223372036854775808 : Int64), M) from by simp only [et_X12_odds, er1, if_pos c2]]
    all_goals rfl
  · skip
    obtain ⟨r3, er3⟩ : ∃ z, et_X12_isName M name = z := ⟨_, rfl⟩
    by_cases c4 : r3 = 0
    · skip
      rw [show et_X12_odds M line name part = ((-9223372036854775808 : Int64), M) from by simp only [et_X12_odds, er1, if_neg c2, er3, if_pos c4]]
      all_goals rfl
    · skip
      obtain ⟨r5, er5⟩ : ∃ z, et_X12_in M ((part).toInt64) (0 : Int64) (1 : Int64) = z := ⟨_, rfl⟩
      by_cases c6 : r5 = 0
      · skip
        rw [show et_X12_odds M line name part = ((-9223372036854775808 : Int64), M) from by simp only [et_X12_odds, er1, if_neg c2, er3, if_neg c4, er5, if_pos c6]]
        all_goals rfl
      · skip
        obtain ⟨M7, eM7⟩ : ∃ z, et_X12_copies 119 5880 120 5880 M = z := ⟨_, rfl⟩
        have fM7 : M7.1 c = M.1 c := by rw [← eM7]; exact (ef1_X12_copies _ _ _ _ _ (by omega))
        rw [show et_X12_odds M line name part = et_X12_odds_46 11 M7 line name part (0 : Int64) (0 : Int32) from by simp only [et_X12_odds, er1, if_neg c2, er3, if_neg c4, er5, if_neg c6, eM7]]
        exact ((ef1_X12_odds_46  (by omega) _ _ _ _ _ _ _)).trans (fM7)
theorem ef2_X12_odds  (M : em_M) (line : Int32) (name : Int32) (part : Int32) {c : Nat} (h : c < 118 ∨ 131 < c) : (et_X12_odds M line name part).2.2 c = M.2 c := by
  obtain ⟨r1, er1⟩ : ∃ z, et_X12_isLine M line = z := ⟨_, rfl⟩
  by_cases c2 : r1 = 0
  · skip
    rw [show et_X12_odds M line name part = ((-9223372036854775808 : Int64), M) from by simp only [et_X12_odds, er1, if_pos c2]]
    all_goals rfl
  · skip
    obtain ⟨r3, er3⟩ : ∃ z, et_X12_isName M name = z := ⟨_, rfl⟩
    by_cases c4 : r3 = 0
    · skip
      rw [show et_X12_odds M line name part = ((-9223372036854775808 : Int64), M) from by simp only [et_X12_odds, er1, if_neg c2, er3, if_pos c4]]
      all_goals rfl
    · skip
      obtain ⟨r5, er5⟩ : ∃ z, et_X12_in M ((part).toInt64) (0 : Int64) (1 : Int64) = z := ⟨_, rfl⟩
      by_cases c6 : r5 = 0
      · skip
        rw [show et_X12_odds M line name part = ((-9223372036854775808 : Int64), M) from by simp only [et_X12_odds, er1, if_neg c2, er3, if_neg c4, er5, if_pos c6]]
        all_goals rfl
      · skip
        obtain ⟨M7, eM7⟩ : ∃ z, et_X12_copies 119 5880 120 5880 M = z := ⟨_, rfl⟩
        have fM7 : M7.2 c = M.2 c := by rw [← eM7]; exact (ef2_X12_copies _ _ _ _ _ (by omega))
        rw [show et_X12_odds M line name part = et_X12_odds_46 11 M7 line name part (0 : Int64) (0 : Int32) from by simp only [et_X12_odds, er1, if_neg c2, er3, if_neg c4, er5, if_neg c6, eM7]]
        exact ((ef2_X12_odds_46  (by omega) _ _ _ _ _ _ _)).trans (fM7)
theorem ef1_X12_mean_52    {c : Nat} (h : c < 118 ∨ 131 < c) : ∀ (fu : Nat) (M : em_M) (line : Int32) (part : Int32) (sum : Int64) (n : Int32) (k : Int32), (et_X12_mean_52  fu M line part sum n k).2.1 c = M.1 c := by
  intro fu
  induction fu with
  | zero => intros; rfl
  | succ fu ih =>
    intro M line part sum n k
    by_cases c7 : n ≤ k
    · skip
      obtain ⟨M8, eM8⟩ : ∃ z, et_X12_copies 120 5880 119 5880 M = z := ⟨_, rfl⟩
      have fM8 : M8.1 c = M.1 c := by rw [← eM8]; exact (ef1_X12_copies _ _ _ _ _ (by omega))
      by_cases c9 : n = 0
      · skip
        rw [show et_X12_mean_52  (fu + 1) M line part sum n k = ((-9223372036854775808 : Int64), M8) from by simp only [et_X12_mean_52, if_pos c7, eM8, if_pos c9]]
        show M8.1 c = M.1 c
        exact fM8
      · skip
        obtain ⟨r10, er10⟩ : ∃ z, et_X12_lowest M8 sum ((n).toInt64) part = z := ⟨_, rfl⟩
        rw [show et_X12_mean_52  (fu + 1) M line part sum n k = (r10, M8) from by simp only [et_X12_mean_52, if_pos c7, eM8, if_neg c9, er10]]
        show M8.1 c = M.1 c
        exact fM8
    · skip
      rw [show et_X12_mean_52  (fu + 1) M line part sum n k = et_X12_mean_52 fu M line part (sum + ((M.1 119 (((74 : Int32) + k)).toNatClampNeg)).toInt64) n (k + (1 : Int32)) from by simp only [et_X12_mean_52, if_neg c7]]
      exact ih _ _ _ _ _ _
theorem ef2_X12_mean_52    {c : Nat} (h : c < 118 ∨ 131 < c) : ∀ (fu : Nat) (M : em_M) (line : Int32) (part : Int32) (sum : Int64) (n : Int32) (k : Int32), (et_X12_mean_52  fu M line part sum n k).2.2 c = M.2 c := by
  intro fu
  induction fu with
  | zero => intros; rfl
  | succ fu ih =>
    intro M line part sum n k
    by_cases c7 : n ≤ k
    · skip
      obtain ⟨M8, eM8⟩ : ∃ z, et_X12_copies 120 5880 119 5880 M = z := ⟨_, rfl⟩
      have fM8 : M8.2 c = M.2 c := by rw [← eM8]; exact (ef2_X12_copies _ _ _ _ _ (by omega))
      by_cases c9 : n = 0
      · skip
        rw [show et_X12_mean_52  (fu + 1) M line part sum n k = ((-9223372036854775808 : Int64), M8) from by simp only [et_X12_mean_52, if_pos c7, eM8, if_pos c9]]
        show M8.2 c = M.2 c
        exact fM8
      · skip
        obtain ⟨r10, er10⟩ : ∃ z, et_X12_lowest M8 sum ((n).toInt64) part = z := ⟨_, rfl⟩
        rw [show et_X12_mean_52  (fu + 1) M line part sum n k = (r10, M8) from by simp only [et_X12_mean_52, if_pos c7, eM8, if_neg c9, er10]]
        show M8.2 c = M.2 c
        exact fM8
    · skip
      rw [show et_X12_mean_52  (fu + 1) M line part sum n k = et_X12_mean_52 fu M line part (sum + ((M.1 119 (((74 : Int32) + k)).toNatClampNeg)).toInt64) n (k + (1 : Int32)) from by simp only [et_X12_mean_52, if_neg c7]]
      exact ih _ _ _ _ _ _
theorem ef1_X12_mean  (M : em_M) (line : Int32) (part : Int32) {c : Nat} (h : c < 118 ∨ 131 < c) : (et_X12_mean M line part).2.1 c = M.1 c := by
  obtain ⟨r1, er1⟩ : ∃ z, et_X12_isLine M line = z := ⟨_, rfl⟩
  by_cases c2 : r1 = 0
  · skip
    rw [show et_X12_mean M line part = ((-9223372036854775808 : Int64), M) from by simp only [et_X12_mean, er1, if_pos c2]]
    all_goals rfl
  · skip
    obtain ⟨r3, er3⟩ : ∃ z, et_X12_in M ((part).toInt64) (0 : Int64) (1 : Int64) = z := ⟨_, rfl⟩
    by_cases c4 : r3 = 0
    · skip
      rw [show et_X12_mean M line part = ((-9223372036854775808 : Int64), M) from by simp only [et_X12_mean, er1, if_neg c2, er3, if_pos c4]]
      all_goals rfl
    · skip
      obtain ⟨M5, eM5⟩ : ∃ z, et_X12_copies 119 5880 120 5880 M = z := ⟨_, rfl⟩
      have fM5 : M5.1 c = M.1 c := by rw [← eM5]; exact (ef1_X12_copies _ _ _ _ _ (by omega))
      obtain ⟨M6, eM6⟩ : ∃ z, et_X12_runs M5 line = z := ⟨_, rfl⟩
      have fM6 : M6.1 c = M5.1 c := by rw [← eM6]; exact (ef1_X12_runs _ _ (by omega))
      rw [show et_X12_mean M line part = et_X12_mean_52 42 M6 line part (0 : Int64) (M6.1 119 ((12 : Int32)).toNatClampNeg) (0 : Int32) from by simp only [et_X12_mean, er1, if_neg c2, er3, if_neg c4, eM5, eM6]]
      exact ((ef1_X12_mean_52  (by omega) _ _ _ _ _ _ _)).trans ((fM6).trans (fM5))
theorem ef2_X12_mean  (M : em_M) (line : Int32) (part : Int32) {c : Nat} (h : c < 118 ∨ 131 < c) : (et_X12_mean M line part).2.2 c = M.2 c := by
  obtain ⟨r1, er1⟩ : ∃ z, et_X12_isLine M line = z := ⟨_, rfl⟩
  by_cases c2 : r1 = 0
  · skip
    rw [show et_X12_mean M line part = ((-9223372036854775808 : Int64), M) from by simp only [et_X12_mean, er1, if_pos c2]]
    all_goals rfl
  · skip
    obtain ⟨r3, er3⟩ : ∃ z, et_X12_in M ((part).toInt64) (0 : Int64) (1 : Int64) = z := ⟨_, rfl⟩
    by_cases c4 : r3 = 0
    · skip
      rw [show et_X12_mean M line part = ((-9223372036854775808 : Int64), M) from by simp only [et_X12_mean, er1, if_neg c2, er3, if_pos c4]]
      all_goals rfl
    · skip
      obtain ⟨M5, eM5⟩ : ∃ z, et_X12_copies 119 5880 120 5880 M = z := ⟨_, rfl⟩
      have fM5 : M5.2 c = M.2 c := by rw [← eM5]; exact (ef2_X12_copies _ _ _ _ _ (by omega))
      obtain ⟨M6, eM6⟩ : ∃ z, et_X12_runs M5 line = z := ⟨_, rfl⟩
      have fM6 : M6.2 c = M5.2 c := by rw [← eM6]; exact (ef2_X12_runs _ _ (by omega))
      rw [show et_X12_mean M line part = et_X12_mean_52 42 M6 line part (0 : Int64) (M6.1 119 ((12 : Int32)).toNatClampNeg) (0 : Int32) from by simp only [et_X12_mean, er1, if_neg c2, er3, if_neg c4, eM5, eM6]]
      exact ((ef2_X12_mean_52  (by omega) _ _ _ _ _ _ _)).trans ((fM6).trans (fM5))
theorem ef1_X12_plan  (M : em_M) (what : Int32) (n : Int32) {c : Nat} (h : c < 118 ∨ 131 < c) : (et_X12_plan M what n).2.1 c = M.1 c := by
  by_cases c1 : what = (-1 : Int32)
  · skip
    obtain ⟨M23, eM23⟩ : ∃ z, em_pI M 119 ((26 : Int32)).toNatClampNeg (0 : Int32) = z := ⟨_, rfl⟩
    have fM23 : M23.1 c = M.1 c := by rw [← eM23]; exact ef_pI' _ _ _ _ (by omega)
    rw [show et_X12_plan M what n = ((0 : Int32), M23) from by simp only [et_X12_plan, if_pos c1, eM23]]
    show M23.1 c = M.1 c
    exact fM23
  · skip
    by_cases c2 : what = 0
    · skip
      obtain ⟨r17, er17⟩ : ∃ z, et_X12_isLine M n = z := ⟨_, rfl⟩
      by_cases c18 : r17 = 0
      · skip
        rw [show et_X12_plan M what n = ((-1 : Int32), M) from by simp only [et_X12_plan, if_neg c1, if_pos c2, er17, if_pos c18]]
        all_goals rfl
      · skip
        by_cases c19 : (M.1 119 ((26 : Int32)).toNatClampNeg) = (10 : Int32)
        · skip
          rw [show et_X12_plan M what n = ((-4 : Int32), M) from by simp only [et_X12_plan, if_neg c1, if_pos c2, er17, if_neg c18, if_pos c19]]
          all_goals rfl
        · skip
          obtain ⟨M20, eM20⟩ : ∃ z, em_pI M 119 (((38 : Int32) + ((2 : Int32) * (M.1 119 ((26 : Int32)).toNatClampNeg)))).toNatClampNeg what = z := ⟨_, rfl⟩
          have fM20 : M20.1 c = M.1 c := by rw [← eM20]; exact ef_pI' _ _ _ _ (by omega)
          obtain ⟨M21, eM21⟩ : ∃ z, em_pI M20 119 ((((38 : Int32) + ((2 : Int32) * (M.1 119 ((26 : Int32)).toNatClampNeg))) + (1 : Int32))).toNatClampNeg n = z := ⟨_, rfl⟩
          have fM21 : M21.1 c = M20.1 c := by rw [← eM21]; exact ef_pI' _ _ _ _ (by omega)
          obtain ⟨M22, eM22⟩ : ∃ z, em_pI M21 119 ((26 : Int32)).toNatClampNeg ((M.1 119 ((26 : Int32)).toNatClampNeg) + (1 : Int32)) = z := ⟨_, rfl⟩
          have fM22 : M22.1 c = M21.1 c := by rw [← eM22]; exact ef_pI' _ _ _ _ (by omega)
          rw [show et_X12_plan M what n = (((M.1 119 ((26 : Int32)).toNatClampNeg) + (1 : Int32)), M22) from by simp only [et_X12_plan, if_neg c1, if_pos c2, er17, if_neg c18, if_neg c19, eM20, eM21, eM22]]
          show M22.1 c = M.1 c
          exact (fM22).trans ((fM21).trans (fM20))
    · skip
      by_cases c3 : what = (1 : Int32)
      · skip
        obtain ⟨r11, er11⟩ : ∃ z, et_X12_isName M n = z := ⟨_, rfl⟩
        by_cases c12 : r11 = 0
        · skip
          rw [show et_X12_plan M what n = ((-1 : Int32), M) from by simp only [et_X12_plan, if_neg c1, if_neg c2, if_pos c3, er11, if_pos c12]]
          all_goals rfl
        · skip
          by_cases c13 : (M.1 119 ((26 : Int32)).toNatClampNeg) = (10 : Int32)
          · skip
            rw [show et_X12_plan M what n = ((-4 : Int32), M) from by simp only [et_X12_plan, if_neg c1, if_neg c2, if_pos c3, er11, if_neg c12, if_pos c13]]
            all_goals rfl
          · skip
            obtain ⟨M14, eM14⟩ : ∃ z, em_pI M 119 (((38 : Int32) + ((2 : Int32) * (M.1 119 ((26 : Int32)).toNatClampNeg)))).toNatClampNeg what = z := ⟨_, rfl⟩
            have fM14 : M14.1 c = M.1 c := by rw [← eM14]; exact ef_pI' _ _ _ _ (by omega)
            obtain ⟨M15, eM15⟩ : ∃ z, em_pI M14 119 ((((38 : Int32) + ((2 : Int32) * (M.1 119 ((26 : Int32)).toNatClampNeg))) + (1 : Int32))).toNatClampNeg n = z := ⟨_, rfl⟩
            have fM15 : M15.1 c = M14.1 c := by rw [← eM15]; exact ef_pI' _ _ _ _ (by omega)
            obtain ⟨M16, eM16⟩ : ∃ z, em_pI M15 119 ((26 : Int32)).toNatClampNeg ((M.1 119 ((26 : Int32)).toNatClampNeg) + (1 : Int32)) = z := ⟨_, rfl⟩
            have fM16 : M16.1 c = M15.1 c := by rw [← eM16]; exact ef_pI' _ _ _ _ (by omega)
            rw [show et_X12_plan M what n = (((M.1 119 ((26 : Int32)).toNatClampNeg) + (1 : Int32)), M16) from by simp only [et_X12_plan, if_neg c1, if_neg c2, if_pos c3, er11, if_neg c12, if_neg c13, eM14, eM15, eM16]]
            show M16.1 c = M.1 c
            exact (fM16).trans ((fM15).trans (fM14))
      · skip
        by_cases c4 : what = (2 : Int32)
        · skip
          obtain ⟨r5, er5⟩ : ∃ z, et_X12_in M ((n).toInt64) (0 : Int64) (2 : Int64) = z := ⟨_, rfl⟩
          by_cases c6 : r5 = 0
          · skip
            rw [show et_X12_plan M what n = ((-1 : Int32), M) from by simp only [et_X12_plan, if_neg c1, if_neg c2, if_neg c3, if_pos c4, er5, if_pos c6]]
            all_goals rfl
          · skip
            by_cases c7 : (M.1 119 ((26 : Int32)).toNatClampNeg) = (10 : Int32)
            · skip
              rw [show et_X12_plan M what n = ((-4 : Int32), M) from by simp only [et_X12_plan, if_neg c1, if_neg c2, if_neg c3, if_pos c4, er5, if_neg c6, if_pos c7]]
              all_goals rfl
            · skip
              obtain ⟨M8, eM8⟩ : ∃ z, em_pI M 119 (((38 : Int32) + ((2 : Int32) * (M.1 119 ((26 : Int32)).toNatClampNeg)))).toNatClampNeg what = z := ⟨_, rfl⟩
              have fM8 : M8.1 c = M.1 c := by rw [← eM8]; exact ef_pI' _ _ _ _ (by omega)
              obtain ⟨M9, eM9⟩ : ∃ z, em_pI M8 119 ((((38 : Int32) + ((2 : Int32) * (M.1 119 ((26 : Int32)).toNatClampNeg))) + (1 : Int32))).toNatClampNeg n = z := ⟨_, rfl⟩
              have fM9 : M9.1 c = M8.1 c := by rw [← eM9]; exact ef_pI' _ _ _ _ (by omega)
              obtain ⟨M10, eM10⟩ : ∃ z, em_pI M9 119 ((26 : Int32)).toNatClampNeg ((M.1 119 ((26 : Int32)).toNatClampNeg) + (1 : Int32)) = z := ⟨_, rfl⟩
              have fM10 : M10.1 c = M9.1 c := by rw [← eM10]; exact ef_pI' _ _ _ _ (by omega)
              rw [show et_X12_plan M what n = (((M.1 119 ((26 : Int32)).toNatClampNeg) + (1 : Int32)), M10) from by simp only [et_X12_plan, if_neg c1, if_neg c2, if_neg c3, if_pos c4, er5, if_neg c6, if_neg c7, eM8, eM9, eM10]]
              show M10.1 c = M.1 c
              exact (fM10).trans ((fM9).trans (fM8))
        · skip
          rw [show et_X12_plan M what n = ((-1 : Int32), M) from by simp only [et_X12_plan, if_neg c1, if_neg c2, if_neg c3, if_neg c4]]
          all_goals rfl
theorem ef2_X12_plan  (M : em_M) (what : Int32) (n : Int32) {c : Nat} (h : c < 118 ∨ 131 < c) : (et_X12_plan M what n).2.2 c = M.2 c := by
  by_cases c1 : what = (-1 : Int32)
  · skip
    obtain ⟨M23, eM23⟩ : ∃ z, em_pI M 119 ((26 : Int32)).toNatClampNeg (0 : Int32) = z := ⟨_, rfl⟩
    have fM23 : M23.2 c = M.2 c := by rw [← eM23]; exact rfl
    rw [show et_X12_plan M what n = ((0 : Int32), M23) from by simp only [et_X12_plan, if_pos c1, eM23]]
    show M23.2 c = M.2 c
    exact fM23
  · skip
    by_cases c2 : what = 0
    · skip
      obtain ⟨r17, er17⟩ : ∃ z, et_X12_isLine M n = z := ⟨_, rfl⟩
      by_cases c18 : r17 = 0
      · skip
        rw [show et_X12_plan M what n = ((-1 : Int32), M) from by simp only [et_X12_plan, if_neg c1, if_pos c2, er17, if_pos c18]]
        all_goals rfl
      · skip
        by_cases c19 : (M.1 119 ((26 : Int32)).toNatClampNeg) = (10 : Int32)
        · skip
          rw [show et_X12_plan M what n = ((-4 : Int32), M) from by simp only [et_X12_plan, if_neg c1, if_pos c2, er17, if_neg c18, if_pos c19]]
          all_goals rfl
        · skip
          obtain ⟨M20, eM20⟩ : ∃ z, em_pI M 119 (((38 : Int32) + ((2 : Int32) * (M.1 119 ((26 : Int32)).toNatClampNeg)))).toNatClampNeg what = z := ⟨_, rfl⟩
          have fM20 : M20.2 c = M.2 c := by rw [← eM20]; exact rfl
          obtain ⟨M21, eM21⟩ : ∃ z, em_pI M20 119 ((((38 : Int32) + ((2 : Int32) * (M.1 119 ((26 : Int32)).toNatClampNeg))) + (1 : Int32))).toNatClampNeg n = z := ⟨_, rfl⟩
          have fM21 : M21.2 c = M20.2 c := by rw [← eM21]; exact rfl
          obtain ⟨M22, eM22⟩ : ∃ z, em_pI M21 119 ((26 : Int32)).toNatClampNeg ((M.1 119 ((26 : Int32)).toNatClampNeg) + (1 : Int32)) = z := ⟨_, rfl⟩
          have fM22 : M22.2 c = M21.2 c := by rw [← eM22]; exact rfl
          rw [show et_X12_plan M what n = (((M.1 119 ((26 : Int32)).toNatClampNeg) + (1 : Int32)), M22) from by simp only [et_X12_plan, if_neg c1, if_pos c2, er17, if_neg c18, if_neg c19, eM20, eM21, eM22]]
          show M22.2 c = M.2 c
          exact (fM22).trans ((fM21).trans (fM20))
    · skip
      by_cases c3 : what = (1 : Int32)
      · skip
        obtain ⟨r11, er11⟩ : ∃ z, et_X12_isName M n = z := ⟨_, rfl⟩
        by_cases c12 : r11 = 0
        · skip
          rw [show et_X12_plan M what n = ((-1 : Int32), M) from by simp only [et_X12_plan, if_neg c1, if_neg c2, if_pos c3, er11, if_pos c12]]
          all_goals rfl
        · skip
          by_cases c13 : (M.1 119 ((26 : Int32)).toNatClampNeg) = (10 : Int32)
          · skip
            rw [show et_X12_plan M what n = ((-4 : Int32), M) from by simp only [et_X12_plan, if_neg c1, if_neg c2, if_pos c3, er11, if_neg c12, if_pos c13]]
            all_goals rfl
          · skip
            obtain ⟨M14, eM14⟩ : ∃ z, em_pI M 119 (((38 : Int32) + ((2 : Int32) * (M.1 119 ((26 : Int32)).toNatClampNeg)))).toNatClampNeg what = z := ⟨_, rfl⟩
            have fM14 : M14.2 c = M.2 c := by rw [← eM14]; exact rfl
            obtain ⟨M15, eM15⟩ : ∃ z, em_pI M14 119 ((((38 : Int32) + ((2 : Int32) * (M.1 119 ((26 : Int32)).toNatClampNeg))) + (1 : Int32))).toNatClampNeg n = z := ⟨_, rfl⟩
            have fM15 : M15.2 c = M14.2 c := by rw [← eM15]; exact rfl
            obtain ⟨M16, eM16⟩ : ∃ z, em_pI M15 119 ((26 : Int32)).toNatClampNeg ((M.1 119 ((26 : Int32)).toNatClampNeg) + (1 : Int32)) = z := ⟨_, rfl⟩
            have fM16 : M16.2 c = M15.2 c := by rw [← eM16]; exact rfl
            rw [show et_X12_plan M what n = (((M.1 119 ((26 : Int32)).toNatClampNeg) + (1 : Int32)), M16) from by simp only [et_X12_plan, if_neg c1, if_neg c2, if_pos c3, er11, if_neg c12, if_neg c13, eM14, eM15, eM16]]
            show M16.2 c = M.2 c
            exact (fM16).trans ((fM15).trans (fM14))
      · skip
        by_cases c4 : what = (2 : Int32)
        · skip
          obtain ⟨r5, er5⟩ : ∃ z, et_X12_in M ((n).toInt64) (0 : Int64) (2 : Int64) = z := ⟨_, rfl⟩
          by_cases c6 : r5 = 0
          · skip
            rw [show et_X12_plan M what n = ((-1 : Int32), M) from by simp only [et_X12_plan, if_neg c1, if_neg c2, if_neg c3, if_pos c4, er5, if_pos c6]]
            all_goals rfl
          · skip
            by_cases c7 : (M.1 119 ((26 : Int32)).toNatClampNeg) = (10 : Int32)
            · skip
              rw [show et_X12_plan M what n = ((-4 : Int32), M) from by simp only [et_X12_plan, if_neg c1, if_neg c2, if_neg c3, if_pos c4, er5, if_neg c6, if_pos c7]]
              all_goals rfl
            · skip
              obtain ⟨M8, eM8⟩ : ∃ z, em_pI M 119 (((38 : Int32) + ((2 : Int32) * (M.1 119 ((26 : Int32)).toNatClampNeg)))).toNatClampNeg what = z := ⟨_, rfl⟩
              have fM8 : M8.2 c = M.2 c := by rw [← eM8]; exact rfl
              obtain ⟨M9, eM9⟩ : ∃ z, em_pI M8 119 ((((38 : Int32) + ((2 : Int32) * (M.1 119 ((26 : Int32)).toNatClampNeg))) + (1 : Int32))).toNatClampNeg n = z := ⟨_, rfl⟩
              have fM9 : M9.2 c = M8.2 c := by rw [← eM9]; exact rfl
              obtain ⟨M10, eM10⟩ : ∃ z, em_pI M9 119 ((26 : Int32)).toNatClampNeg ((M.1 119 ((26 : Int32)).toNatClampNeg) + (1 : Int32)) = z := ⟨_, rfl⟩
              have fM10 : M10.2 c = M9.2 c := by rw [← eM10]; exact rfl
              rw [show et_X12_plan M what n = (((M.1 119 ((26 : Int32)).toNatClampNeg) + (1 : Int32)), M10) from by simp only [et_X12_plan, if_neg c1, if_neg c2, if_neg c3, if_pos c4, er5, if_neg c6, if_neg c7, eM8, eM9, eM10]]
              show M10.2 c = M.2 c
              exact (fM10).trans ((fM9).trans (fM8))
        · skip
          rw [show et_X12_plan M what n = ((-1 : Int32), M) from by simp only [et_X12_plan, if_neg c1, if_neg c2, if_neg c3, if_neg c4]]
          all_goals rfl
theorem ef1_X12_ends_24    {c : Nat} (h : c < 118 ∨ 131 < c) : ∀ (fu : Nat) (M : em_M) (name : Int32) (k : Int32), (et_X12_ends_24  fu M name k).2.1 c = M.1 c := by
  intro fu
  induction fu with
  | zero => intros; rfl
  | succ fu ih =>
    intro M name k
    by_cases c4 : (M.1 119 ((26 : Int32)).toNatClampNeg) ≤ k
    · skip
      obtain ⟨M5, eM5⟩ : ∃ z, et_X12_copies 120 5880 119 5880 M = z := ⟨_, rfl⟩
      have fM5 : M5.1 c = M.1 c := by rw [← eM5]; exact (ef1_X12_copies _ _ _ _ _ (by omega))
      rw [show et_X12_ends_24  (fu + 1) M name k = (((M.1 119 (((0 : Int32) + name)).toNatClampNeg)).toInt64, M5) from by simp only [et_X12_ends_24, if_pos c4, eM5]]
      show M5.1 c = M.1 c
      exact fM5
    · skip
      by_cases c6 : (M.1 119 (((38 : Int32) + ((2 : Int32) * k))).toNatClampNeg) = 0
      · skip
        obtain ⟨M10, eM10⟩ : ∃ z, et_X12_runs M (M.1 119 ((((38 : Int32) + ((2 : Int32) * k)) + (1 : Int32))).toNatClampNeg) = z := ⟨_, rfl⟩
        have fM10 : M10.1 c = M.1 c := by rw [← eM10]; exact (ef1_X12_runs _ _ (by omega))
        rw [show et_X12_ends_24  (fu + 1) M name k = et_X12_ends_24 fu M10 name (k + (1 : Int32)) from by simp only [et_X12_ends_24, if_neg c4, if_pos c6, eM10]]
        exact (ih _ _ _).trans (fM10)
      · skip
        by_cases c7 : (M.1 119 (((38 : Int32) + ((2 : Int32) * k))).toNatClampNeg) = (1 : Int32)
        · skip
          obtain ⟨M9, eM9⟩ : ∃ z, em_pI M 119 (((0 : Int32) + (M.1 119 ((((38 : Int32) + ((2 : Int32) * k)) + (1 : Int32))).toNatClampNeg))).toNatClampNeg (0 : Int32) = z := ⟨_, rfl⟩
          have fM9 : M9.1 c = M.1 c := by rw [← eM9]; exact ef_pI' _ _ _ _ (by omega)
          rw [show et_X12_ends_24  (fu + 1) M name k = et_X12_ends_24 fu M9 name (k + (1 : Int32)) from by simp only [et_X12_ends_24, if_neg c4, if_neg c6, if_pos c7, eM9]]
          exact (ih _ _ _).trans (fM9)
        · skip
          obtain ⟨M8, eM8⟩ : ∃ z, em_pI M 119 (((4 : Int32) + (M.1 119 ((((38 : Int32) + ((2 : Int32) * k)) + (1 : Int32))).toNatClampNeg))).toNatClampNeg (-5 : Int32) = z := ⟨_, rfl⟩
          have fM8 : M8.1 c = M.1 c := by rw [← eM8]; exact ef_pI' _ _ _ _ (by omega)
          rw [show et_X12_ends_24  (fu + 1) M name k = et_X12_ends_24 fu M8 name (k + (1 : Int32)) from by simp only [et_X12_ends_24, if_neg c4, if_neg c6, if_neg c7, eM8]]
          exact (ih _ _ _).trans (fM8)
theorem ef2_X12_ends_24    {c : Nat} (h : c < 118 ∨ 131 < c) : ∀ (fu : Nat) (M : em_M) (name : Int32) (k : Int32), (et_X12_ends_24  fu M name k).2.2 c = M.2 c := by
  intro fu
  induction fu with
  | zero => intros; rfl
  | succ fu ih =>
    intro M name k
    by_cases c4 : (M.1 119 ((26 : Int32)).toNatClampNeg) ≤ k
    · skip
      obtain ⟨M5, eM5⟩ : ∃ z, et_X12_copies 120 5880 119 5880 M = z := ⟨_, rfl⟩
      have fM5 : M5.2 c = M.2 c := by rw [← eM5]; exact (ef2_X12_copies _ _ _ _ _ (by omega))
      rw [show et_X12_ends_24  (fu + 1) M name k = (((M.1 119 (((0 : Int32) + name)).toNatClampNeg)).toInt64, M5) from by simp only [et_X12_ends_24, if_pos c4, eM5]]
      show M5.2 c = M.2 c
      exact fM5
    · skip
      by_cases c6 : (M.1 119 (((38 : Int32) + ((2 : Int32) * k))).toNatClampNeg) = 0
      · skip
        obtain ⟨M10, eM10⟩ : ∃ z, et_X12_runs M (M.1 119 ((((38 : Int32) + ((2 : Int32) * k)) + (1 : Int32))).toNatClampNeg) = z := ⟨_, rfl⟩
        have fM10 : M10.2 c = M.2 c := by rw [← eM10]; exact (ef2_X12_runs _ _ (by omega))
        rw [show et_X12_ends_24  (fu + 1) M name k = et_X12_ends_24 fu M10 name (k + (1 : Int32)) from by simp only [et_X12_ends_24, if_neg c4, if_pos c6, eM10]]
        exact (ih _ _ _).trans (fM10)
      · skip
        by_cases c7 : (M.1 119 (((38 : Int32) + ((2 : Int32) * k))).toNatClampNeg) = (1 : Int32)
        · skip
          obtain ⟨M9, eM9⟩ : ∃ z, em_pI M 119 (((0 : Int32) + (M.1 119 ((((38 : Int32) + ((2 : Int32) * k)) + (1 : Int32))).toNatClampNeg))).toNatClampNeg (0 : Int32) = z := ⟨_, rfl⟩
          have fM9 : M9.2 c = M.2 c := by rw [← eM9]; exact rfl
          rw [show et_X12_ends_24  (fu + 1) M name k = et_X12_ends_24 fu M9 name (k + (1 : Int32)) from by simp only [et_X12_ends_24, if_neg c4, if_neg c6, if_pos c7, eM9]]
          exact (ih _ _ _).trans (fM9)
        · skip
          obtain ⟨M8, eM8⟩ : ∃ z, em_pI M 119 (((4 : Int32) + (M.1 119 ((((38 : Int32) + ((2 : Int32) * k)) + (1 : Int32))).toNatClampNeg))).toNatClampNeg (-5 : Int32) = z := ⟨_, rfl⟩
          have fM8 : M8.2 c = M.2 c := by rw [← eM8]; exact rfl
          rw [show et_X12_ends_24  (fu + 1) M name k = et_X12_ends_24 fu M8 name (k + (1 : Int32)) from by simp only [et_X12_ends_24, if_neg c4, if_neg c6, if_neg c7, eM8]]
          exact (ih _ _ _).trans (fM8)
theorem ef1_X12_ends  (M : em_M) (name : Int32) {c : Nat} (h : c < 118 ∨ 131 < c) : (et_X12_ends M name).2.1 c = M.1 c := by
  obtain ⟨r1, er1⟩ : ∃ z, et_X12_isName M name = z := ⟨_, rfl⟩
  by_cases c2 : r1 = 0
  · skip
    rw [show et_X12_ends M name = ((-9223372036854775808 : Int64), M) from by simp only [et_X12_ends, er1, if_pos c2]]
    all_goals rfl
  · skip
    obtain ⟨M3, eM3⟩ : ∃ z, et_X12_copies 119 5880 120 5880 M = z := ⟨_, rfl⟩
    have fM3 : M3.1 c = M.1 c := by rw [← eM3]; exact (ef1_X12_copies _ _ _ _ _ (by omega))
    rw [show et_X12_ends M name = et_X12_ends_24 11 M3 name (0 : Int32) from by simp only [et_X12_ends, er1, if_neg c2, eM3]]
    exact ((ef1_X12_ends_24  (by omega) _ _ _ _)).trans (fM3)
theorem ef2_X12_ends  (M : em_M) (name : Int32) {c : Nat} (h : c < 118 ∨ 131 < c) : (et_X12_ends M name).2.2 c = M.2 c := by
  obtain ⟨r1, er1⟩ : ∃ z, et_X12_isName M name = z := ⟨_, rfl⟩
  by_cases c2 : r1 = 0
  · skip
    rw [show et_X12_ends M name = ((-9223372036854775808 : Int64), M) from by simp only [et_X12_ends, er1, if_pos c2]]
    all_goals rfl
  · skip
    obtain ⟨M3, eM3⟩ : ∃ z, et_X12_copies 119 5880 120 5880 M = z := ⟨_, rfl⟩
    have fM3 : M3.2 c = M.2 c := by rw [← eM3]; exact (ef2_X12_copies _ _ _ _ _ (by omega))
    rw [show et_X12_ends M name = et_X12_ends_24 11 M3 name (0 : Int32) from by simp only [et_X12_ends, er1, if_neg c2, eM3]]
    exact ((ef2_X12_ends_24  (by omega) _ _ _ _)).trans (fM3)
theorem ef1_X12_book  (M : em_M) (name : Int32) (v : Int32) {c : Nat} (h : c < 118 ∨ 131 < c) : (et_X12_book M name v).2.1 c = M.1 c := by
  by_cases c1 : name = (-1 : Int32)
  · skip
    obtain ⟨M8, eM8⟩ : ∃ z, em_pI M 119 ((27 : Int32)).toNatClampNeg (0 : Int32) = z := ⟨_, rfl⟩
    have fM8 : M8.1 c = M.1 c := by rw [← eM8]; exact ef_pI' _ _ _ _ (by omega)
    rw [show et_X12_book M name v = ((0 : Int32), M8) from by simp only [et_X12_book, if_pos c1, eM8]]
    show M8.1 c = M.1 c
    exact fM8
  · skip
    obtain ⟨r2, er2⟩ : ∃ z, et_X12_isName M name = z := ⟨_, rfl⟩
    by_cases c3 : r2 = 0
    · skip
      rw [show et_X12_book M name v = ((-1 : Int32), M) from by simp only [et_X12_book, if_neg c1, er2, if_pos c3]]
      all_goals rfl
    · skip
      by_cases c4 : (M.1 119 ((27 : Int32)).toNatClampNeg) = (8 : Int32)
      · skip
        rw [show et_X12_book M name v = ((-4 : Int32), M) from by simp only [et_X12_book, if_neg c1, er2, if_neg c3, if_pos c4]]
        all_goals rfl
      · skip
        obtain ⟨M5, eM5⟩ : ∃ z, em_pI M 119 (((58 : Int32) + ((2 : Int32) * (M.1 119 ((27 : Int32)).toNatClampNeg)))).toNatClampNeg name = z := ⟨_, rfl⟩
        have fM5 : M5.1 c = M.1 c := by rw [← eM5]; exact ef_pI' _ _ _ _ (by omega)
        obtain ⟨M6, eM6⟩ : ∃ z, em_pI M5 119 ((((58 : Int32) + ((2 : Int32) * (M.1 119 ((27 : Int32)).toNatClampNeg))) + (1 : Int32))).toNatClampNeg v = z := ⟨_, rfl⟩
        have fM6 : M6.1 c = M5.1 c := by rw [← eM6]; exact ef_pI' _ _ _ _ (by omega)
        obtain ⟨M7, eM7⟩ : ∃ z, em_pI M6 119 ((27 : Int32)).toNatClampNeg ((M.1 119 ((27 : Int32)).toNatClampNeg) + (1 : Int32)) = z := ⟨_, rfl⟩
        have fM7 : M7.1 c = M6.1 c := by rw [← eM7]; exact ef_pI' _ _ _ _ (by omega)
        rw [show et_X12_book M name v = (((M.1 119 ((27 : Int32)).toNatClampNeg) + (1 : Int32)), M7) from by simp only [et_X12_book, if_neg c1, er2, if_neg c3, if_neg c4, eM5, eM6, eM7]]
        show M7.1 c = M.1 c
        exact (fM7).trans ((fM6).trans (fM5))
theorem ef2_X12_book  (M : em_M) (name : Int32) (v : Int32) {c : Nat} (h : c < 118 ∨ 131 < c) : (et_X12_book M name v).2.2 c = M.2 c := by
  by_cases c1 : name = (-1 : Int32)
  · skip
    obtain ⟨M8, eM8⟩ : ∃ z, em_pI M 119 ((27 : Int32)).toNatClampNeg (0 : Int32) = z := ⟨_, rfl⟩
    have fM8 : M8.2 c = M.2 c := by rw [← eM8]; exact rfl
    rw [show et_X12_book M name v = ((0 : Int32), M8) from by simp only [et_X12_book, if_pos c1, eM8]]
    show M8.2 c = M.2 c
    exact fM8
  · skip
    obtain ⟨r2, er2⟩ : ∃ z, et_X12_isName M name = z := ⟨_, rfl⟩
    by_cases c3 : r2 = 0
    · skip
      rw [show et_X12_book M name v = ((-1 : Int32), M) from by simp only [et_X12_book, if_neg c1, er2, if_pos c3]]
      all_goals rfl
    · skip
      by_cases c4 : (M.1 119 ((27 : Int32)).toNatClampNeg) = (8 : Int32)
      · skip
        rw [show et_X12_book M name v = ((-4 : Int32), M) from by simp only [et_X12_book, if_neg c1, er2, if_neg c3, if_pos c4]]
        all_goals rfl
      · skip
        obtain ⟨M5, eM5⟩ : ∃ z, em_pI M 119 (((58 : Int32) + ((2 : Int32) * (M.1 119 ((27 : Int32)).toNatClampNeg)))).toNatClampNeg name = z := ⟨_, rfl⟩
        have fM5 : M5.2 c = M.2 c := by rw [← eM5]; exact rfl
        obtain ⟨M6, eM6⟩ : ∃ z, em_pI M5 119 ((((58 : Int32) + ((2 : Int32) * (M.1 119 ((27 : Int32)).toNatClampNeg))) + (1 : Int32))).toNatClampNeg v = z := ⟨_, rfl⟩
        have fM6 : M6.2 c = M5.2 c := by rw [← eM6]; exact rfl
        obtain ⟨M7, eM7⟩ : ∃ z, em_pI M6 119 ((27 : Int32)).toNatClampNeg ((M.1 119 ((27 : Int32)).toNatClampNeg) + (1 : Int32)) = z := ⟨_, rfl⟩
        have fM7 : M7.2 c = M6.2 c := by rw [← eM7]; exact rfl
        rw [show et_X12_book M name v = (((M.1 119 ((27 : Int32)).toNatClampNeg) + (1 : Int32)), M7) from by simp only [et_X12_book, if_neg c1, er2, if_neg c3, if_neg c4, eM5, eM6, eM7]]
        show M7.2 c = M.2 c
        exact (fM7).trans ((fM6).trans (fM5))
theorem ef1_X12_image  (M : em_M) {c : Nat} (h : c < 118 ∨ 131 < c) : (et_X12_image M).2.1 c = M.1 c := by
  obtain ⟨M1, eM1⟩ : ∃ z, et_X12_copies 119 5880 121 5880 M = z := ⟨_, rfl⟩
  have fM1 : M1.1 c = M.1 c := by rw [← eM1]; exact (ef1_X12_copies _ _ _ _ _ (by omega))
  obtain ⟨M2, eM2⟩ : ∃ z, em_pI M1 118 3 (1 : Int32) = z := ⟨_, rfl⟩
  have fM2 : M2.1 c = M1.1 c := by rw [← eM2]; exact ef_pI' _ _ _ _ (by omega)
  rw [show et_X12_image M = ((M2.1 118 9), M2) from by simp only [et_X12_image, eM1, eM2]]
  show M2.1 c = M.1 c
  exact (fM2).trans (fM1)
theorem ef2_X12_image  (M : em_M) {c : Nat} (h : c < 118 ∨ 131 < c) : (et_X12_image M).2.2 c = M.2 c := by
  obtain ⟨M1, eM1⟩ : ∃ z, et_X12_copies 119 5880 121 5880 M = z := ⟨_, rfl⟩
  have fM1 : M1.2 c = M.2 c := by rw [← eM1]; exact (ef2_X12_copies _ _ _ _ _ (by omega))
  obtain ⟨M2, eM2⟩ : ∃ z, em_pI M1 118 3 (1 : Int32) = z := ⟨_, rfl⟩
  have fM2 : M2.2 c = M1.2 c := by rw [← eM2]; exact rfl
  rw [show et_X12_image M = ((M2.1 118 9), M2) from by simp only [et_X12_image, eM1, eM2]]
  show M2.2 c = M.2 c
  exact (fM2).trans (fM1)
theorem ef1_X12_undo  (M : em_M) {c : Nat} (h : c < 118 ∨ 131 < c) : (et_X12_undo M).2.1 c = M.1 c := by
  by_cases c1 : (M.1 118 3) = 0
  · skip
    rw [show et_X12_undo M = ((-3 : Int32), M) from by simp only [et_X12_undo, if_pos c1]]
    all_goals rfl
  · skip
    obtain ⟨M2, eM2⟩ : ∃ z, et_X12_copies 121 5880 119 5880 M = z := ⟨_, rfl⟩
    have fM2 : M2.1 c = M.1 c := by rw [← eM2]; exact (ef1_X12_copies _ _ _ _ _ (by omega))
    rw [show et_X12_undo M = ((M2.1 118 9), M2) from by simp only [et_X12_undo, if_neg c1, eM2]]
    show M2.1 c = M.1 c
    exact fM2
theorem ef2_X12_undo  (M : em_M) {c : Nat} (h : c < 118 ∨ 131 < c) : (et_X12_undo M).2.2 c = M.2 c := by
  by_cases c1 : (M.1 118 3) = 0
  · skip
    rw [show et_X12_undo M = ((-3 : Int32), M) from by simp only [et_X12_undo, if_pos c1]]
    all_goals rfl
  · skip
    obtain ⟨M2, eM2⟩ : ∃ z, et_X12_copies 121 5880 119 5880 M = z := ⟨_, rfl⟩
    have fM2 : M2.2 c = M.2 c := by rw [← eM2]; exact (ef2_X12_copies _ _ _ _ _ (by omega))
    rw [show et_X12_undo M = ((M2.1 118 9), M2) from by simp only [et_X12_undo, if_neg c1, eM2]]
    show M2.2 c = M.2 c
    exact fM2
theorem ef1_X12_tape_80    {c : Nat} (h : c < 118 ∨ 131 < c) : ∀ (fu : Nat) (M : em_M) (tape : Int32) (k : Int32), (et_X12_tape_80  fu M tape k).2.1 c = M.1 c := by
  intro fu
  induction fu with
  | zero => intros; rfl
  | succ fu ih =>
    intro M tape k
    by_cases c8 : (60 : Int32) ≤ k
    · skip
      rw [show et_X12_tape_80  (fu + 1) M tape k = ((1 : Int32), M) from by simp only [et_X12_tape_80, if_pos c8]]
      all_goals rfl
    · skip
      obtain ⟨M9, eM9⟩ : ∃ z, em_pL M 131 ((((60 : Int32) * tape) + k)).toNatClampNeg (0 : Int64) = z := ⟨_, rfl⟩
      have fM9 : M9.1 c = M.1 c := by rw [← eM9]; exact rfl
      rw [show et_X12_tape_80  (fu + 1) M tape k = et_X12_tape_80 fu M9 tape (k + (1 : Int32)) from by simp only [et_X12_tape_80, if_neg c8, eM9]]
      exact (ih _ _ _).trans (fM9)
theorem ef2_X12_tape_80    {c : Nat} (h : c < 118 ∨ 131 < c) : ∀ (fu : Nat) (M : em_M) (tape : Int32) (k : Int32), (et_X12_tape_80  fu M tape k).2.2 c = M.2 c := by
  intro fu
  induction fu with
  | zero => intros; rfl
  | succ fu ih =>
    intro M tape k
    by_cases c8 : (60 : Int32) ≤ k
    · skip
      rw [show et_X12_tape_80  (fu + 1) M tape k = ((1 : Int32), M) from by simp only [et_X12_tape_80, if_pos c8]]
      all_goals rfl
    · skip
      obtain ⟨M9, eM9⟩ : ∃ z, em_pL M 131 ((((60 : Int32) * tape) + k)).toNatClampNeg (0 : Int64) = z := ⟨_, rfl⟩
      have fM9 : M9.2 c = M.2 c := by rw [← eM9]; exact ef_pL' _ _ _ _ (by omega)
      rw [show et_X12_tape_80  (fu + 1) M tape k = et_X12_tape_80 fu M9 tape (k + (1 : Int32)) from by simp only [et_X12_tape_80, if_neg c8, eM9]]
      exact (ih _ _ _).trans (fM9)
theorem ef1_X12_tape  (M : em_M) (tape : Int32) (sort : Int32) (n : Int32) {c : Nat} (h : c < 118 ∨ 131 < c) : (et_X12_tape M tape sort n).2.1 c = M.1 c := by
  obtain ⟨r1, er1⟩ : ∃ z, et_X12_in M ((tape).toInt64) (0 : Int64) (5 : Int64) = z := ⟨_, rfl⟩
  by_cases c2 : r1 = 0
  · skip
    rw [show et_X12_tape M tape sort n = ((-1 : Int32), M) from by simp only [et_X12_tape, er1, if_pos c2]]
    all_goals rfl
  · skip
    obtain ⟨r3, er3⟩ : ∃ z, et_X12_in M ((sort).toInt64) (-1 : Int64) (4 : Int64) = z := ⟨_, rfl⟩
    by_cases c4 : r3 = 0
    · skip
      rw [show et_X12_tape M tape sort n = ((-2 : Int32), M) from by simp only [et_X12_tape, er1, if_neg c2, er3, if_pos c4]]
      all_goals rfl
    · skip
      by_cases c5 : sort = (-1 : Int32)
      · skip
        obtain ⟨M6, eM6⟩ : ∃ z, em_pI M 129 (tape).toNatClampNeg sort = z := ⟨_, rfl⟩
        have fM6 : M6.1 c = M.1 c := by rw [← eM6]; exact ef_pI' _ _ _ _ (by omega)
        obtain ⟨M7, eM7⟩ : ∃ z, em_pI M6 130 (tape).toNatClampNeg (0 : Int32) = z := ⟨_, rfl⟩
        have fM7 : M7.1 c = M6.1 c := by rw [← eM7]; exact ef_pI' _ _ _ _ (by omega)
        rw [show et_X12_tape M tape sort n = et_X12_tape_80 61 M7 tape (0 : Int32) from by simp only [et_X12_tape, er1, if_neg c2, er3, if_neg c4, if_pos c5, eM6, eM7]]
        exact ((ef1_X12_tape_80  (by omega) _ _ _ _)).trans ((fM7).trans (fM6))
      · skip
        by_cases c10 : n ≤ (60 : Int32)
        · skip
          by_cases c11 : 0 ≤ n
          · skip
            obtain ⟨M12, eM12⟩ : ∃ z, em_pI M 129 (tape).toNatClampNeg sort = z := ⟨_, rfl⟩
            have fM12 : M12.1 c = M.1 c := by rw [← eM12]; exact ef_pI' _ _ _ _ (by omega)
            obtain ⟨M13, eM13⟩ : ∃ z, em_pI M12 130 (tape).toNatClampNeg n = z := ⟨_, rfl⟩
            have fM13 : M13.1 c = M12.1 c := by rw [← eM13]; exact ef_pI' _ _ _ _ (by omega)
            rw [show et_X12_tape M tape sort n = et_X12_tape_80 61 M13 tape (0 : Int32) from by simp only [et_X12_tape, er1, if_neg c2, er3, if_neg c4, if_neg c5, if_pos c10, if_pos c11, eM12, eM13]]
            exact ((ef1_X12_tape_80  (by omega) _ _ _ _)).trans ((fM13).trans (fM12))
          · skip
            rw [show et_X12_tape M tape sort n = ((-14 : Int32), M) from by simp only [et_X12_tape, er1, if_neg c2, er3, if_neg c4, if_neg c5, if_pos c10, if_neg c11]]
            all_goals rfl
        · skip
          rw [show et_X12_tape M tape sort n = ((-2 : Int32), M) from by simp only [et_X12_tape, er1, if_neg c2, er3, if_neg c4, if_neg c5, if_neg c10]]
          all_goals rfl
theorem ef2_X12_tape  (M : em_M) (tape : Int32) (sort : Int32) (n : Int32) {c : Nat} (h : c < 118 ∨ 131 < c) : (et_X12_tape M tape sort n).2.2 c = M.2 c := by
  obtain ⟨r1, er1⟩ : ∃ z, et_X12_in M ((tape).toInt64) (0 : Int64) (5 : Int64) = z := ⟨_, rfl⟩
  by_cases c2 : r1 = 0
  · skip
    rw [show et_X12_tape M tape sort n = ((-1 : Int32), M) from by simp only [et_X12_tape, er1, if_pos c2]]
    all_goals rfl
  · skip
    obtain ⟨r3, er3⟩ : ∃ z, et_X12_in M ((sort).toInt64) (-1 : Int64) (4 : Int64) = z := ⟨_, rfl⟩
    by_cases c4 : r3 = 0
    · skip
      rw [show et_X12_tape M tape sort n = ((-2 : Int32), M) from by simp only [et_X12_tape, er1, if_neg c2, er3, if_pos c4]]
      all_goals rfl
    · skip
      by_cases c5 : sort = (-1 : Int32)
      · skip
        obtain ⟨M6, eM6⟩ : ∃ z, em_pI M 129 (tape).toNatClampNeg sort = z := ⟨_, rfl⟩
        have fM6 : M6.2 c = M.2 c := by rw [← eM6]; exact rfl
        obtain ⟨M7, eM7⟩ : ∃ z, em_pI M6 130 (tape).toNatClampNeg (0 : Int32) = z := ⟨_, rfl⟩
        have fM7 : M7.2 c = M6.2 c := by rw [← eM7]; exact rfl
        rw [show et_X12_tape M tape sort n = et_X12_tape_80 61 M7 tape (0 : Int32) from by simp only [et_X12_tape, er1, if_neg c2, er3, if_neg c4, if_pos c5, eM6, eM7]]
        exact ((ef2_X12_tape_80  (by omega) _ _ _ _)).trans ((fM7).trans (fM6))
      · skip
        by_cases c10 : n ≤ (60 : Int32)
        · skip
          by_cases c11 : 0 ≤ n
          · skip
            obtain ⟨M12, eM12⟩ : ∃ z, em_pI M 129 (tape).toNatClampNeg sort = z := ⟨_, rfl⟩
            have fM12 : M12.2 c = M.2 c := by rw [← eM12]; exact rfl
            obtain ⟨M13, eM13⟩ : ∃ z, em_pI M12 130 (tape).toNatClampNeg n = z := ⟨_, rfl⟩
            have fM13 : M13.2 c = M12.2 c := by rw [← eM13]; exact rfl
            rw [show et_X12_tape M tape sort n = et_X12_tape_80 61 M13 tape (0 : Int32) from by simp only [et_X12_tape, er1, if_neg c2, er3, if_neg c4, if_neg c5, if_pos c10, if_pos c11, eM12, eM13]]
            exact ((ef2_X12_tape_80  (by omega) _ _ _ _)).trans ((fM13).trans (fM12))
          · skip
            rw [show et_X12_tape M tape sort n = ((-14 : Int32), M) from by simp only [et_X12_tape, er1, if_neg c2, er3, if_neg c4, if_neg c5, if_pos c10, if_neg c11]]
            all_goals rfl
        · skip
          rw [show et_X12_tape M tape sort n = ((-2 : Int32), M) from by simp only [et_X12_tape, er1, if_neg c2, er3, if_neg c4, if_neg c5, if_neg c10]]
          all_goals rfl
theorem ef1_X12_item  (M : em_M) (tape : Int32) (i : Int32) (v : Int64) {c : Nat} (h : c < 118 ∨ 131 < c) : (et_X12_item M tape i v).2.1 c = M.1 c := by
  obtain ⟨r1, er1⟩ : ∃ z, et_X12_in M ((tape).toInt64) (0 : Int64) (5 : Int64) = z := ⟨_, rfl⟩
  by_cases c2 : r1 = 0
  · skip
    rw [show et_X12_item M tape i v = ((-1 : Int32), M) from by simp only [et_X12_item, er1, if_pos c2]]
    all_goals rfl
  · skip
    by_cases c3 : (M.1 129 (tape).toNatClampNeg) = (-1 : Int32)
    · skip
      rw [show et_X12_item M tape i v = ((-11 : Int32), M) from by simp only [et_X12_item, er1, if_neg c2, if_pos c3]]
      all_goals rfl
    · skip
      obtain ⟨r4, er4⟩ : ∃ z, et_X12_in M ((i).toInt64) (0 : Int64) ((((M.1 130 (tape).toNatClampNeg) - (1 : Int32))).toInt64) = z := ⟨_, rfl⟩
      by_cases c5 : r4 = 0
      · skip
        rw [show et_X12_item M tape i v = ((-13 : Int32), M) from by simp only [et_X12_item, er1, if_neg c2, if_neg c3, er4, if_pos c5]]
        all_goals rfl
      · skip
        obtain ⟨r6, er6⟩ : ∃ z, et_X12_lowestBits M (M.1 129 (tape).toNatClampNeg) v = z := ⟨_, rfl⟩
        obtain ⟨M7, eM7⟩ : ∃ z, em_pL M 131 ((((60 : Int32) * tape) + i)).toNatClampNeg r6 = z := ⟨_, rfl⟩
        have fM7 : M7.1 c = M.1 c := by rw [← eM7]; exact rfl
        rw [show et_X12_item M tape i v = ((1 : Int32), M7) from by simp only [et_X12_item, er1, if_neg c2, if_neg c3, er4, if_neg c5, er6, eM7]]
        show M7.1 c = M.1 c
        exact fM7
theorem ef2_X12_item  (M : em_M) (tape : Int32) (i : Int32) (v : Int64) {c : Nat} (h : c < 118 ∨ 131 < c) : (et_X12_item M tape i v).2.2 c = M.2 c := by
  obtain ⟨r1, er1⟩ : ∃ z, et_X12_in M ((tape).toInt64) (0 : Int64) (5 : Int64) = z := ⟨_, rfl⟩
  by_cases c2 : r1 = 0
  · skip
    rw [show et_X12_item M tape i v = ((-1 : Int32), M) from by simp only [et_X12_item, er1, if_pos c2]]
    all_goals rfl
  · skip
    by_cases c3 : (M.1 129 (tape).toNatClampNeg) = (-1 : Int32)
    · skip
      rw [show et_X12_item M tape i v = ((-11 : Int32), M) from by simp only [et_X12_item, er1, if_neg c2, if_pos c3]]
      all_goals rfl
    · skip
      obtain ⟨r4, er4⟩ : ∃ z, et_X12_in M ((i).toInt64) (0 : Int64) ((((M.1 130 (tape).toNatClampNeg) - (1 : Int32))).toInt64) = z := ⟨_, rfl⟩
      by_cases c5 : r4 = 0
      · skip
        rw [show et_X12_item M tape i v = ((-13 : Int32), M) from by simp only [et_X12_item, er1, if_neg c2, if_neg c3, er4, if_pos c5]]
        all_goals rfl
      · skip
        obtain ⟨r6, er6⟩ : ∃ z, et_X12_lowestBits M (M.1 129 (tape).toNatClampNeg) v = z := ⟨_, rfl⟩
        obtain ⟨M7, eM7⟩ : ∃ z, em_pL M 131 ((((60 : Int32) * tape) + i)).toNatClampNeg r6 = z := ⟨_, rfl⟩
        have fM7 : M7.2 c = M.2 c := by rw [← eM7]; exact ef_pL' _ _ _ _ (by omega)
        rw [show et_X12_item M tape i v = ((1 : Int32), M7) from by simp only [et_X12_item, er1, if_neg c2, if_neg c3, er4, if_neg c5, er6, eM7]]
        show M7.2 c = M.2 c
        exact fM7
theorem ef1_X12_shift_135    {c : Nat} (h : c < 118 ∨ 131 < c) : ∀ (fu : Nat) (M : em_M) (tape : Int32) (i : Int32) (other : Int32) (j : Int32) (n : Int32) (k : Int32), (et_X12_shift_135  fu M tape i other j n k).2.1 c = M.1 c := by
  intro fu
  induction fu with
  | zero => intros; rfl
  | succ fu ih =>
    intro M tape i other j n k
    by_cases c15 : n ≤ k
    · skip
      rw [show et_X12_shift_135  (fu + 1) M tape i other j n k = (n, M) from by simp only [et_X12_shift_135, if_pos c15]]
      all_goals rfl
    · skip
      by_cases c16 : j ≤ i
      · skip
        obtain ⟨M17, eM17⟩ : ∃ z, em_pL M 131 (((((60 : Int32) * other) + j) + k)).toNatClampNeg (M.2 131 (((((60 : Int32) * tape) + i) + k)).toNatClampNeg) = z := ⟨_, rfl⟩
        have fM17 : M17.1 c = M.1 c := by rw [← eM17]; exact rfl
        rw [show et_X12_shift_135  (fu + 1) M tape i other j n k = et_X12_shift_135 fu M17 tape i other j n (k + (1 : Int32)) from by simp only [et_X12_shift_135, if_neg c15, if_pos c16, eM17]]
        exact (ih _ _ _ _ _ _ _).trans (fM17)
      · skip
        obtain ⟨M18, eM18⟩ : ∃ z, em_pL M 131 (((((60 : Int32) * other) + j) + ((n - (1 : Int32)) - k))).toNatClampNeg (M.2 131 (((((60 : Int32) * tape) + i) + ((n - (1 : Int32)) - k))).toNatClampNeg) = z := ⟨_, rfl⟩
        have fM18 : M18.1 c = M.1 c := by rw [← eM18]; exact rfl
        rw [show et_X12_shift_135  (fu + 1) M tape i other j n k = et_X12_shift_135 fu M18 tape i other j n (k + (1 : Int32)) from by simp only [et_X12_shift_135, if_neg c15, if_neg c16, eM18]]
        exact (ih _ _ _ _ _ _ _).trans (fM18)
theorem ef2_X12_shift_135    {c : Nat} (h : c < 118 ∨ 131 < c) : ∀ (fu : Nat) (M : em_M) (tape : Int32) (i : Int32) (other : Int32) (j : Int32) (n : Int32) (k : Int32), (et_X12_shift_135  fu M tape i other j n k).2.2 c = M.2 c := by
  intro fu
  induction fu with
  | zero => intros; rfl
  | succ fu ih =>
    intro M tape i other j n k
    by_cases c15 : n ≤ k
    · skip
      rw [show et_X12_shift_135  (fu + 1) M tape i other j n k = (n, M) from by simp only [et_X12_shift_135, if_pos c15]]
      all_goals rfl
    · skip
      by_cases c16 : j ≤ i
      · skip
        obtain ⟨M17, eM17⟩ : ∃ z, em_pL M 131 (((((60 : Int32) * other) + j) + k)).toNatClampNeg (M.2 131 (((((60 : Int32) * tape) + i) + k)).toNatClampNeg) = z := ⟨_, rfl⟩
        have fM17 : M17.2 c = M.2 c := by rw [← eM17]; exact ef_pL' _ _ _ _ (by omega)
        rw [show et_X12_shift_135  (fu + 1) M tape i other j n k = et_X12_shift_135 fu M17 tape i other j n (k + (1 : Int32)) from by simp only [et_X12_shift_135, if_neg c15, if_pos c16, eM17]]
        exact (ih _ _ _ _ _ _ _).trans (fM17)
      · skip
        obtain ⟨M18, eM18⟩ : ∃ z, em_pL M 131 (((((60 : Int32) * other) + j) + ((n - (1 : Int32)) - k))).toNatClampNeg (M.2 131 (((((60 : Int32) * tape) + i) + ((n - (1 : Int32)) - k))).toNatClampNeg) = z := ⟨_, rfl⟩
        have fM18 : M18.2 c = M.2 c := by rw [← eM18]; exact ef_pL' _ _ _ _ (by omega)
        rw [show et_X12_shift_135  (fu + 1) M tape i other j n k = et_X12_shift_135 fu M18 tape i other j n (k + (1 : Int32)) from by simp only [et_X12_shift_135, if_neg c15, if_neg c16, eM18]]
        exact (ih _ _ _ _ _ _ _).trans (fM18)
theorem ef1_X12_shift  (M : em_M) (tape : Int32) (i : Int32) (other : Int32) (j : Int32) (n : Int32) {c : Nat} (h : c < 118 ∨ 131 < c) : (et_X12_shift M tape i other j n).2.1 c = M.1 c := by
  obtain ⟨r1, er1⟩ : ∃ z, et_X12_in M ((tape).toInt64) (0 : Int64) (5 : Int64) = z := ⟨_, rfl⟩
  by_cases c2 : r1 = 0
  · skip
    rw [show et_X12_shift M tape i other j n = ((-1 : Int32), M) from by simp only [et_X12_shift, er1, if_pos c2]]
    all_goals rfl
  · skip
    obtain ⟨r3, er3⟩ : ∃ z, et_X12_in M ((other).toInt64) (0 : Int64) (5 : Int64) = z := ⟨_, rfl⟩
    by_cases c4 : r3 = 0
    · skip
      rw [show et_X12_shift M tape i other j n = ((-1 : Int32), M) from by simp only [et_X12_shift, er1, if_neg c2, er3, if_pos c4]]
      all_goals rfl
    · skip
      by_cases c5 : (M.1 129 (tape).toNatClampNeg) = (-1 : Int32)
      · skip
        rw [show et_X12_shift M tape i other j n = ((-11 : Int32), M) from by simp only [et_X12_shift, er1, if_neg c2, er3, if_neg c4, if_pos c5]]
        all_goals rfl
      · skip
        by_cases c6 : (M.1 129 (other).toNatClampNeg) = (-1 : Int32)
        · skip
          rw [show et_X12_shift M tape i other j n = ((-11 : Int32), M) from by simp only [et_X12_shift, er1, if_neg c2, er3, if_neg c4, if_neg c5, if_pos c6]]
          all_goals rfl
        · skip
          by_cases c7 : (M.1 129 (tape).toNatClampNeg) = (M.1 129 (other).toNatClampNeg)
          · skip
            by_cases c8 : n < 0
            · skip
              rw [show et_X12_shift M tape i other j n = ((-13 : Int32), M) from by simp only [et_X12_shift, er1, if_neg c2, er3, if_neg c4, if_neg c5, if_neg c6, if_pos c7, if_pos c8]]
              all_goals rfl
            · skip
              by_cases c9 : i < 0
              · skip
                rw [show et_X12_shift M tape i other j n = ((-13 : Int32), M) from by simp only [et_X12_shift, er1, if_neg c2, er3, if_neg c4, if_neg c5, if_neg c6, if_pos c7, if_neg c8, if_pos c9]]
                all_goals rfl
              · skip
                by_cases c10 : j < 0
                · skip
                  rw [show et_X12_shift M tape i other j n = ((-13 : Int32), M) from by simp only [et_X12_shift, er1, if_neg c2, er3, if_neg c4, if_neg c5, if_neg c6, if_pos c7, if_neg c8, if_neg c9, if_pos c10]]
                  all_goals rfl
                · skip
                  by_cases c11 : (M.1 130 (tape).toNatClampNeg) < i
                  · skip
                    rw [show et_X12_shift M tape i other j n = ((-13 : Int32), M) from by simp only [et_X12_shift, er1, if_neg c2, er3, if_neg c4, if_neg c5, if_neg c6, if_pos c7, if_neg c8, if_neg c9, if_neg c10, if_pos c11]]
                    all_goals rfl
                  · skip
                    by_cases c12 : (M.1 130 (other).toNatClampNeg) < j
                    · skip
                      rw [show et_X12_shift M tape i other j n = ((-13 : Int32), M) from by simp only [et_X12_shift, er1, if_neg c2, er3, if_neg c4, if_neg c5, if_neg c6, if_pos c7, if_neg c8, if_neg c9, if_neg c10, if_neg c11, if_pos c12]]
                      all_goals rfl
                    · skip
                      by_cases c13 : ((M.1 130 (tape).toNatClampNeg) - i) < n
                      · skip
                        rw [show et_X12_shift M tape i other j n = ((-13 : Int32), M) from by simp only [et_X12_shift, er1, if_neg c2, er3, if_neg c4, if_neg c5, if_neg c6, if_pos c7, if_neg c8, if_neg c9, if_neg c10, if_neg c11, if_neg c12, if_pos c13]]
                        all_goals rfl
                      · skip
                        by_cases c14 : n ≤ ((M.1 130 (other).toNatClampNeg) - j)
                        · skip
                          rw [show et_X12_shift M tape i other j n = et_X12_shift_135 (n.toNatClampNeg + 1) M tape i other j n (0 : Int32) from by simp only [et_X12_shift, er1, if_neg c2, er3, if_neg c4, if_neg c5, if_neg c6, if_pos c7, if_neg c8, if_neg c9, if_neg c10, if_neg c11, if_neg c12, if_neg c13, if_pos c14]]
                          exact (ef1_X12_shift_135  (by omega) _ _ _ _ _ _ _ _)
                        · skip
                          rw [show et_X12_shift M tape i other j n = ((-13 : Int32), M) from by simp only [et_X12_shift, er1, if_neg c2, er3, if_neg c4, if_neg c5, if_neg c6, if_pos c7, if_neg c8, if_neg c9, if_neg c10, if_neg c11, if_neg c12, if_neg c13, if_neg c14]]
                          all_goals rfl
          · skip
            rw [show et_X12_shift M tape i other j n = ((-12 : Int32), M) from by simp only [et_X12_shift, er1, if_neg c2, er3, if_neg c4, if_neg c5, if_neg c6, if_neg c7]]
            all_goals rfl
theorem ef2_X12_shift  (M : em_M) (tape : Int32) (i : Int32) (other : Int32) (j : Int32) (n : Int32) {c : Nat} (h : c < 118 ∨ 131 < c) : (et_X12_shift M tape i other j n).2.2 c = M.2 c := by
  obtain ⟨r1, er1⟩ : ∃ z, et_X12_in M ((tape).toInt64) (0 : Int64) (5 : Int64) = z := ⟨_, rfl⟩
  by_cases c2 : r1 = 0
  · skip
    rw [show et_X12_shift M tape i other j n = ((-1 : Int32), M) from by simp only [et_X12_shift, er1, if_pos c2]]
    all_goals rfl
  · skip
    obtain ⟨r3, er3⟩ : ∃ z, et_X12_in M ((other).toInt64) (0 : Int64) (5 : Int64) = z := ⟨_, rfl⟩
    by_cases c4 : r3 = 0
    · skip
      rw [show et_X12_shift M tape i other j n = ((-1 : Int32), M) from by simp only [et_X12_shift, er1, if_neg c2, er3, if_pos c4]]
      all_goals rfl
    · skip
      by_cases c5 : (M.1 129 (tape).toNatClampNeg) = (-1 : Int32)
      · skip
        rw [show et_X12_shift M tape i other j n = ((-11 : Int32), M) from by simp only [et_X12_shift, er1, if_neg c2, er3, if_neg c4, if_pos c5]]
        all_goals rfl
      · skip
        by_cases c6 : (M.1 129 (other).toNatClampNeg) = (-1 : Int32)
        · skip
          rw [show et_X12_shift M tape i other j n = ((-11 : Int32), M) from by simp only [et_X12_shift, er1, if_neg c2, er3, if_neg c4, if_neg c5, if_pos c6]]
          all_goals rfl
        · skip
          by_cases c7 : (M.1 129 (tape).toNatClampNeg) = (M.1 129 (other).toNatClampNeg)
          · skip
            by_cases c8 : n < 0
            · skip
              rw [show et_X12_shift M tape i other j n = ((-13 : Int32), M) from by simp only [et_X12_shift, er1, if_neg c2, er3, if_neg c4, if_neg c5, if_neg c6, if_pos c7, if_pos c8]]
              all_goals rfl
            · skip
              by_cases c9 : i < 0
              · skip
                rw [show et_X12_shift M tape i other j n = ((-13 : Int32), M) from by simp only [et_X12_shift, er1, if_neg c2, er3, if_neg c4, if_neg c5, if_neg c6, if_pos c7, if_neg c8, if_pos c9]]
                all_goals rfl
              · skip
                by_cases c10 : j < 0
                · skip
                  rw [show et_X12_shift M tape i other j n = ((-13 : Int32), M) from by simp only [et_X12_shift, er1, if_neg c2, er3, if_neg c4, if_neg c5, if_neg c6, if_pos c7, if_neg c8, if_neg c9, if_pos c10]]
                  all_goals rfl
                · skip
                  by_cases c11 : (M.1 130 (tape).toNatClampNeg) < i
                  · skip
                    rw [show et_X12_shift M tape i other j n = ((-13 : Int32), M) from by simp only [et_X12_shift, er1, if_neg c2, er3, if_neg c4, if_neg c5, if_neg c6, if_pos c7, if_neg c8, if_neg c9, if_neg c10, if_pos c11]]
                    all_goals rfl
                  · skip
                    by_cases c12 : (M.1 130 (other).toNatClampNeg) < j
                    · skip
                      rw [show et_X12_shift M tape i other j n = ((-13 : Int32), M) from by simp only [et_X12_shift, er1, if_neg c2, er3, if_neg c4, if_neg c5, if_neg c6, if_pos c7, if_neg c8, if_neg c9, if_neg c10, if_neg c11, if_pos c12]]
                      all_goals rfl
                    · skip
                      by_cases c13 : ((M.1 130 (tape).toNatClampNeg) - i) < n
                      · skip
                        rw [show et_X12_shift M tape i other j n = ((-13 : Int32), M) from by simp only [et_X12_shift, er1, if_neg c2, er3, if_neg c4, if_neg c5, if_neg c6, if_pos c7, if_neg c8, if_neg c9, if_neg c10, if_neg c11, if_neg c12, if_pos c13]]
                        all_goals rfl
                      · skip
                        by_cases c14 : n ≤ ((M.1 130 (other).toNatClampNeg) - j)
                        · skip
                          rw [show et_X12_shift M tape i other j n = et_X12_shift_135 (n.toNatClampNeg + 1) M tape i other j n (0 : Int32) from by simp only [et_X12_shift, er1, if_neg c2, er3, if_neg c4, if_neg c5, if_neg c6, if_pos c7, if_neg c8, if_neg c9, if_neg c10, if_neg c11, if_neg c12, if_neg c13, if_pos c14]]
                          exact (ef2_X12_shift_135  (by omega) _ _ _ _ _ _ _ _)
                        · skip
                          rw [show et_X12_shift M tape i other j n = ((-13 : Int32), M) from by simp only [et_X12_shift, er1, if_neg c2, er3, if_neg c4, if_neg c5, if_neg c6, if_pos c7, if_neg c8, if_neg c9, if_neg c10, if_neg c11, if_neg c12, if_neg c13, if_neg c14]]
                          all_goals rfl
          · skip
            rw [show et_X12_shift M tape i other j n = ((-12 : Int32), M) from by simp only [et_X12_shift, er1, if_neg c2, er3, if_neg c4, if_neg c5, if_neg c6, if_neg c7]]
            all_goals rfl
