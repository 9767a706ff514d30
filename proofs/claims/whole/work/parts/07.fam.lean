def ew (w : Nat) : Prop := w = 21 ∨ w = 55 ∨ w = 79
theorem ew_21 : ew 21 := by unfold ew; decide
theorem ew_55 : ew 55 := by unfold ew; decide
theorem ew_79 : ew 79 := by unfold ew; decide
theorem kw_lt {w : Nat} (h : ew w) (k : Nat) (hk : k < 24) : w + k < 132 := by
  rcases h with rfl | rfl | rfl <;> omega
theorem kw_0 {w : Nat} (h : ew w) : em_kd (w + 0) = (10, 2) := by
  rcases h with rfl | rfl | rfl <;> rfl
theorem rw_0_0 {w : Nat} (h : ew w) : em_R (w + 0) 0 = some (w + 1) := by
  rcases h with rfl | rfl | rfl <;> rfl
theorem rw_0_1 {w : Nat} (h : ew w) : em_R (w + 0) 1 = some (w + 2) := by
  rcases h with rfl | rfl | rfl <;> rfl
theorem kw_1 {w : Nat} (h : ew w) : em_kd (w + 1) = (20, 4) := by
  rcases h with rfl | rfl | rfl <;> rfl
theorem kw_2 {w : Nat} (h : ew w) : em_kd (w + 2) = (20, 3) := by
  rcases h with rfl | rfl | rfl <;> rfl
theorem kw_3 {w : Nat} (h : ew w) : em_kd (w + 3) = (3, 15) := by
  rcases h with rfl | rfl | rfl <;> rfl
theorem rw_3_0 {w : Nat} (h : ew w) : em_R (w + 3) 0 = some (w + 4) := by
  rcases h with rfl | rfl | rfl <;> rfl
theorem rw_3_1 {w : Nat} (h : ew w) : em_R (w + 3) 1 = some (1) := by
  rcases h with rfl | rfl | rfl <;> rfl
theorem rw_3_2 {w : Nat} (h : ew w) : em_R (w + 3) 2 = some (w + 0) := by
  rcases h with rfl | rfl | rfl <;> rfl
theorem rw_3_3 {w : Nat} (h : ew w) : em_R (w + 3) 3 = some (w + 6) := by
  rcases h with rfl | rfl | rfl <;> rfl
theorem rw_3_4 {w : Nat} (h : ew w) : em_R (w + 3) 4 = some (w + 8) := by
  rcases h with rfl | rfl | rfl <;> rfl
theorem rw_3_5 {w : Nat} (h : ew w) : em_R (w + 3) 5 = some (w + 17) := by
  rcases h with rfl | rfl | rfl <;> rfl
theorem rw_3_6 {w : Nat} (h : ew w) : em_R (w + 3) 6 = some (w + 22) := by
  rcases h with rfl | rfl | rfl <;> rfl
theorem rw_3_7 {w : Nat} (h : ew w) : em_R (w + 3) 7 = some (w + 23) := by
  rcases h with rfl | rfl | rfl <;> rfl
theorem kw_4 {w : Nat} (h : ew w) : em_kd (w + 4) = (4, 6) := by
  rcases h with rfl | rfl | rfl <;> rfl
theorem rw_4_4 {w : Nat} (h : ew w) : em_R (w + 4) 4 = some (w + 5) := by
  rcases h with rfl | rfl | rfl <;> rfl
theorem kw_5 {w : Nat} (h : ew w) : em_kd (w + 5) = (20, 40) := by
  rcases h with rfl | rfl | rfl <;> rfl
theorem kw_6 {w : Nat} (h : ew w) : em_kd (w + 6) = (7, 2) := by
  rcases h with rfl | rfl | rfl <;> rfl
theorem rw_6_1 {w : Nat} (h : ew w) : em_R (w + 6) 1 = some (w + 7) := by
  rcases h with rfl | rfl | rfl <;> rfl
theorem kw_7 {w : Nat} (h : ew w) : em_kd (w + 7) = (21, 1204) := by
  rcases h with rfl | rfl | rfl <;> rfl
theorem kw_8 {w : Nat} (h : ew w) : em_kd (w + 8) = (0, 9) := by
  rcases h with rfl | rfl | rfl <;> rfl
theorem rw_8_1 {w : Nat} (h : ew w) : em_R (w + 8) 1 = some (w + 9) := by
  rcases h with rfl | rfl | rfl <;> rfl
theorem rw_8_2 {w : Nat} (h : ew w) : em_R (w + 8) 2 = some (w + 10) := by
  rcases h with rfl | rfl | rfl <;> rfl
theorem rw_8_3 {w : Nat} (h : ew w) : em_R (w + 8) 3 = some (w + 11) := by
  rcases h with rfl | rfl | rfl <;> rfl
theorem rw_8_4 {w : Nat} (h : ew w) : em_R (w + 8) 4 = some (w + 12) := by
  rcases h with rfl | rfl | rfl <;> rfl
theorem rw_8_5 {w : Nat} (h : ew w) : em_R (w + 8) 5 = some (w + 13) := by
  rcases h with rfl | rfl | rfl <;> rfl
theorem rw_8_6 {w : Nat} (h : ew w) : em_R (w + 8) 6 = some (w + 14) := by
  rcases h with rfl | rfl | rfl <;> rfl
theorem rw_8_7 {w : Nat} (h : ew w) : em_R (w + 8) 7 = some (w + 15) := by
  rcases h with rfl | rfl | rfl <;> rfl
theorem rw_8_8 {w : Nat} (h : ew w) : em_R (w + 8) 8 = some (w + 16) := by
  rcases h with rfl | rfl | rfl <;> rfl
theorem kw_9 {w : Nat} (h : ew w) : em_kd (w + 9) = (20, 301) := by
  rcases h with rfl | rfl | rfl <;> rfl
theorem kw_10 {w : Nat} (h : ew w) : em_kd (w + 10) = (20, 301) := by
  rcases h with rfl | rfl | rfl <;> rfl
theorem kw_11 {w : Nat} (h : ew w) : em_kd (w + 11) = (20, 301) := by
  rcases h with rfl | rfl | rfl <;> rfl
theorem kw_12 {w : Nat} (h : ew w) : em_kd (w + 12) = (20, 301) := by
  rcases h with rfl | rfl | rfl <;> rfl
theorem kw_13 {w : Nat} (h : ew w) : em_kd (w + 13) = (20, 301) := by
  rcases h with rfl | rfl | rfl <;> rfl
theorem kw_14 {w : Nat} (h : ew w) : em_kd (w + 14) = (20, 301) := by
  rcases h with rfl | rfl | rfl <;> rfl
theorem kw_15 {w : Nat} (h : ew w) : em_kd (w + 15) = (20, 301) := by
  rcases h with rfl | rfl | rfl <;> rfl
theorem kw_16 {w : Nat} (h : ew w) : em_kd (w + 16) = (21, 301) := by
  rcases h with rfl | rfl | rfl <;> rfl
theorem kw_17 {w : Nat} (h : ew w) : em_kd (w + 17) = (9, 5) := by
  rcases h with rfl | rfl | rfl <;> rfl
theorem rw_17_1 {w : Nat} (h : ew w) : em_R (w + 17) 1 = some (w + 18) := by
  rcases h with rfl | rfl | rfl <;> rfl
theorem rw_17_2 {w : Nat} (h : ew w) : em_R (w + 17) 2 = some (w + 19) := by
  rcases h with rfl | rfl | rfl <;> rfl
theorem rw_17_3 {w : Nat} (h : ew w) : em_R (w + 17) 3 = some (w + 20) := by
  rcases h with rfl | rfl | rfl <;> rfl
theorem rw_17_4 {w : Nat} (h : ew w) : em_R (w + 17) 4 = some (w + 21) := by
  rcases h with rfl | rfl | rfl <;> rfl
theorem kw_18 {w : Nat} (h : ew w) : em_kd (w + 18) = (20, 301) := by
  rcases h with rfl | rfl | rfl <;> rfl
theorem kw_19 {w : Nat} (h : ew w) : em_kd (w + 19) = (20, 301) := by
  rcases h with rfl | rfl | rfl <;> rfl
theorem kw_20 {w : Nat} (h : ew w) : em_kd (w + 20) = (20, 301) := by
  rcases h with rfl | rfl | rfl <;> rfl
theorem kw_21 {w : Nat} (h : ew w) : em_kd (w + 21) = (20, 301) := by
  rcases h with rfl | rfl | rfl <;> rfl
theorem kw_22 {w : Nat} (h : ew w) : em_kd (w + 22) = (20, 301) := by
  rcases h with rfl | rfl | rfl <;> rfl
theorem kw_23 {w : Nat} (h : ew w) : em_kd (w + 23) = (20, 301) := by
  rcases h with rfl | rfl | rfl <;> rfl
def er (r : Nat) : Prop := r = 12 ∨ r = 15 ∨ r = 18 ∨ r = 46 ∨ r = 49 ∨ r = 52
theorem er_12 : er 12 := by unfold er; decide
theorem er_15 : er 15 := by unfold er; decide
theorem er_18 : er 18 := by unfold er; decide
theorem er_46 : er 46 := by unfold er; decide
theorem er_49 : er 49 := by unfold er; decide
theorem er_52 : er 52 := by unfold er; decide
theorem kr_lt {r : Nat} (h : er r) (k : Nat) (hk : k < 3) : r + k < 132 := by
  rcases h with rfl | rfl | rfl | rfl | rfl | rfl <;> omega
theorem kr_0 {r : Nat} (h : er r) : em_kd (r + 0) = (6, 4) := by
  rcases h with rfl | rfl | rfl | rfl | rfl | rfl <;> rfl
theorem rr_0_1 {r : Nat} (h : er r) : em_R (r + 0) 1 = some (r + 1) := by
  rcases h with rfl | rfl | rfl | rfl | rfl | rfl <;> rfl
theorem rr_0_2 {r : Nat} (h : er r) : em_R (r + 0) 2 = some (r + 2) := by
  rcases h with rfl | rfl | rfl | rfl | rfl | rfl <;> rfl
theorem kr_1 {r : Nat} (h : er r) : em_kd (r + 1) = (20, 10) := by
  rcases h with rfl | rfl | rfl | rfl | rfl | rfl <;> rfl
theorem kr_2 {r : Nat} (h : er r) : em_kd (r + 2) = (20, 10) := by
  rcases h with rfl | rfl | rfl | rfl | rfl | rfl <;> rfl
def ek (k : Nat) : Prop := k = 11 ∨ k = 45
theorem ek_11 : ek 11 := by unfold ek; decide
theorem ek_45 : ek 45 := by unfold ek; decide
theorem kk_lt {k : Nat} (h : ek k) (k : Nat) (hk : k < 34) : k + k < 132 := by
  rcases h with rfl | rfl <;> omega
theorem kk_0 {k : Nat} (h : ek k) : em_kd (k + 0) = (1, 5) := by
  rcases h with rfl | rfl <;> rfl
theorem rk_0_0 {k : Nat} (h : ek k) : em_R (k + 0) 0 = some (k + 10) := by
  rcases h with rfl | rfl <;> rfl
theorem rk_0_1 {k : Nat} (h : ek k) : em_R (k + 0) 1 = some (k + 13) := by
  rcases h with rfl | rfl <;> rfl
theorem rk_0_2 {k : Nat} (h : ek k) : em_R (k + 0) 2 = some (k + 1) := by
  rcases h with rfl | rfl <;> rfl
theorem rk_0_3 {k : Nat} (h : ek k) : em_R (k + 0) 3 = some (k + 4) := by
  rcases h with rfl | rfl <;> rfl
theorem rk_0_4 {k : Nat} (h : ek k) : em_R (k + 0) 4 = some (k + 7) := by
  rcases h with rfl | rfl <;> rfl
theorem kk_1 {k : Nat} (h : ek k) : em_kd (k + 1) = (6, 4) := by
  rcases h with rfl | rfl <;> rfl
theorem rk_1_1 {k : Nat} (h : ek k) : em_R (k + 1) 1 = some (k + 2) := by
  rcases h with rfl | rfl <;> rfl
theorem rk_1_2 {k : Nat} (h : ek k) : em_R (k + 1) 2 = some (k + 3) := by
  rcases h with rfl | rfl <;> rfl
theorem kk_2 {k : Nat} (h : ek k) : em_kd (k + 2) = (20, 10) := by
  rcases h with rfl | rfl <;> rfl
theorem kk_3 {k : Nat} (h : ek k) : em_kd (k + 3) = (20, 10) := by
  rcases h with rfl | rfl <;> rfl
theorem kk_4 {k : Nat} (h : ek k) : em_kd (k + 4) = (6, 4) := by
  rcases h with rfl | rfl <;> rfl
theorem rk_4_1 {k : Nat} (h : ek k) : em_R (k + 4) 1 = some (k + 5) := by
  rcases h with rfl | rfl <;> rfl
theorem rk_4_2 {k : Nat} (h : ek k) : em_R (k + 4) 2 = some (k + 6) := by
  rcases h with rfl | rfl <;> rfl
theorem kk_5 {k : Nat} (h : ek k) : em_kd (k + 5) = (20, 10) := by
  rcases h with rfl | rfl <;> rfl
theorem kk_6 {k : Nat} (h : ek k) : em_kd (k + 6) = (20, 10) := by
  rcases h with rfl | rfl <;> rfl
theorem kk_7 {k : Nat} (h : ek k) : em_kd (k + 7) = (6, 4) := by
  rcases h with rfl | rfl <;> rfl
theorem rk_7_1 {k : Nat} (h : ek k) : em_R (k + 7) 1 = some (k + 8) := by
  rcases h with rfl | rfl <;> rfl
theorem rk_7_2 {k : Nat} (h : ek k) : em_R (k + 7) 2 = some (k + 9) := by
  rcases h with rfl | rfl <;> rfl
theorem kk_8 {k : Nat} (h : ek k) : em_kd (k + 8) = (20, 10) := by
  rcases h with rfl | rfl <;> rfl
theorem kk_9 {k : Nat} (h : ek k) : em_kd (k + 9) = (20, 10) := by
  rcases h with rfl | rfl <;> rfl
theorem kk_10 {k : Nat} (h : ek k) : em_kd (k + 10) = (10, 2) := by
  rcases h with rfl | rfl <;> rfl
theorem rk_10_0 {k : Nat} (h : ek k) : em_R (k + 10) 0 = some (k + 11) := by
  rcases h with rfl | rfl <;> rfl
theorem rk_10_1 {k : Nat} (h : ek k) : em_R (k + 10) 1 = some (k + 12) := by
  rcases h with rfl | rfl <;> rfl
theorem kk_11 {k : Nat} (h : ek k) : em_kd (k + 11) = (20, 4) := by
  rcases h with rfl | rfl <;> rfl
theorem kk_12 {k : Nat} (h : ek k) : em_kd (k + 12) = (20, 3) := by
  rcases h with rfl | rfl <;> rfl
theorem kk_13 {k : Nat} (h : ek k) : em_kd (k + 13) = (3, 15) := by
  rcases h with rfl | rfl <;> rfl
theorem rk_13_0 {k : Nat} (h : ek k) : em_R (k + 13) 0 = some (k + 14) := by
  rcases h with rfl | rfl <;> rfl
theorem rk_13_1 {k : Nat} (h : ek k) : em_R (k + 13) 1 = some (1) := by
  rcases h with rfl | rfl <;> rfl
theorem rk_13_2 {k : Nat} (h : ek k) : em_R (k + 13) 2 = some (k + 10) := by
  rcases h with rfl | rfl <;> rfl
theorem rk_13_3 {k : Nat} (h : ek k) : em_R (k + 13) 3 = some (k + 16) := by
  rcases h with rfl | rfl <;> rfl
theorem rk_13_4 {k : Nat} (h : ek k) : em_R (k + 13) 4 = some (k + 18) := by
  rcases h with rfl | rfl <;> rfl
theorem rk_13_5 {k : Nat} (h : ek k) : em_R (k + 13) 5 = some (k + 27) := by
  rcases h with rfl | rfl <;> rfl
theorem rk_13_6 {k : Nat} (h : ek k) : em_R (k + 13) 6 = some (k + 32) := by
  rcases h with rfl | rfl <;> rfl
theorem rk_13_7 {k : Nat} (h : ek k) : em_R (k + 13) 7 = some (k + 33) := by
  rcases h with rfl | rfl <;> rfl
theorem kk_14 {k : Nat} (h : ek k) : em_kd (k + 14) = (4, 6) := by
  rcases h with rfl | rfl <;> rfl
theorem rk_14_4 {k : Nat} (h : ek k) : em_R (k + 14) 4 = some (k + 15) := by
  rcases h with rfl | rfl <;> rfl
theorem kk_15 {k : Nat} (h : ek k) : em_kd (k + 15) = (20, 40) := by
  rcases h with rfl | rfl <;> rfl
theorem kk_16 {k : Nat} (h : ek k) : em_kd (k + 16) = (7, 2) := by
  rcases h with rfl | rfl <;> rfl
theorem rk_16_1 {k : Nat} (h : ek k) : em_R (k + 16) 1 = some (k + 17) := by
  rcases h with rfl | rfl <;> rfl
theorem kk_17 {k : Nat} (h : ek k) : em_kd (k + 17) = (21, 1204) := by
  rcases h with rfl | rfl <;> rfl
theorem kk_18 {k : Nat} (h : ek k) : em_kd (k + 18) = (0, 9) := by
  rcases h with rfl | rfl <;> rfl
theorem rk_18_1 {k : Nat} (h : ek k) : em_R (k + 18) 1 = some (k + 19) := by
  rcases h with rfl | rfl <;> rfl
theorem rk_18_2 {k : Nat} (h : ek k) : em_R (k + 18) 2 = some (k + 20) := by
  rcases h with rfl | rfl <;> rfl
theorem rk_18_3 {k : Nat} (h : ek k) : em_R (k + 18) 3 = some (k + 21) := by
  rcases h with rfl | rfl <;> rfl
theorem rk_18_4 {k : Nat} (h : ek k) : em_R (k + 18) 4 = some (k + 22) := by
  rcases h with rfl | rfl <;> rfl
theorem rk_18_5 {k : Nat} (h : ek k) : em_R (k + 18) 5 = some (k + 23) := by
  rcases h with rfl | rfl <;> rfl
theorem rk_18_6 {k : Nat} (h : ek k) : em_R (k + 18) 6 = some (k + 24) := by
  rcases h with rfl | rfl <;> rfl
theorem rk_18_7 {k : Nat} (h : ek k) : em_R (k + 18) 7 = some (k + 25) := by
  rcases h with rfl | rfl <;> rfl
theorem rk_18_8 {k : Nat} (h : ek k) : em_R (k + 18) 8 = some (k + 26) := by
  rcases h with rfl | rfl <;> rfl
theorem kk_19 {k : Nat} (h : ek k) : em_kd (k + 19) = (20, 301) := by
  rcases h with rfl | rfl <;> rfl
theorem kk_20 {k : Nat} (h : ek k) : em_kd (k + 20) = (20, 301) := by
  rcases h with rfl | rfl <;> rfl
theorem kk_21 {k : Nat} (h : ek k) : em_kd (k + 21) = (20, 301) := by
  rcases h with rfl | rfl <;> rfl
theorem kk_22 {k : Nat} (h : ek k) : em_kd (k + 22) = (20, 301) := by
  rcases h with rfl | rfl <;> rfl
theorem kk_23 {k : Nat} (h : ek k) : em_kd (k + 23) = (20, 301) := by
  rcases h with rfl | rfl <;> rfl
theorem kk_24 {k : Nat} (h : ek k) : em_kd (k + 24) = (20, 301) := by
  rcases h with rfl | rfl <;> rfl
theorem kk_25 {k : Nat} (h : ek k) : em_kd (k + 25) = (20, 301) := by
  rcases h with rfl | rfl <;> rfl
theorem kk_26 {k : Nat} (h : ek k) : em_kd (k + 26) = (21, 301) := by
  rcases h with rfl | rfl <;> rfl
theorem kk_27 {k : Nat} (h : ek k) : em_kd (k + 27) = (9, 5) := by
  rcases h with rfl | rfl <;> rfl
theorem rk_27_1 {k : Nat} (h : ek k) : em_R (k + 27) 1 = some (k + 28) := by
  rcases h with rfl | rfl <;> rfl
theorem rk_27_2 {k : Nat} (h : ek k) : em_R (k + 27) 2 = some (k + 29) := by
  rcases h with rfl | rfl <;> rfl
theorem rk_27_3 {k : Nat} (h : ek k) : em_R (k + 27) 3 = some (k + 30) := by
  rcases h with rfl | rfl <;> rfl
theorem rk_27_4 {k : Nat} (h : ek k) : em_R (k + 27) 4 = some (k + 31) := by
  rcases h with rfl | rfl <;> rfl
theorem kk_28 {k : Nat} (h : ek k) : em_kd (k + 28) = (20, 301) := by
  rcases h with rfl | rfl <;> rfl
theorem kk_29 {k : Nat} (h : ek k) : em_kd (k + 29) = (20, 301) := by
  rcases h with rfl | rfl <;> rfl
theorem kk_30 {k : Nat} (h : ek k) : em_kd (k + 30) = (20, 301) := by
  rcases h with rfl | rfl <;> rfl
theorem kk_31 {k : Nat} (h : ek k) : em_kd (k + 31) = (20, 301) := by
  rcases h with rfl | rfl <;> rfl
theorem kk_32 {k : Nat} (h : ek k) : em_kd (k + 32) = (20, 301) := by
  rcases h with rfl | rfl <;> rfl
theorem kk_33 {k : Nat} (h : ek k) : em_kd (k + 33) = (20, 301) := by
  rcases h with rfl | rfl <;> rfl
def eo (o : Nat) : Prop := o = 25 ∨ o = 59 ∨ o = 83 ∨ o = 103
theorem eo_25 : eo 25 := by unfold eo; decide
theorem eo_59 : eo 59 := by unfold eo; decide
theorem eo_83 : eo 83 := by unfold eo; decide
theorem eo_103 : eo 103 := by unfold eo; decide
theorem ko_lt {o : Nat} (h : eo o) (k : Nat) (hk : k < 2) : o + k < 132 := by
  rcases h with rfl | rfl | rfl | rfl <;> omega
theorem ko_0 {o : Nat} (h : eo o) : em_kd (o + 0) = (4, 6) := by
  rcases h with rfl | rfl | rfl | rfl <;> rfl
theorem ro_0_4 {o : Nat} (h : eo o) : em_R (o + 0) 4 = some (o + 1) := by
  rcases h with rfl | rfl | rfl | rfl <;> rfl
theorem ko_1 {o : Nat} (h : eo o) : em_kd (o + 1) = (20, 40) := by
  rcases h with rfl | rfl | rfl | rfl <;> rfl
def et (t : Nat) : Prop := t = 106 ∨ t = 108 ∨ t = 110 ∨ t = 112 ∨ t = 114 ∨ t = 116
theorem et_106 : et 106 := by unfold et; decide
theorem et_108 : et 108 := by unfold et; decide
theorem et_110 : et 110 := by unfold et; decide
theorem et_112 : et 112 := by unfold et; decide
theorem et_114 : et 114 := by unfold et; decide
theorem et_116 : et 116 := by unfold et; decide
theorem kt_lt {t : Nat} (h : et t) (k : Nat) (hk : k < 2) : t + k < 132 := by
  rcases h with rfl | rfl | rfl | rfl | rfl | rfl <;> omega
theorem kt_0 {t : Nat} (h : et t) : em_kd (t + 0) = (8, 3) := by
  rcases h with rfl | rfl | rfl | rfl | rfl | rfl <;> rfl
theorem rt_0_2 {t : Nat} (h : et t) : em_R (t + 0) 2 = some (t + 1) := by
  rcases h with rfl | rfl | rfl | rfl | rfl | rfl <;> rfl
theorem kt_1 {t : Nat} (h : et t) : em_kd (t + 1) = (21, 60) := by
  rcases h with rfl | rfl | rfl | rfl | rfl | rfl <;> rfl
theorem ew_eo {w : Nat} (h : ew w) : eo (w + 4) := by
  rcases h with rfl | rfl | rfl
  · exact eo_25
  · exact eo_59
  · exact eo_83
theorem ek_ew {k : Nat} (h : ek k) : ew (k + 10) := by
  rcases h with rfl | rfl
  · exact ew_21
  · exact ew_55
theorem ek_er1 {k : Nat} (h : ek k) : er (k + 1) := by
  rcases h with rfl | rfl
  · exact er_12
  · exact er_46
theorem ek_er4 {k : Nat} (h : ek k) : er (k + 4) := by
  rcases h with rfl | rfl
  · exact er_15
  · exact er_49
theorem ek_er7 {k : Nat} (h : ek k) : er (k + 7) := by
  rcases h with rfl | rfl
  · exact er_18
  · exact er_52
theorem ez_lt {a b c : Nat} (h : a = b) (hi : Nat.ble (c + 1) b = true) : c < a := by rw [h]; exact Nat.le_of_ble_eq_true hi
theorem ez_rok {X : em_X} {fr0 lo0 mc0 ms0 fr lo mL mc ms mc' ms' : Nat} (h : ez_rm X = { frames := fr0, cells := mc0, slots := ms0, locals := lo0 }) (hh : (Nat.ble (fr + 1) fr0 && Nat.ble (8 + (mL + 11) + lo) lo0 && Nat.ble (mc + mc') mc0 && Nat.ble (ms + ms') ms0) = true) : fr + 1 ≤ (ez_rm X).frames ∧ 8 + (mL + 11) + lo ≤ (ez_rm X).locals ∧ mc + mc' ≤ (ez_rm X).cells ∧ ms + ms' ≤ (ez_rm X).slots := by
  rw [h]
  simp only [Bool.and_eq_true] at hh
  exact ⟨Nat.le_of_ble_eq_true hh.1.1.1, Nat.le_of_ble_eq_true hh.1.1.2, Nat.le_of_ble_eq_true hh.1.2, Nat.le_of_ble_eq_true hh.2⟩
theorem ez_rok2 {X : em_X} {fr0 lo0 mc0 ms0 a b mc ms : Nat} (h : ez_rm X = { frames := fr0, cells := mc0, slots := ms0, locals := lo0 }) (hh : (Nat.ble a fr0 && Nat.ble b lo0 && Nat.ble mc mc0 && Nat.ble ms ms0) = true) : a ≤ (ez_rm X).frames ∧ b ≤ (ez_rm X).locals ∧ mc ≤ (ez_rm X).cells ∧ ms ≤ (ez_rm X).slots := by
  rw [h]
  simp only [Bool.and_eq_true] at hh
  exact ⟨Nat.le_of_ble_eq_true hh.1.1.1, Nat.le_of_ble_eq_true hh.1.1.2, Nat.le_of_ble_eq_true hh.1.2, Nat.le_of_ble_eq_true hh.2⟩
theorem ez_nmI {X : em_X} {N : Nat} {R : em_Rt} {M : em_M} {mc ms pc : Nat} {lv : List (Nat × Value)} {st : List Value} {t : Int32} (k : ∀ r, t = r → ez_Z X N R M mc ms pc lv (.int r :: st)) : ez_Z X N R M mc ms pc lv (.int t :: st) := k t rfl
theorem ez_nmL {X : em_X} {N : Nat} {R : em_Rt} {M : em_M} {mc ms pc : Nat} {lv : List (Nat × Value)} {st : List Value} {t : Int64} (k : ∀ r, t = r → ez_Z X N R M mc ms pc lv (.long r :: st)) : ez_Z X N R M mc ms pc lv (.long t :: st) := k t rfl
theorem ez_nmM {X : em_X} {N : Nat} {R : em_Rt} {mc ms pc : Nat} {lv : List (Nat × Value)} {st : List Value} {t : em_M} (k : ∀ M', t = M' → ez_Z X N R M' mc ms pc lv st) : ez_Z X N R t mc ms pc lv st := k t rfl
theorem ez_nmIM {X : em_X} {N : Nat} {R : em_Rt} {mc ms pc : Nat} {lv : List (Nat × Value)} {st : List Value} {t : Int32 × em_M} (k : ∀ r M', t = (r, M') → ez_Z X N R M' mc ms pc lv (.int r :: st)) : ez_Z X N R t.2 mc ms pc lv (.int t.1 :: st) := k t.1 t.2 rfl
theorem ez_nmLM {X : em_X} {N : Nat} {R : em_Rt} {mc ms pc : Nat} {lv : List (Nat × Value)} {st : List Value} {t : Int64 × em_M} (k : ∀ r M', t = (r, M') → ez_Z X N R M' mc ms pc lv (.long r :: st)) : ez_Z X N R t.2 mc ms pc lv (.long t.1 :: st) := k t.1 t.2 rfl
theorem ez_lv {X : em_X} {N : Nat} {R : em_Rt} {M : em_M} {mc ms pc : Nat} {lv lv' : List (Nat × Value)} {st : List Value} (ks : List Nat) (h : lv_pick lv ks = lv') (k : ez_Z X N R M mc ms pc lv' st) : ez_Z X N R M mc ms pc lv st := by
  obtain ⟨p, l, e, Rm, s, m, args, below, meth, c, nL, D, B, Q⟩ := X
  intro H locs ls h1 h2 h3
  exact k H locs ls h1 h2 (lv_sub h3 ks h)
theorem ez_tsD {X : em_X} {cc : ByteArray} {own : String} {N : Nat} {R : em_Rt} {M : em_M} {mc ms pc : Nat} {lv : List (Nat × Value)} {st : List Value} (hX : ez_ok X cc own) {dflt lo hi : Int} {offs : Array Int} {len : Nat} {x : Int32} (sp : List Int) (tgt : Nat) (hd : decode cc pc = .ok (.tableswitch dflt lo hi offs, len)) (hx : ∀ v ∈ sp, ¬ x.toInt = v) (hall : ((List.range offs.size).all (fun j => decide (offs[j]? = some dflt) || decide ((lo + (j : Int)) ∈ sp)) && decide (hi - lo + 1 = (offs.size : Int))) = true) (ht : (pc : Int) + dflt = (tgt : Int)) (kk : ez_Z X N R M mc ms tgt lv st) : ez_Z X N R M mc ms pc lv (.int x :: st) := by
  simp only [Bool.and_eq_true, decide_eq_true_eq, List.all_eq_true, List.mem_range, Bool.or_eq_true] at hall
  obtain ⟨hall, hsz⟩ := hall
  by_cases h1 : x.toInt < lo ∨ hi < x.toInt
  · exact ez_tsOut hX tgt hd h1 ht kk
  · have h2 : (x.toInt - lo).toNat < offs.size := by omega
    refine ez_tsIn hX x.toInt dflt tgt hd rfl ⟨by omega, by omega, ?_, ht⟩ kk
    rcases hall _ h2 with h | h
    · exact h
    · exact absurd (by omega) (hx _ h)
theorem ez_lsD {X : em_X} {cc : ByteArray} {own : String} {N : Nat} {R : em_Rt} {M : em_M} {mc ms pc : Nat} {lv : List (Nat × Value)} {st : List Value} (hX : ez_ok X cc own) {dflt : Int} {ps : Array (Int × Int)} {len : Nat} {x : Int32} (tgt : Nat) (hd : decode cc pc = .ok (.lookupswitch dflt ps, len)) (hp : (ps.toList.zip (ps.toList.drop 1)).all (fun (a, next) => a.1 < next.1) = true) (hx : ∀ q ∈ ps.toList, ¬ x.toInt = q.1) (ht : (pc : Int) + dflt = (tgt : Int)) (kk : ez_Z X N R M mc ms tgt lv st) : ez_Z X N R M mc ms pc lv (.int x :: st) := by
  refine ez_ls hX dflt tgt hd hp ?_ ht kk
  generalize ps.toList = l at hx
  induction l with
  | nil => rfl
  | cons q r ih =>
    obtain ⟨a, o⟩ := q
    rw [Op.lookupswitch.offset_cons, if_neg (fun h => hx (a, o) List.mem_cons_self h.symm)]
    exact ih (fun q hq => hx q (List.mem_cons_of_mem _ hq))
theorem wy_X0_init : yX0_init.cls ≠ "java/lang/invoke/MethodHandle" ∧ yX0_init.cls ≠ "java/lang/invoke/VarHandle" ∧ (parseMethodDescriptor yX0_init.desc).map (fun d => d.parameters.length) = some 0 := by decide +kernel
theorem wy_X0_clear : yX0_clear.cls ≠ "java/lang/invoke/MethodHandle" ∧ yX0_clear.cls ≠ "java/lang/invoke/VarHandle" ∧ (parseMethodDescriptor yX0_clear.desc).map (fun d => d.parameters.length) = some 0 := by decide +kernel
theorem wy_X0_below : yX0_below.cls ≠ "java/lang/invoke/MethodHandle" ∧ yX0_below.cls ≠ "java/lang/invoke/VarHandle" ∧ (parseMethodDescriptor yX0_below.desc).map (fun d => d.parameters.length) = some 1 := by decide +kernel
theorem wy_X0_height : yX0_height.cls ≠ "java/lang/invoke/MethodHandle" ∧ yX0_height.cls ≠ "java/lang/invoke/VarHandle" ∧ (parseMethodDescriptor yX0_height.desc).map (fun d => d.parameters.length) = some 1 := by decide +kernel
theorem wy_X0_sort : yX0_sort.cls ≠ "java/lang/invoke/MethodHandle" ∧ yX0_sort.cls ≠ "java/lang/invoke/VarHandle" ∧ (parseMethodDescriptor yX0_sort.desc).map (fun d => d.parameters.length) = some 1 := by decide +kernel
theorem wy_X0_behind : yX0_behind.cls ≠ "java/lang/invoke/MethodHandle" ∧ yX0_behind.cls ≠ "java/lang/invoke/VarHandle" ∧ (parseMethodDescriptor yX0_behind.desc).map (fun d => d.parameters.length) = some 1 := by decide +kernel
theorem wy_X0_expression : yX0_expression.cls ≠ "java/lang/invoke/MethodHandle" ∧ yX0_expression.cls ≠ "java/lang/invoke/VarHandle" ∧ (parseMethodDescriptor yX0_expression.desc).map (fun d => d.parameters.length) = some 1 := by decide +kernel
theorem wy_X0_scope : yX0_scope.cls ≠ "java/lang/invoke/MethodHandle" ∧ yX0_scope.cls ≠ "java/lang/invoke/VarHandle" ∧ (parseMethodDescriptor yX0_scope.desc).map (fun d => d.parameters.length) = some 1 := by decide +kernel
theorem wy_X0_escape : yX0_escape.cls ≠ "java/lang/invoke/MethodHandle" ∧ yX0_escape.cls ≠ "java/lang/invoke/VarHandle" ∧ (parseMethodDescriptor yX0_escape.desc).map (fun d => d.parameters.length) = some 1 := by decide +kernel
theorem wy_X0_kept : yX0_kept.cls ≠ "java/lang/invoke/MethodHandle" ∧ yX0_kept.cls ≠ "java/lang/invoke/VarHandle" ∧ (parseMethodDescriptor yX0_kept.desc).map (fun d => d.parameters.length) = some 1 := by decide +kernel
theorem wy_X0_add : yX0_add.cls ≠ "java/lang/invoke/MethodHandle" ∧ yX0_add.cls ≠ "java/lang/invoke/VarHandle" ∧ (parseMethodDescriptor yX0_add.desc).map (fun d => d.parameters.length) = some 5 := by decide +kernel
theorem wy_X0_keep : yX0_keep.cls ≠ "java/lang/invoke/MethodHandle" ∧ yX0_keep.cls ≠ "java/lang/invoke/VarHandle" ∧ (parseMethodDescriptor yX0_keep.desc).map (fun d => d.parameters.length) = some 3 := by decide +kernel
theorem wy_X0_copyFrom : yX0_copyFrom.cls ≠ "java/lang/invoke/MethodHandle" ∧ yX0_copyFrom.cls ≠ "java/lang/invoke/VarHandle" ∧ (parseMethodDescriptor yX0_copyFrom.desc).map (fun d => d.parameters.length) = some 1 := by decide +kernel
theorem wy_X1_init : yX1_init.cls ≠ "java/lang/invoke/MethodHandle" ∧ yX1_init.cls ≠ "java/lang/invoke/VarHandle" ∧ (parseMethodDescriptor yX1_init.desc).map (fun d => d.parameters.length) = some 1 := by decide +kernel
theorem wy_X1_copyFrom : yX1_copyFrom.cls ≠ "java/lang/invoke/MethodHandle" ∧ yX1_copyFrom.cls ≠ "java/lang/invoke/VarHandle" ∧ (parseMethodDescriptor yX1_copyFrom.desc).map (fun d => d.parameters.length) = some 1 := by decide +kernel
theorem wy_X2_init : yX2_init.cls ≠ "java/lang/invoke/MethodHandle" ∧ yX2_init.cls ≠ "java/lang/invoke/VarHandle" ∧ (parseMethodDescriptor yX2_init.desc).map (fun d => d.parameters.length) = some 0 := by decide +kernel
theorem wy_X2_has : yX2_has.cls ≠ "java/lang/invoke/MethodHandle" ∧ yX2_has.cls ≠ "java/lang/invoke/VarHandle" ∧ (parseMethodDescriptor yX2_has.desc).map (fun d => d.parameters.length) = some 1 := by decide +kernel
theorem wy_X2_root : yX2_root.cls ≠ "java/lang/invoke/MethodHandle" ∧ yX2_root.cls ≠ "java/lang/invoke/VarHandle" ∧ (parseMethodDescriptor yX2_root.desc).map (fun d => d.parameters.length) = some 1 := by decide +kernel
theorem wy_X2_fact : yX2_fact.cls ≠ "java/lang/invoke/MethodHandle" ∧ yX2_fact.cls ≠ "java/lang/invoke/VarHandle" ∧ (parseMethodDescriptor yX2_fact.desc).map (fun d => d.parameters.length) = some 2 := by decide +kernel
theorem wy_X2_kind : yX2_kind.cls ≠ "java/lang/invoke/MethodHandle" ∧ yX2_kind.cls ≠ "java/lang/invoke/VarHandle" ∧ (parseMethodDescriptor yX2_kind.desc).map (fun d => d.parameters.length) = some 1 := by decide +kernel
theorem wy_X2_mark : yX2_mark.cls ≠ "java/lang/invoke/MethodHandle" ∧ yX2_mark.cls ≠ "java/lang/invoke/VarHandle" ∧ (parseMethodDescriptor yX2_mark.desc).map (fun d => d.parameters.length) = some 1 := by decide +kernel
theorem wy_X2_part : yX2_part.cls ≠ "java/lang/invoke/MethodHandle" ∧ yX2_part.cls ≠ "java/lang/invoke/VarHandle" ∧ (parseMethodDescriptor yX2_part.desc).map (fun d => d.parameters.length) = some 2 := by decide +kernel
theorem wy_X2_add : yX2_add.cls ≠ "java/lang/invoke/MethodHandle" ∧ yX2_add.cls ≠ "java/lang/invoke/VarHandle" ∧ (parseMethodDescriptor yX2_add.desc).map (fun d => d.parameters.length) = some 2 := by decide +kernel
theorem wy_X2_link : yX2_link.cls ≠ "java/lang/invoke/MethodHandle" ∧ yX2_link.cls ≠ "java/lang/invoke/VarHandle" ∧ (parseMethodDescriptor yX2_link.desc).map (fun d => d.parameters.length) = some 3 := by decide +kernel
theorem wy_X2_end : yX2_end.cls ≠ "java/lang/invoke/MethodHandle" ∧ yX2_end.cls ≠ "java/lang/invoke/VarHandle" ∧ (parseMethodDescriptor yX2_end.desc).map (fun d => d.parameters.length) = some 1 := by decide +kernel
theorem wy_X2_handDown : yX2_handDown.cls ≠ "java/lang/invoke/MethodHandle" ∧ yX2_handDown.cls ≠ "java/lang/invoke/VarHandle" ∧ (parseMethodDescriptor yX2_handDown.desc).map (fun d => d.parameters.length) = some 1 := by decide +kernel
theorem wy_X2_isLast : yX2_isLast.cls ≠ "java/lang/invoke/MethodHandle" ∧ yX2_isLast.cls ≠ "java/lang/invoke/VarHandle" ∧ (parseMethodDescriptor yX2_isLast.desc).map (fun d => d.parameters.length) = some 2 := by decide +kernel
theorem wy_X2_countIn : yX2_countIn.cls ≠ "java/lang/invoke/MethodHandle" ∧ yX2_countIn.cls ≠ "java/lang/invoke/VarHandle" ∧ (parseMethodDescriptor yX2_countIn.desc).map (fun d => d.parameters.length) = some 2 := by decide +kernel
theorem wy_X3_init : yX3_init.cls ≠ "java/lang/invoke/MethodHandle" ∧ yX3_init.cls ≠ "java/lang/invoke/VarHandle" ∧ (parseMethodDescriptor yX3_init.desc).map (fun d => d.parameters.length) = some 2 := by decide +kernel
theorem wy_X3_start : yX3_start.cls ≠ "java/lang/invoke/MethodHandle" ∧ yX3_start.cls ≠ "java/lang/invoke/VarHandle" ∧ (parseMethodDescriptor yX3_start.desc).map (fun d => d.parameters.length) = some 1 := by decide +kernel
theorem wy_X3_move : yX3_move.cls ≠ "java/lang/invoke/MethodHandle" ∧ yX3_move.cls ≠ "java/lang/invoke/VarHandle" ∧ (parseMethodDescriptor yX3_move.desc).map (fun d => d.parameters.length) = some 1 := by decide +kernel
theorem wy_X3_state : yX3_state.cls ≠ "java/lang/invoke/MethodHandle" ∧ yX3_state.cls ≠ "java/lang/invoke/VarHandle" ∧ (parseMethodDescriptor yX3_state.desc).map (fun d => d.parameters.length) = some 1 := by decide +kernel
theorem wy_X3_work : yX3_work.cls ≠ "java/lang/invoke/MethodHandle" ∧ yX3_work.cls ≠ "java/lang/invoke/VarHandle" ∧ (parseMethodDescriptor yX3_work.desc).map (fun d => d.parameters.length) = some 0 := by decide +kernel
theorem wy_X3_workToGo : yX3_workToGo.cls ≠ "java/lang/invoke/MethodHandle" ∧ yX3_workToGo.cls ≠ "java/lang/invoke/VarHandle" ∧ (parseMethodDescriptor yX3_workToGo.desc).map (fun d => d.parameters.length) = some 1 := by decide +kernel
theorem wy_X3_receive : yX3_receive.cls ≠ "java/lang/invoke/MethodHandle" ∧ yX3_receive.cls ≠ "java/lang/invoke/VarHandle" ∧ (parseMethodDescriptor yX3_receive.desc).map (fun d => d.parameters.length) = some 0 := by decide +kernel
theorem wy_X3_receiveOp : yX3_receiveOp.cls ≠ "java/lang/invoke/MethodHandle" ∧ yX3_receiveOp.cls ≠ "java/lang/invoke/VarHandle" ∧ (parseMethodDescriptor yX3_receiveOp.desc).map (fun d => d.parameters.length) = some 1 := by decide +kernel
theorem wy_X3_made : yX3_made.cls ≠ "java/lang/invoke/MethodHandle" ∧ yX3_made.cls ≠ "java/lang/invoke/VarHandle" ∧ (parseMethodDescriptor yX3_made.desc).map (fun d => d.parameters.length) = some 3 := by decide +kernel
theorem wy_X3_receiveWind : yX3_receiveWind.cls ≠ "java/lang/invoke/MethodHandle" ∧ yX3_receiveWind.cls ≠ "java/lang/invoke/VarHandle" ∧ (parseMethodDescriptor yX3_receiveWind.desc).map (fun d => d.parameters.length) = some 1 := by decide +kernel
theorem wy_X3_call : yX3_call.cls ≠ "java/lang/invoke/MethodHandle" ∧ yX3_call.cls ≠ "java/lang/invoke/VarHandle" ∧ (parseMethodDescriptor yX3_call.desc).map (fun d => d.parameters.length) = some 1 := by decide +kernel
theorem wy_X3_go : yX3_go.cls ≠ "java/lang/invoke/MethodHandle" ∧ yX3_go.cls ≠ "java/lang/invoke/VarHandle" ∧ (parseMethodDescriptor yX3_go.desc).map (fun d => d.parameters.length) = some 2 := by decide +kernel
theorem wy_X3_give : yX3_give.cls ≠ "java/lang/invoke/MethodHandle" ∧ yX3_give.cls ≠ "java/lang/invoke/VarHandle" ∧ (parseMethodDescriptor yX3_give.desc).map (fun d => d.parameters.length) = some 1 := by decide +kernel
theorem wy_X3_workOn : yX3_workOn.cls ≠ "java/lang/invoke/MethodHandle" ∧ yX3_workOn.cls ≠ "java/lang/invoke/VarHandle" ∧ (parseMethodDescriptor yX3_workOn.desc).map (fun d => d.parameters.length) = some 1 := by decide +kernel
theorem wy_X3_lookUp : yX3_lookUp.cls ≠ "java/lang/invoke/MethodHandle" ∧ yX3_lookUp.cls ≠ "java/lang/invoke/VarHandle" ∧ (parseMethodDescriptor yX3_lookUp.desc).map (fun d => d.parameters.length) = some 1 := by decide +kernel
theorem wy_X3_caught : yX3_caught.cls ≠ "java/lang/invoke/MethodHandle" ∧ yX3_caught.cls ≠ "java/lang/invoke/VarHandle" ∧ (parseMethodDescriptor yX3_caught.desc).map (fun d => d.parameters.length) = some 0 := by decide +kernel
theorem wy_X3_comes : yX3_comes.cls ≠ "java/lang/invoke/MethodHandle" ∧ yX3_comes.cls ≠ "java/lang/invoke/VarHandle" ∧ (parseMethodDescriptor yX3_comes.desc).map (fun d => d.parameters.length) = some 2 := by decide +kernel
theorem wy_X3_copyFrom : yX3_copyFrom.cls ≠ "java/lang/invoke/MethodHandle" ∧ yX3_copyFrom.cls ≠ "java/lang/invoke/VarHandle" ∧ (parseMethodDescriptor yX3_copyFrom.desc).map (fun d => d.parameters.length) = some 1 := by decide +kernel
theorem wy_X4_init : yX4_init.cls ≠ "java/lang/invoke/MethodHandle" ∧ yX4_init.cls ≠ "java/lang/invoke/VarHandle" ∧ (parseMethodDescriptor yX4_init.desc).map (fun d => d.parameters.length) = some 0 := by decide +kernel
theorem wy_X4_clear : yX4_clear.cls ≠ "java/lang/invoke/MethodHandle" ∧ yX4_clear.cls ≠ "java/lang/invoke/VarHandle" ∧ (parseMethodDescriptor yX4_clear.desc).map (fun d => d.parameters.length) = some 0 := by decide +kernel
theorem wy_X4_over : yX4_over.cls ≠ "java/lang/invoke/MethodHandle" ∧ yX4_over.cls ≠ "java/lang/invoke/VarHandle" ∧ (parseMethodDescriptor yX4_over.desc).map (fun d => d.parameters.length) = some 1 := by decide +kernel
theorem wy_X4_write : yX4_write.cls ≠ "java/lang/invoke/MethodHandle" ∧ yX4_write.cls ≠ "java/lang/invoke/VarHandle" ∧ (parseMethodDescriptor yX4_write.desc).map (fun d => d.parameters.length) = some 1 := by decide +kernel
theorem wy_X4_answer : yX4_answer.cls ≠ "java/lang/invoke/MethodHandle" ∧ yX4_answer.cls ≠ "java/lang/invoke/VarHandle" ∧ (parseMethodDescriptor yX4_answer.desc).map (fun d => d.parameters.length) = some 1 := by decide +kernel
theorem wy_X4_shows : yX4_shows.cls ≠ "java/lang/invoke/MethodHandle" ∧ yX4_shows.cls ≠ "java/lang/invoke/VarHandle" ∧ (parseMethodDescriptor yX4_shows.desc).map (fun d => d.parameters.length) = some 1 := by decide +kernel
theorem wy_X4_sameAs : yX4_sameAs.cls ≠ "java/lang/invoke/MethodHandle" ∧ yX4_sameAs.cls ≠ "java/lang/invoke/VarHandle" ∧ (parseMethodDescriptor yX4_sameAs.desc).map (fun d => d.parameters.length) = some 1 := by decide +kernel
theorem wy_X4_sum : yX4_sum.cls ≠ "java/lang/invoke/MethodHandle" ∧ yX4_sum.cls ≠ "java/lang/invoke/VarHandle" ∧ (parseMethodDescriptor yX4_sum.desc).map (fun d => d.parameters.length) = some 0 := by decide +kernel
theorem wy_X4_copyFrom : yX4_copyFrom.cls ≠ "java/lang/invoke/MethodHandle" ∧ yX4_copyFrom.cls ≠ "java/lang/invoke/VarHandle" ∧ (parseMethodDescriptor yX4_copyFrom.desc).map (fun d => d.parameters.length) = some 1 := by decide +kernel
theorem wy_X5_init : yX5_init.cls ≠ "java/lang/invoke/MethodHandle" ∧ yX5_init.cls ≠ "java/lang/invoke/VarHandle" ∧ (parseMethodDescriptor yX5_init.desc).map (fun d => d.parameters.length) = some 1 := by decide +kernel
theorem wy_X5_append : yX5_append.cls ≠ "java/lang/invoke/MethodHandle" ∧ yX5_append.cls ≠ "java/lang/invoke/VarHandle" ∧ (parseMethodDescriptor yX5_append.desc).map (fun d => d.parameters.length) = some 1 := by decide +kernel
theorem wy_X5_take : yX5_take.cls ≠ "java/lang/invoke/MethodHandle" ∧ yX5_take.cls ≠ "java/lang/invoke/VarHandle" ∧ (parseMethodDescriptor yX5_take.desc).map (fun d => d.parameters.length) = some 0 := by decide +kernel
theorem wy_X5_sign : yX5_sign.cls ≠ "java/lang/invoke/MethodHandle" ∧ yX5_sign.cls ≠ "java/lang/invoke/VarHandle" ∧ (parseMethodDescriptor yX5_sign.desc).map (fun d => d.parameters.length) = some 0 := by decide +kernel
theorem wy_X5_passed : yX5_passed.cls ≠ "java/lang/invoke/MethodHandle" ∧ yX5_passed.cls ≠ "java/lang/invoke/VarHandle" ∧ (parseMethodDescriptor yX5_passed.desc).map (fun d => d.parameters.length) = some 1 := by decide +kernel
theorem wy_X5_expression : yX5_expression.cls ≠ "java/lang/invoke/MethodHandle" ∧ yX5_expression.cls ≠ "java/lang/invoke/VarHandle" ∧ (parseMethodDescriptor yX5_expression.desc).map (fun d => d.parameters.length) = some 1 := by decide +kernel
theorem wy_X5_digits : yX5_digits.cls ≠ "java/lang/invoke/MethodHandle" ∧ yX5_digits.cls ≠ "java/lang/invoke/VarHandle" ∧ (parseMethodDescriptor yX5_digits.desc).map (fun d => d.parameters.length) = some 0 := by decide +kernel
theorem wy_X5_parts : yX5_parts.cls ≠ "java/lang/invoke/MethodHandle" ∧ yX5_parts.cls ≠ "java/lang/invoke/VarHandle" ∧ (parseMethodDescriptor yX5_parts.desc).map (fun d => d.parameters.length) = some 3 := by decide +kernel
theorem wy_X5_list : yX5_list.cls ≠ "java/lang/invoke/MethodHandle" ∧ yX5_list.cls ≠ "java/lang/invoke/VarHandle" ∧ (parseMethodDescriptor yX5_list.desc).map (fun d => d.parameters.length) = some 1 := by decide +kernel
theorem wy_X5_isDigit : yX5_isDigit.cls ≠ "java/lang/invoke/MethodHandle" ∧ yX5_isDigit.cls ≠ "java/lang/invoke/VarHandle" ∧ (parseMethodDescriptor yX5_isDigit.desc).map (fun d => d.parameters.length) = some 1 := by decide +kernel
theorem wy_X5_isLetter : yX5_isLetter.cls ≠ "java/lang/invoke/MethodHandle" ∧ yX5_isLetter.cls ≠ "java/lang/invoke/VarHandle" ∧ (parseMethodDescriptor yX5_isLetter.desc).map (fun d => d.parameters.length) = some 1 := by decide +kernel
theorem wy_X5_kindBy : yX5_kindBy.cls ≠ "java/lang/invoke/MethodHandle" ∧ yX5_kindBy.cls ≠ "java/lang/invoke/VarHandle" ∧ (parseMethodDescriptor yX5_kindBy.desc).map (fun d => d.parameters.length) = some 1 := by decide +kernel
theorem wy_X5_howMany : yX5_howMany.cls ≠ "java/lang/invoke/MethodHandle" ∧ yX5_howMany.cls ≠ "java/lang/invoke/VarHandle" ∧ (parseMethodDescriptor yX5_howMany.desc).map (fun d => d.parameters.length) = some 1 := by decide +kernel
theorem wy_X6_init : yX6_init.cls ≠ "java/lang/invoke/MethodHandle" ∧ yX6_init.cls ≠ "java/lang/invoke/VarHandle" ∧ (parseMethodDescriptor yX6_init.desc).map (fun d => d.parameters.length) = some 1 := by decide +kernel
theorem wy_X6_empty : yX6_empty.cls ≠ "java/lang/invoke/MethodHandle" ∧ yX6_empty.cls ≠ "java/lang/invoke/VarHandle" ∧ (parseMethodDescriptor yX6_empty.desc).map (fun d => d.parameters.length) = some 0 := by decide +kernel
theorem wy_X6_add : yX6_add.cls ≠ "java/lang/invoke/MethodHandle" ∧ yX6_add.cls ≠ "java/lang/invoke/VarHandle" ∧ (parseMethodDescriptor yX6_add.desc).map (fun d => d.parameters.length) = some 2 := by decide +kernel
theorem wy_X6_copyFrom : yX6_copyFrom.cls ≠ "java/lang/invoke/MethodHandle" ∧ yX6_copyFrom.cls ≠ "java/lang/invoke/VarHandle" ∧ (parseMethodDescriptor yX6_copyFrom.desc).map (fun d => d.parameters.length) = some 1 := by decide +kernel
theorem wy_X7_init : yX7_init.cls ≠ "java/lang/invoke/MethodHandle" ∧ yX7_init.cls ≠ "java/lang/invoke/VarHandle" ∧ (parseMethodDescriptor yX7_init.desc).map (fun d => d.parameters.length) = some 0 := by decide +kernel
theorem wy_X7_clear : yX7_clear.cls ≠ "java/lang/invoke/MethodHandle" ∧ yX7_clear.cls ≠ "java/lang/invoke/VarHandle" ∧ (parseMethodDescriptor yX7_clear.desc).map (fun d => d.parameters.length) = some 0 := by decide +kernel
theorem wy_X7_thing : yX7_thing.cls ≠ "java/lang/invoke/MethodHandle" ∧ yX7_thing.cls ≠ "java/lang/invoke/VarHandle" ∧ (parseMethodDescriptor yX7_thing.desc).map (fun d => d.parameters.length) = some 2 := by decide +kernel
theorem wy_X7_bind : yX7_bind.cls ≠ "java/lang/invoke/MethodHandle" ∧ yX7_bind.cls ≠ "java/lang/invoke/VarHandle" ∧ (parseMethodDescriptor yX7_bind.desc).map (fun d => d.parameters.length) = some 3 := by decide +kernel
theorem wy_X7_copyFrom : yX7_copyFrom.cls ≠ "java/lang/invoke/MethodHandle" ∧ yX7_copyFrom.cls ≠ "java/lang/invoke/VarHandle" ∧ (parseMethodDescriptor yX7_copyFrom.desc).map (fun d => d.parameters.length) = some 1 := by decide +kernel
theorem wy_X8_init : yX8_init.cls ≠ "java/lang/invoke/MethodHandle" ∧ yX8_init.cls ≠ "java/lang/invoke/VarHandle" ∧ (parseMethodDescriptor yX8_init.desc).map (fun d => d.parameters.length) = some 0 := by decide +kernel
theorem wy_X8_has : yX8_has.cls ≠ "java/lang/invoke/MethodHandle" ∧ yX8_has.cls ≠ "java/lang/invoke/VarHandle" ∧ (parseMethodDescriptor yX8_has.desc).map (fun d => d.parameters.length) = some 1 := by decide +kernel
theorem wy_X8_become : yX8_become.cls ≠ "java/lang/invoke/MethodHandle" ∧ yX8_become.cls ≠ "java/lang/invoke/VarHandle" ∧ (parseMethodDescriptor yX8_become.desc).map (fun d => d.parameters.length) = some 2 := by decide +kernel
theorem wy_X8_lowestBits : yX8_lowestBits.cls ≠ "java/lang/invoke/MethodHandle" ∧ yX8_lowestBits.cls ≠ "java/lang/invoke/VarHandle" ∧ (parseMethodDescriptor yX8_lowestBits.desc).map (fun d => d.parameters.length) = some 1 := by decide +kernel
theorem wy_X9_init : yX9_init.cls ≠ "java/lang/invoke/MethodHandle" ∧ yX9_init.cls ≠ "java/lang/invoke/VarHandle" ∧ (parseMethodDescriptor yX9_init.desc).map (fun d => d.parameters.length) = some 0 := by decide +kernel
theorem wy_X9_clear : yX9_clear.cls ≠ "java/lang/invoke/MethodHandle" ∧ yX9_clear.cls ≠ "java/lang/invoke/VarHandle" ∧ (parseMethodDescriptor yX9_clear.desc).map (fun d => d.parameters.length) = some 0 := by decide +kernel
theorem wy_X9_below : yX9_below.cls ≠ "java/lang/invoke/MethodHandle" ∧ yX9_below.cls ≠ "java/lang/invoke/VarHandle" ∧ (parseMethodDescriptor yX9_below.desc).map (fun d => d.parameters.length) = some 1 := by decide +kernel
theorem wy_X9_height : yX9_height.cls ≠ "java/lang/invoke/MethodHandle" ∧ yX9_height.cls ≠ "java/lang/invoke/VarHandle" ∧ (parseMethodDescriptor yX9_height.desc).map (fun d => d.parameters.length) = some 1 := by decide +kernel
theorem wy_X9_expression : yX9_expression.cls ≠ "java/lang/invoke/MethodHandle" ∧ yX9_expression.cls ≠ "java/lang/invoke/VarHandle" ∧ (parseMethodDescriptor yX9_expression.desc).map (fun d => d.parameters.length) = some 1 := by decide +kernel
theorem wy_X9_scope : yX9_scope.cls ≠ "java/lang/invoke/MethodHandle" ∧ yX9_scope.cls ≠ "java/lang/invoke/VarHandle" ∧ (parseMethodDescriptor yX9_scope.desc).map (fun d => d.parameters.length) = some 1 := by decide +kernel
theorem wy_X9_add : yX9_add.cls ≠ "java/lang/invoke/MethodHandle" ∧ yX9_add.cls ≠ "java/lang/invoke/VarHandle" ∧ (parseMethodDescriptor yX9_add.desc).map (fun d => d.parameters.length) = some 3 := by decide +kernel
theorem wy_X9_next : yX9_next.cls ≠ "java/lang/invoke/MethodHandle" ∧ yX9_next.cls ≠ "java/lang/invoke/VarHandle" ∧ (parseMethodDescriptor yX9_next.desc).map (fun d => d.parameters.length) = some 2 := by decide +kernel
theorem wy_X9_copyFrom : yX9_copyFrom.cls ≠ "java/lang/invoke/MethodHandle" ∧ yX9_copyFrom.cls ≠ "java/lang/invoke/VarHandle" ∧ (parseMethodDescriptor yX9_copyFrom.desc).map (fun d => d.parameters.length) = some 1 := by decide +kernel
theorem wy_X10_init : yX10_init.cls ≠ "java/lang/invoke/MethodHandle" ∧ yX10_init.cls ≠ "java/lang/invoke/VarHandle" ∧ (parseMethodDescriptor yX10_init.desc).map (fun d => d.parameters.length) = some 0 := by decide +kernel
theorem wy_X10_copyFrom : yX10_copyFrom.cls ≠ "java/lang/invoke/MethodHandle" ∧ yX10_copyFrom.cls ≠ "java/lang/invoke/VarHandle" ∧ (parseMethodDescriptor yX10_copyFrom.desc).map (fun d => d.parameters.length) = some 1 := by decide +kernel
theorem wy_X11_init : yX11_init.cls ≠ "java/lang/invoke/MethodHandle" ∧ yX11_init.cls ≠ "java/lang/invoke/VarHandle" ∧ (parseMethodDescriptor yX11_init.desc).map (fun d => d.parameters.length) = some 0 := by decide +kernel
theorem wy_X11_feed : yX11_feed.cls ≠ "java/lang/invoke/MethodHandle" ∧ yX11_feed.cls ≠ "java/lang/invoke/VarHandle" ∧ (parseMethodDescriptor yX11_feed.desc).map (fun d => d.parameters.length) = some 1 := by decide +kernel
theorem wy_X11_line : yX11_line.cls ≠ "java/lang/invoke/MethodHandle" ∧ yX11_line.cls ≠ "java/lang/invoke/VarHandle" ∧ (parseMethodDescriptor yX11_line.desc).map (fun d => d.parameters.length) = some 0 := by decide +kernel
theorem wy_X11_of : yX11_of.cls ≠ "java/lang/invoke/MethodHandle" ∧ yX11_of.cls ≠ "java/lang/invoke/VarHandle" ∧ (parseMethodDescriptor yX11_of.desc).map (fun d => d.parameters.length) = some 2 := by decide +kernel
theorem wy_X11_define : yX11_define.cls ≠ "java/lang/invoke/MethodHandle" ∧ yX11_define.cls ≠ "java/lang/invoke/VarHandle" ∧ (parseMethodDescriptor yX11_define.desc).map (fun d => d.parameters.length) = some 2 := by decide +kernel
theorem wy_X11_value : yX11_value.cls ≠ "java/lang/invoke/MethodHandle" ∧ yX11_value.cls ≠ "java/lang/invoke/VarHandle" ∧ (parseMethodDescriptor yX11_value.desc).map (fun d => d.parameters.length) = some 2 := by decide +kernel
theorem wy_X11_begin : yX11_begin.cls ≠ "java/lang/invoke/MethodHandle" ∧ yX11_begin.cls ≠ "java/lang/invoke/VarHandle" ∧ (parseMethodDescriptor yX11_begin.desc).map (fun d => d.parameters.length) = some 1 := by decide +kernel
theorem wy_X11_step : yX11_step.cls ≠ "java/lang/invoke/MethodHandle" ∧ yX11_step.cls ≠ "java/lang/invoke/VarHandle" ∧ (parseMethodDescriptor yX11_step.desc).map (fun d => d.parameters.length) = some 1 := by decide +kernel
theorem wy_X11_run : yX11_run.cls ≠ "java/lang/invoke/MethodHandle" ∧ yX11_run.cls ≠ "java/lang/invoke/VarHandle" ∧ (parseMethodDescriptor yX11_run.desc).map (fun d => d.parameters.length) = some 1 := by decide +kernel
theorem wy_X11_told : yX11_told.cls ≠ "java/lang/invoke/MethodHandle" ∧ yX11_told.cls ≠ "java/lang/invoke/VarHandle" ∧ (parseMethodDescriptor yX11_told.desc).map (fun d => d.parameters.length) = some 1 := by decide +kernel
theorem wy_X11_on : yX11_on.cls ≠ "java/lang/invoke/MethodHandle" ∧ yX11_on.cls ≠ "java/lang/invoke/VarHandle" ∧ (parseMethodDescriptor yX11_on.desc).map (fun d => d.parameters.length) = some 2 := by decide +kernel
theorem wy_X11_see : yX11_see.cls ≠ "java/lang/invoke/MethodHandle" ∧ yX11_see.cls ≠ "java/lang/invoke/VarHandle" ∧ (parseMethodDescriptor yX11_see.desc).map (fun d => d.parameters.length) = some 2 := by decide +kernel
theorem wy_X11_fits : yX11_fits.cls ≠ "java/lang/invoke/MethodHandle" ∧ yX11_fits.cls ≠ "java/lang/invoke/VarHandle" ∧ (parseMethodDescriptor yX11_fits.desc).map (fun d => d.parameters.length) = some 3 := by decide +kernel
theorem wy_X11_alike : yX11_alike.cls ≠ "java/lang/invoke/MethodHandle" ∧ yX11_alike.cls ≠ "java/lang/invoke/VarHandle" ∧ (parseMethodDescriptor yX11_alike.desc).map (fun d => d.parameters.length) = some 2 := by decide +kernel
theorem wy_X11_odds : yX11_odds.cls ≠ "java/lang/invoke/MethodHandle" ∧ yX11_odds.cls ≠ "java/lang/invoke/VarHandle" ∧ (parseMethodDescriptor yX11_odds.desc).map (fun d => d.parameters.length) = some 3 := by decide +kernel
theorem wy_X11_mean : yX11_mean.cls ≠ "java/lang/invoke/MethodHandle" ∧ yX11_mean.cls ≠ "java/lang/invoke/VarHandle" ∧ (parseMethodDescriptor yX11_mean.desc).map (fun d => d.parameters.length) = some 2 := by decide +kernel
theorem wy_X11_tryOut : yX11_tryOut.cls ≠ "java/lang/invoke/MethodHandle" ∧ yX11_tryOut.cls ≠ "java/lang/invoke/VarHandle" ∧ (parseMethodDescriptor yX11_tryOut.desc).map (fun d => d.parameters.length) = some 1 := by decide +kernel
theorem wy_X11_tryWith : yX11_tryWith.cls ≠ "java/lang/invoke/MethodHandle" ∧ yX11_tryWith.cls ≠ "java/lang/invoke/VarHandle" ∧ (parseMethodDescriptor yX11_tryWith.desc).map (fun d => d.parameters.length) = some 3 := by decide +kernel
theorem wy_X11_inLowestTerms : yX11_inLowestTerms.cls ≠ "java/lang/invoke/MethodHandle" ∧ yX11_inLowestTerms.cls ≠ "java/lang/invoke/VarHandle" ∧ (parseMethodDescriptor yX11_inLowestTerms.desc).map (fun d => d.parameters.length) = some 3 := by decide +kernel
theorem wy_X11_plan : yX11_plan.cls ≠ "java/lang/invoke/MethodHandle" ∧ yX11_plan.cls ≠ "java/lang/invoke/VarHandle" ∧ (parseMethodDescriptor yX11_plan.desc).map (fun d => d.parameters.length) = some 2 := by decide +kernel
theorem wy_X11_ends : yX11_ends.cls ≠ "java/lang/invoke/MethodHandle" ∧ yX11_ends.cls ≠ "java/lang/invoke/VarHandle" ∧ (parseMethodDescriptor yX11_ends.desc).map (fun d => d.parameters.length) = some 1 := by decide +kernel
theorem wy_X11_book : yX11_book.cls ≠ "java/lang/invoke/MethodHandle" ∧ yX11_book.cls ≠ "java/lang/invoke/VarHandle" ∧ (parseMethodDescriptor yX11_book.desc).map (fun d => d.parameters.length) = some 2 := by decide +kernel
theorem wy_X11_looked : yX11_looked.cls ≠ "java/lang/invoke/MethodHandle" ∧ yX11_looked.cls ≠ "java/lang/invoke/VarHandle" ∧ (parseMethodDescriptor yX11_looked.desc).map (fun d => d.parameters.length) = some 0 := by decide +kernel
theorem wy_X11_judge : yX11_judge.cls ≠ "java/lang/invoke/MethodHandle" ∧ yX11_judge.cls ≠ "java/lang/invoke/VarHandle" ∧ (parseMethodDescriptor yX11_judge.desc).map (fun d => d.parameters.length) = some 2 := by decide +kernel
theorem wy_X11_image : yX11_image.cls ≠ "java/lang/invoke/MethodHandle" ∧ yX11_image.cls ≠ "java/lang/invoke/VarHandle" ∧ (parseMethodDescriptor yX11_image.desc).map (fun d => d.parameters.length) = some 0 := by decide +kernel
theorem wy_X11_undo : yX11_undo.cls ≠ "java/lang/invoke/MethodHandle" ∧ yX11_undo.cls ≠ "java/lang/invoke/VarHandle" ∧ (parseMethodDescriptor yX11_undo.desc).map (fun d => d.parameters.length) = some 0 := by decide +kernel
theorem wy_X11_count : yX11_count.cls ≠ "java/lang/invoke/MethodHandle" ∧ yX11_count.cls ≠ "java/lang/invoke/VarHandle" ∧ (parseMethodDescriptor yX11_count.desc).map (fun d => d.parameters.length) = some 1 := by decide +kernel
theorem wy_X11_tape : yX11_tape.cls ≠ "java/lang/invoke/MethodHandle" ∧ yX11_tape.cls ≠ "java/lang/invoke/VarHandle" ∧ (parseMethodDescriptor yX11_tape.desc).map (fun d => d.parameters.length) = some 3 := by decide +kernel
theorem wy_X11_item : yX11_item.cls ≠ "java/lang/invoke/MethodHandle" ∧ yX11_item.cls ≠ "java/lang/invoke/VarHandle" ∧ (parseMethodDescriptor yX11_item.desc).map (fun d => d.parameters.length) = some 3 := by decide +kernel
theorem wy_X11_read : yX11_read.cls ≠ "java/lang/invoke/MethodHandle" ∧ yX11_read.cls ≠ "java/lang/invoke/VarHandle" ∧ (parseMethodDescriptor yX11_read.desc).map (fun d => d.parameters.length) = some 2 := by decide +kernel
theorem wy_X11_shift : yX11_shift.cls ≠ "java/lang/invoke/MethodHandle" ∧ yX11_shift.cls ≠ "java/lang/invoke/VarHandle" ∧ (parseMethodDescriptor yX11_shift.desc).map (fun d => d.parameters.length) = some 5 := by decide +kernel
theorem wy_X11_tapeOf : yX11_tapeOf.cls ≠ "java/lang/invoke/MethodHandle" ∧ yX11_tapeOf.cls ≠ "java/lang/invoke/VarHandle" ∧ (parseMethodDescriptor yX11_tapeOf.desc).map (fun d => d.parameters.length) = some 1 := by decide +kernel
theorem wy_X11_isName : yX11_isName.cls ≠ "java/lang/invoke/MethodHandle" ∧ yX11_isName.cls ≠ "java/lang/invoke/VarHandle" ∧ (parseMethodDescriptor yX11_isName.desc).map (fun d => d.parameters.length) = some 1 := by decide +kernel
theorem wy_X11_isFunction : yX11_isFunction.cls ≠ "java/lang/invoke/MethodHandle" ∧ yX11_isFunction.cls ≠ "java/lang/invoke/VarHandle" ∧ (parseMethodDescriptor yX11_isFunction.desc).map (fun d => d.parameters.length) = some 1 := by decide +kernel
theorem wy_X11_isNumber : yX11_isNumber.cls ≠ "java/lang/invoke/MethodHandle" ∧ yX11_isNumber.cls ≠ "java/lang/invoke/VarHandle" ∧ (parseMethodDescriptor yX11_isNumber.desc).map (fun d => d.parameters.length) = some 1 := by decide +kernel
theorem wy_X11_at : yX11_at.cls ≠ "java/lang/invoke/MethodHandle" ∧ yX11_at.cls ≠ "java/lang/invoke/VarHandle" ∧ (parseMethodDescriptor yX11_at.desc).map (fun d => d.parameters.length) = some 2 := by decide +kernel
theorem wy_X11_at_ : yX11_at_.cls ≠ "java/lang/invoke/MethodHandle" ∧ yX11_at_.cls ≠ "java/lang/invoke/VarHandle" ∧ (parseMethodDescriptor yX11_at_.desc).map (fun d => d.parameters.length) = some 2 := by decide +kernel
theorem wy_X11_put : yX11_put.cls ≠ "java/lang/invoke/MethodHandle" ∧ yX11_put.cls ≠ "java/lang/invoke/VarHandle" ∧ (parseMethodDescriptor yX11_put.desc).map (fun d => d.parameters.length) = some 3 := by decide +kernel
theorem wy_X11_put_ : yX11_put_.cls ≠ "java/lang/invoke/MethodHandle" ∧ yX11_put_.cls ≠ "java/lang/invoke/VarHandle" ∧ (parseMethodDescriptor yX11_put_.desc).map (fun d => d.parameters.length) = some 3 := by decide +kernel
theorem wy_X11_copyRow : yX11_copyRow.cls ≠ "java/lang/invoke/MethodHandle" ∧ yX11_copyRow.cls ≠ "java/lang/invoke/VarHandle" ∧ (parseMethodDescriptor yX11_copyRow.desc).map (fun d => d.parameters.length) = some 2 := by decide +kernel
theorem wy_X11_copyRow_ : yX11_copyRow_.cls ≠ "java/lang/invoke/MethodHandle" ∧ yX11_copyRow_.cls ≠ "java/lang/invoke/VarHandle" ∧ (parseMethodDescriptor yX11_copyRow_.desc).map (fun d => d.parameters.length) = some 2 := by decide +kernel
theorem wy_X12_init : yX12_init.cls ≠ "java/lang/invoke/MethodHandle" ∧ yX12_init.cls ≠ "java/lang/invoke/VarHandle" ∧ (parseMethodDescriptor yX12_init.desc).map (fun d => d.parameters.length) = some 0 := by decide +kernel
theorem wy_X12_in : yX12_in.cls ≠ "java/lang/invoke/MethodHandle" ∧ yX12_in.cls ≠ "java/lang/invoke/VarHandle" ∧ (parseMethodDescriptor yX12_in.desc).map (fun d => d.parameters.length) = some 3 := by decide +kernel
theorem wy_X12_copies : yX12_copies.cls ≠ "java/lang/invoke/MethodHandle" ∧ yX12_copies.cls ≠ "java/lang/invoke/VarHandle" ∧ (parseMethodDescriptor yX12_copies.desc).map (fun d => d.parameters.length) = some 2 := by decide +kernel
theorem wy_X12_feed : yX12_feed.cls ≠ "java/lang/invoke/MethodHandle" ∧ yX12_feed.cls ≠ "java/lang/invoke/VarHandle" ∧ (parseMethodDescriptor yX12_feed.desc).map (fun d => d.parameters.length) = some 1 := by decide +kernel
theorem wy_X12_byteAt : yX12_byteAt.cls ≠ "java/lang/invoke/MethodHandle" ∧ yX12_byteAt.cls ≠ "java/lang/invoke/VarHandle" ∧ (parseMethodDescriptor yX12_byteAt.desc).map (fun d => d.parameters.length) = some 1 := by decide +kernel
theorem wy_X12_stops : yX12_stops.cls ≠ "java/lang/invoke/MethodHandle" ∧ yX12_stops.cls ≠ "java/lang/invoke/VarHandle" ∧ (parseMethodDescriptor yX12_stops.desc).map (fun d => d.parameters.length) = some 0 := by decide +kernel
theorem wy_X12_is : yX12_is.cls ≠ "java/lang/invoke/MethodHandle" ∧ yX12_is.cls ≠ "java/lang/invoke/VarHandle" ∧ (parseMethodDescriptor yX12_is.desc).map (fun d => d.parameters.length) = some 1 := by decide +kernel
theorem wy_X12_partsOf : yX12_partsOf.cls ≠ "java/lang/invoke/MethodHandle" ∧ yX12_partsOf.cls ≠ "java/lang/invoke/VarHandle" ∧ (parseMethodDescriptor yX12_partsOf.desc).map (fun d => d.parameters.length) = some 1 := by decide +kernel
theorem wy_X12_hasName : yX12_hasName.cls ≠ "java/lang/invoke/MethodHandle" ∧ yX12_hasName.cls ≠ "java/lang/invoke/VarHandle" ∧ (parseMethodDescriptor yX12_hasName.desc).map (fun d => d.parameters.length) = some 1 := by decide +kernel
theorem wy_X12_expression : yX12_expression.cls ≠ "java/lang/invoke/MethodHandle" ∧ yX12_expression.cls ≠ "java/lang/invoke/VarHandle" ∧ (parseMethodDescriptor yX12_expression.desc).map (fun d => d.parameters.length) = some 1 := by decide +kernel
theorem wy_X12_part : yX12_part.cls ≠ "java/lang/invoke/MethodHandle" ∧ yX12_part.cls ≠ "java/lang/invoke/VarHandle" ∧ (parseMethodDescriptor yX12_part.desc).map (fun d => d.parameters.length) = some 2 := by decide +kernel
theorem wy_X12_list : yX12_list.cls ≠ "java/lang/invoke/MethodHandle" ∧ yX12_list.cls ≠ "java/lang/invoke/VarHandle" ∧ (parseMethodDescriptor yX12_list.desc).map (fun d => d.parameters.length) = some 2 := by decide +kernel
theorem wy_X12_line : yX12_line.cls ≠ "java/lang/invoke/MethodHandle" ∧ yX12_line.cls ≠ "java/lang/invoke/VarHandle" ∧ (parseMethodDescriptor yX12_line.desc).map (fun d => d.parameters.length) = some 0 := by decide +kernel
theorem wy_X12_isLine : yX12_isLine.cls ≠ "java/lang/invoke/MethodHandle" ∧ yX12_isLine.cls ≠ "java/lang/invoke/VarHandle" ∧ (parseMethodDescriptor yX12_isLine.desc).map (fun d => d.parameters.length) = some 1 := by decide +kernel
theorem wy_X12_deepest : yX12_deepest.cls ≠ "java/lang/invoke/MethodHandle" ∧ yX12_deepest.cls ≠ "java/lang/invoke/VarHandle" ∧ (parseMethodDescriptor yX12_deepest.desc).map (fun d => d.parameters.length) = some 1 := by decide +kernel
theorem wy_X12_isCall : yX12_isCall.cls ≠ "java/lang/invoke/MethodHandle" ∧ yX12_isCall.cls ≠ "java/lang/invoke/VarHandle" ∧ (parseMethodDescriptor yX12_isCall.desc).map (fun d => d.parameters.length) = some 1 := by decide +kernel
theorem wy_X12_lastCalls : yX12_lastCalls.cls ≠ "java/lang/invoke/MethodHandle" ∧ yX12_lastCalls.cls ≠ "java/lang/invoke/VarHandle" ∧ (parseMethodDescriptor yX12_lastCalls.desc).map (fun d => d.parameters.length) = some 1 := by decide +kernel
theorem wy_X12_of : yX12_of.cls ≠ "java/lang/invoke/MethodHandle" ∧ yX12_of.cls ≠ "java/lang/invoke/VarHandle" ∧ (parseMethodDescriptor yX12_of.desc).map (fun d => d.parameters.length) = some 2 := by decide +kernel
theorem wy_X12_define : yX12_define.cls ≠ "java/lang/invoke/MethodHandle" ∧ yX12_define.cls ≠ "java/lang/invoke/VarHandle" ∧ (parseMethodDescriptor yX12_define.desc).map (fun d => d.parameters.length) = some 2 := by decide +kernel
theorem wy_X12_isName : yX12_isName.cls ≠ "java/lang/invoke/MethodHandle" ∧ yX12_isName.cls ≠ "java/lang/invoke/VarHandle" ∧ (parseMethodDescriptor yX12_isName.desc).map (fun d => d.parameters.length) = some 1 := by decide +kernel
theorem wy_X12_value : yX12_value.cls ≠ "java/lang/invoke/MethodHandle" ∧ yX12_value.cls ≠ "java/lang/invoke/VarHandle" ∧ (parseMethodDescriptor yX12_value.desc).map (fun d => d.parameters.length) = some 2 := by decide +kernel
theorem wy_X12_frames : yX12_frames.cls ≠ "java/lang/invoke/MethodHandle" ∧ yX12_frames.cls ≠ "java/lang/invoke/VarHandle" ∧ (parseMethodDescriptor yX12_frames.desc).map (fun d => d.parameters.length) = some 1 := by decide +kernel
theorem wy_X12_stands : yX12_stands.cls ≠ "java/lang/invoke/MethodHandle" ∧ yX12_stands.cls ≠ "java/lang/invoke/VarHandle" ∧ (parseMethodDescriptor yX12_stands.desc).map (fun d => d.parameters.length) = some 1 := by decide +kernel
theorem wy_X12_works : yX12_works.cls ≠ "java/lang/invoke/MethodHandle" ∧ yX12_works.cls ≠ "java/lang/invoke/VarHandle" ∧ (parseMethodDescriptor yX12_works.desc).map (fun d => d.parameters.length) = some 3 := by decide +kernel
theorem wy_X12_gives : yX12_gives.cls ≠ "java/lang/invoke/MethodHandle" ∧ yX12_gives.cls ≠ "java/lang/invoke/VarHandle" ∧ (parseMethodDescriptor yX12_gives.desc).map (fun d => d.parameters.length) = some 2 := by decide +kernel
theorem wy_X12_comes : yX12_comes.cls ≠ "java/lang/invoke/MethodHandle" ∧ yX12_comes.cls ≠ "java/lang/invoke/VarHandle" ∧ (parseMethodDescriptor yX12_comes.desc).map (fun d => d.parameters.length) = some 7 := by decide +kernel
theorem wy_X12_bound : yX12_bound.cls ≠ "java/lang/invoke/MethodHandle" ∧ yX12_bound.cls ≠ "java/lang/invoke/VarHandle" ∧ (parseMethodDescriptor yX12_bound.desc).map (fun d => d.parameters.length) = some 4 := by decide +kernel
theorem wy_X12_found : yX12_found.cls ≠ "java/lang/invoke/MethodHandle" ∧ yX12_found.cls ≠ "java/lang/invoke/VarHandle" ∧ (parseMethodDescriptor yX12_found.desc).map (fun d => d.parameters.length) = some 2 := by decide +kernel
theorem wy_X12_worksOn : yX12_worksOn.cls ≠ "java/lang/invoke/MethodHandle" ∧ yX12_worksOn.cls ≠ "java/lang/invoke/VarHandle" ∧ (parseMethodDescriptor yX12_worksOn.desc).map (fun d => d.parameters.length) = some 0 := by decide +kernel
theorem wy_X12_frameOf : yX12_frameOf.cls ≠ "java/lang/invoke/MethodHandle" ∧ yX12_frameOf.cls ≠ "java/lang/invoke/VarHandle" ∧ (parseMethodDescriptor yX12_frameOf.desc).map (fun d => d.parameters.length) = some 1 := by decide +kernel
theorem wy_X12_made : yX12_made.cls ≠ "java/lang/invoke/MethodHandle" ∧ yX12_made.cls ≠ "java/lang/invoke/VarHandle" ∧ (parseMethodDescriptor yX12_made.desc).map (fun d => d.parameters.length) = some 3 := by decide +kernel
theorem wy_X12_givesOn : yX12_givesOn.cls ≠ "java/lang/invoke/MethodHandle" ∧ yX12_givesOn.cls ≠ "java/lang/invoke/VarHandle" ∧ (parseMethodDescriptor yX12_givesOn.desc).map (fun d => d.parameters.length) = some 0 := by decide +kernel
theorem wy_X12_calls : yX12_calls.cls ≠ "java/lang/invoke/MethodHandle" ∧ yX12_calls.cls ≠ "java/lang/invoke/VarHandle" ∧ (parseMethodDescriptor yX12_calls.desc).map (fun d => d.parameters.length) = some 3 := by decide +kernel
theorem wy_X12_winds : yX12_winds.cls ≠ "java/lang/invoke/MethodHandle" ∧ yX12_winds.cls ≠ "java/lang/invoke/VarHandle" ∧ (parseMethodDescriptor yX12_winds.desc).map (fun d => d.parameters.length) = some 6 := by decide +kernel
theorem wy_X12_goesOnFrom : yX12_goesOnFrom.cls ≠ "java/lang/invoke/MethodHandle" ∧ yX12_goesOnFrom.cls ≠ "java/lang/invoke/VarHandle" ∧ (parseMethodDescriptor yX12_goesOnFrom.desc).map (fun d => d.parameters.length) = some 2 := by decide +kernel
theorem wy_X12_goes : yX12_goes.cls ≠ "java/lang/invoke/MethodHandle" ∧ yX12_goes.cls ≠ "java/lang/invoke/VarHandle" ∧ (parseMethodDescriptor yX12_goes.desc).map (fun d => d.parameters.length) = some 3 := by decide +kernel
theorem wy_X12_begins : yX12_begins.cls ≠ "java/lang/invoke/MethodHandle" ∧ yX12_begins.cls ≠ "java/lang/invoke/VarHandle" ∧ (parseMethodDescriptor yX12_begins.desc).map (fun d => d.parameters.length) = some 1 := by decide +kernel
theorem wy_X12_steps : yX12_steps.cls ≠ "java/lang/invoke/MethodHandle" ∧ yX12_steps.cls ≠ "java/lang/invoke/VarHandle" ∧ (parseMethodDescriptor yX12_steps.desc).map (fun d => d.parameters.length) = some 1 := by decide +kernel
theorem wy_X12_runs : yX12_runs.cls ≠ "java/lang/invoke/MethodHandle" ∧ yX12_runs.cls ≠ "java/lang/invoke/VarHandle" ∧ (parseMethodDescriptor yX12_runs.desc).map (fun d => d.parameters.length) = some 1 := by decide +kernel
theorem wy_X12_begin : yX12_begin.cls ≠ "java/lang/invoke/MethodHandle" ∧ yX12_begin.cls ≠ "java/lang/invoke/VarHandle" ∧ (parseMethodDescriptor yX12_begin.desc).map (fun d => d.parameters.length) = some 1 := by decide +kernel
theorem wy_X12_step : yX12_step.cls ≠ "java/lang/invoke/MethodHandle" ∧ yX12_step.cls ≠ "java/lang/invoke/VarHandle" ∧ (parseMethodDescriptor yX12_step.desc).map (fun d => d.parameters.length) = some 1 := by decide +kernel
theorem wy_X12_run : yX12_run.cls ≠ "java/lang/invoke/MethodHandle" ∧ yX12_run.cls ≠ "java/lang/invoke/VarHandle" ∧ (parseMethodDescriptor yX12_run.desc).map (fun d => d.parameters.length) = some 1 := by decide +kernel
theorem wy_X12_latest : yX12_latest.cls ≠ "java/lang/invoke/MethodHandle" ∧ yX12_latest.cls ≠ "java/lang/invoke/VarHandle" ∧ (parseMethodDescriptor yX12_latest.desc).map (fun d => d.parameters.length) = some 0 := by decide +kernel
theorem wy_X12_winders : yX12_winders.cls ≠ "java/lang/invoke/MethodHandle" ∧ yX12_winders.cls ≠ "java/lang/invoke/VarHandle" ∧ (parseMethodDescriptor yX12_winders.desc).map (fun d => d.parameters.length) = some 0 := by decide +kernel
theorem wy_X12_toldOf : yX12_toldOf.cls ≠ "java/lang/invoke/MethodHandle" ∧ yX12_toldOf.cls ≠ "java/lang/invoke/VarHandle" ∧ (parseMethodDescriptor yX12_toldOf.desc).map (fun d => d.parameters.length) = some 1 := by decide +kernel
theorem wy_X12_told : yX12_told.cls ≠ "java/lang/invoke/MethodHandle" ∧ yX12_told.cls ≠ "java/lang/invoke/VarHandle" ∧ (parseMethodDescriptor yX12_told.desc).map (fun d => d.parameters.length) = some 1 := by decide +kernel
theorem wy_X12_on : yX12_on.cls ≠ "java/lang/invoke/MethodHandle" ∧ yX12_on.cls ≠ "java/lang/invoke/VarHandle" ∧ (parseMethodDescriptor yX12_on.desc).map (fun d => d.parameters.length) = some 2 := by decide +kernel
theorem wy_X12_see : yX12_see.cls ≠ "java/lang/invoke/MethodHandle" ∧ yX12_see.cls ≠ "java/lang/invoke/VarHandle" ∧ (parseMethodDescriptor yX12_see.desc).map (fun d => d.parameters.length) = some 2 := by decide +kernel
theorem wy_X12_isSeen : yX12_isSeen.cls ≠ "java/lang/invoke/MethodHandle" ∧ yX12_isSeen.cls ≠ "java/lang/invoke/VarHandle" ∧ (parseMethodDescriptor yX12_isSeen.desc).map (fun d => d.parameters.length) = some 0 := by decide +kernel
theorem wy_X12_fits : yX12_fits.cls ≠ "java/lang/invoke/MethodHandle" ∧ yX12_fits.cls ≠ "java/lang/invoke/VarHandle" ∧ (parseMethodDescriptor yX12_fits.desc).map (fun d => d.parameters.length) = some 3 := by decide +kernel
theorem wy_X12_alike : yX12_alike.cls ≠ "java/lang/invoke/MethodHandle" ∧ yX12_alike.cls ≠ "java/lang/invoke/VarHandle" ∧ (parseMethodDescriptor yX12_alike.desc).map (fun d => d.parameters.length) = some 2 := by decide +kernel
theorem wy_X12_lowest : yX12_lowest.cls ≠ "java/lang/invoke/MethodHandle" ∧ yX12_lowest.cls ≠ "java/lang/invoke/VarHandle" ∧ (parseMethodDescriptor yX12_lowest.desc).map (fun d => d.parameters.length) = some 3 := by decide +kernel
theorem wy_X12_odds : yX12_odds.cls ≠ "java/lang/invoke/MethodHandle" ∧ yX12_odds.cls ≠ "java/lang/invoke/VarHandle" ∧ (parseMethodDescriptor yX12_odds.desc).map (fun d => d.parameters.length) = some 3 := by decide +kernel
theorem wy_X12_mean : yX12_mean.cls ≠ "java/lang/invoke/MethodHandle" ∧ yX12_mean.cls ≠ "java/lang/invoke/VarHandle" ∧ (parseMethodDescriptor yX12_mean.desc).map (fun d => d.parameters.length) = some 2 := by decide +kernel
theorem wy_X12_plan : yX12_plan.cls ≠ "java/lang/invoke/MethodHandle" ∧ yX12_plan.cls ≠ "java/lang/invoke/VarHandle" ∧ (parseMethodDescriptor yX12_plan.desc).map (fun d => d.parameters.length) = some 2 := by decide +kernel
theorem wy_X12_ends : yX12_ends.cls ≠ "java/lang/invoke/MethodHandle" ∧ yX12_ends.cls ≠ "java/lang/invoke/VarHandle" ∧ (parseMethodDescriptor yX12_ends.desc).map (fun d => d.parameters.length) = some 1 := by decide +kernel
theorem wy_X12_book : yX12_book.cls ≠ "java/lang/invoke/MethodHandle" ∧ yX12_book.cls ≠ "java/lang/invoke/VarHandle" ∧ (parseMethodDescriptor yX12_book.desc).map (fun d => d.parameters.length) = some 2 := by decide +kernel
theorem wy_X12_looked : yX12_looked.cls ≠ "java/lang/invoke/MethodHandle" ∧ yX12_looked.cls ≠ "java/lang/invoke/VarHandle" ∧ (parseMethodDescriptor yX12_looked.desc).map (fun d => d.parameters.length) = some 0 := by decide +kernel
theorem wy_X12_image : yX12_image.cls ≠ "java/lang/invoke/MethodHandle" ∧ yX12_image.cls ≠ "java/lang/invoke/VarHandle" ∧ (parseMethodDescriptor yX12_image.desc).map (fun d => d.parameters.length) = some 0 := by decide +kernel
theorem wy_X12_undo : yX12_undo.cls ≠ "java/lang/invoke/MethodHandle" ∧ yX12_undo.cls ≠ "java/lang/invoke/VarHandle" ∧ (parseMethodDescriptor yX12_undo.desc).map (fun d => d.parameters.length) = some 0 := by decide +kernel
theorem wy_X12_count : yX12_count.cls ≠ "java/lang/invoke/MethodHandle" ∧ yX12_count.cls ≠ "java/lang/invoke/VarHandle" ∧ (parseMethodDescriptor yX12_count.desc).map (fun d => d.parameters.length) = some 1 := by decide +kernel
theorem wy_X12_judge : yX12_judge.cls ≠ "java/lang/invoke/MethodHandle" ∧ yX12_judge.cls ≠ "java/lang/invoke/VarHandle" ∧ (parseMethodDescriptor yX12_judge.desc).map (fun d => d.parameters.length) = some 2 := by decide +kernel
theorem wy_X12_tape : yX12_tape.cls ≠ "java/lang/invoke/MethodHandle" ∧ yX12_tape.cls ≠ "java/lang/invoke/VarHandle" ∧ (parseMethodDescriptor yX12_tape.desc).map (fun d => d.parameters.length) = some 3 := by decide +kernel
theorem wy_X12_lowestBits : yX12_lowestBits.cls ≠ "java/lang/invoke/MethodHandle" ∧ yX12_lowestBits.cls ≠ "java/lang/invoke/VarHandle" ∧ (parseMethodDescriptor yX12_lowestBits.desc).map (fun d => d.parameters.length) = some 2 := by decide +kernel
theorem wy_X12_item : yX12_item.cls ≠ "java/lang/invoke/MethodHandle" ∧ yX12_item.cls ≠ "java/lang/invoke/VarHandle" ∧ (parseMethodDescriptor yX12_item.desc).map (fun d => d.parameters.length) = some 3 := by decide +kernel
theorem wy_X12_read : yX12_read.cls ≠ "java/lang/invoke/MethodHandle" ∧ yX12_read.cls ≠ "java/lang/invoke/VarHandle" ∧ (parseMethodDescriptor yX12_read.desc).map (fun d => d.parameters.length) = some 2 := by decide +kernel
theorem wy_X12_shift : yX12_shift.cls ≠ "java/lang/invoke/MethodHandle" ∧ yX12_shift.cls ≠ "java/lang/invoke/VarHandle" ∧ (parseMethodDescriptor yX12_shift.desc).map (fun d => d.parameters.length) = some 5 := by decide +kernel
