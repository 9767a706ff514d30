theorem kc_0 : em_kd 0 = (11, 9) := rfl
theorem lc_0 : 0 < 132 := Nat.le_of_ble_eq_true rfl
theorem rc_0_0 : em_R 0 0 = some 1 := rfl
theorem rc_0_1 : em_R 0 1 = some 9 := rfl
theorem rc_0_2 : em_R 0 2 = some 11 := rfl
theorem rc_0_3 : em_R 0 3 = some 45 := rfl
theorem rc_0_5 : em_R 0 5 = some 79 := rfl
theorem rc_0_6 : em_R 0 6 = some 82 := rfl
theorem rc_0_7 : em_R 0 7 = some 103 := rfl
theorem rc_0_8 : em_R 0 8 = some 105 := rfl
theorem kc_1 : em_kd 1 = (2, 9) := rfl
theorem lc_1 : 1 < 132 := Nat.le_of_ble_eq_true rfl
theorem rc_1_2 : em_R 1 2 = some 2 := rfl
theorem rc_1_3 : em_R 1 3 = some 3 := rfl
theorem rc_1_4 : em_R 1 4 = some 4 := rfl
theorem rc_1_5 : em_R 1 5 = some 5 := rfl
theorem rc_1_6 : em_R 1 6 = some 6 := rfl
theorem rc_1_7 : em_R 1 7 = some 7 := rfl
theorem rc_1_8 : em_R 1 8 = some 8 := rfl
theorem kc_2 : em_kd 2 = (20, 800) := rfl
theorem lc_2 : 2 < 132 := Nat.le_of_ble_eq_true rfl
theorem kc_3 : em_kd 3 = (20, 800) := rfl
theorem lc_3 : 3 < 132 := Nat.le_of_ble_eq_true rfl
theorem kc_4 : em_kd 4 = (20, 2400) := rfl
theorem lc_4 : 4 < 132 := Nat.le_of_ble_eq_true rfl
theorem kc_5 : em_kd 5 = (20, 800) := rfl
theorem lc_5 : 5 < 132 := Nat.le_of_ble_eq_true rfl
theorem kc_6 : em_kd 6 = (20, 800) := rfl
theorem lc_6 : 6 < 132 := Nat.le_of_ble_eq_true rfl
theorem kc_7 : em_kd 7 = (20, 8) := rfl
theorem lc_7 : 7 < 132 := Nat.le_of_ble_eq_true rfl
theorem kc_8 : em_kd 8 = (20, 32) := rfl
theorem lc_8 : 8 < 132 := Nat.le_of_ble_eq_true rfl
theorem kc_9 : em_kd 9 = (5, 4) := rfl
theorem lc_9 : 9 < 132 := Nat.le_of_ble_eq_true rfl
theorem rc_9_2 : em_R 9 2 = some 10 := rfl
theorem rc_9_3 : em_R 9 3 = some 1 := rfl
theorem kc_10 : em_kd 10 = (20, 100) := rfl
theorem lc_10 : 10 < 132 := Nat.le_of_ble_eq_true rfl
theorem kc_11 : em_kd 11 = (1, 5) := rfl
theorem lc_11 : 11 < 132 := Nat.le_of_ble_eq_true rfl
theorem rc_11_0 : em_R 11 0 = some 21 := rfl
theorem rc_11_1 : em_R 11 1 = some 24 := rfl
theorem rc_11_2 : em_R 11 2 = some 12 := rfl
theorem rc_11_3 : em_R 11 3 = some 15 := rfl
theorem rc_11_4 : em_R 11 4 = some 18 := rfl
theorem kc_12 : em_kd 12 = (6, 4) := rfl
theorem lc_12 : 12 < 132 := Nat.le_of_ble_eq_true rfl
theorem rc_12_1 : em_R 12 1 = some 13 := rfl
theorem rc_12_2 : em_R 12 2 = some 14 := rfl
theorem kc_13 : em_kd 13 = (20, 10) := rfl
theorem lc_13 : 13 < 132 := Nat.le_of_ble_eq_true rfl
theorem kc_14 : em_kd 14 = (20, 10) := rfl
theorem lc_14 : 14 < 132 := Nat.le_of_ble_eq_true rfl
theorem kc_15 : em_kd 15 = (6, 4) := rfl
theorem lc_15 : 15 < 132 := Nat.le_of_ble_eq_true rfl
theorem rc_15_1 : em_R 15 1 = some 16 := rfl
theorem rc_15_2 : em_R 15 2 = some 17 := rfl
theorem kc_16 : em_kd 16 = (20, 10) := rfl
theorem lc_16 : 16 < 132 := Nat.le_of_ble_eq_true rfl
theorem kc_17 : em_kd 17 = (20, 10) := rfl
theorem lc_17 : 17 < 132 := Nat.le_of_ble_eq_true rfl
theorem kc_18 : em_kd 18 = (6, 4) := rfl
theorem lc_18 : 18 < 132 := Nat.le_of_ble_eq_true rfl
theorem rc_18_1 : em_R 18 1 = some 19 := rfl
theorem rc_18_2 : em_R 18 2 = some 20 := rfl
theorem kc_19 : em_kd 19 = (20, 10) := rfl
theorem lc_19 : 19 < 132 := Nat.le_of_ble_eq_true rfl
theorem kc_20 : em_kd 20 = (20, 10) := rfl
theorem lc_20 : 20 < 132 := Nat.le_of_ble_eq_true rfl
theorem kc_21 : em_kd 21 = (10, 2) := rfl
theorem lc_21 : 21 < 132 := Nat.le_of_ble_eq_true rfl
theorem rc_21_0 : em_R 21 0 = some 22 := rfl
theorem rc_21_1 : em_R 21 1 = some 23 := rfl
theorem kc_22 : em_kd 22 = (20, 4) := rfl
theorem lc_22 : 22 < 132 := Nat.le_of_ble_eq_true rfl
theorem kc_23 : em_kd 23 = (20, 3) := rfl
theorem lc_23 : 23 < 132 := Nat.le_of_ble_eq_true rfl
theorem kc_24 : em_kd 24 = (3, 15) := rfl
theorem lc_24 : 24 < 132 := Nat.le_of_ble_eq_true rfl
theorem rc_24_0 : em_R 24 0 = some 25 := rfl
theorem rc_24_1 : em_R 24 1 = some 1 := rfl
theorem rc_24_2 : em_R 24 2 = some 21 := rfl
theorem rc_24_3 : em_R 24 3 = some 27 := rfl
theorem rc_24_4 : em_R 24 4 = some 29 := rfl
theorem rc_24_5 : em_R 24 5 = some 38 := rfl
theorem rc_24_6 : em_R 24 6 = some 43 := rfl
theorem rc_24_7 : em_R 24 7 = some 44 := rfl
theorem kc_25 : em_kd 25 = (4, 6) := rfl
theorem lc_25 : 25 < 132 := Nat.le_of_ble_eq_true rfl
theorem rc_25_4 : em_R 25 4 = some 26 := rfl
theorem kc_26 : em_kd 26 = (20, 40) := rfl
theorem lc_26 : 26 < 132 := Nat.le_of_ble_eq_true rfl
theorem kc_27 : em_kd 27 = (7, 2) := rfl
theorem lc_27 : 27 < 132 := Nat.le_of_ble_eq_true rfl
theorem rc_27_1 : em_R 27 1 = some 28 := rfl
theorem kc_28 : em_kd 28 = (21, 1204) := rfl
theorem lc_28 : 28 < 132 := Nat.le_of_ble_eq_true rfl
theorem kc_29 : em_kd 29 = (0, 9) := rfl
theorem lc_29 : 29 < 132 := Nat.le_of_ble_eq_true rfl
theorem rc_29_1 : em_R 29 1 = some 30 := rfl
theorem rc_29_2 : em_R 29 2 = some 31 := rfl
theorem rc_29_3 : em_R 29 3 = some 32 := rfl
theorem rc_29_4 : em_R 29 4 = some 33 := rfl
theorem rc_29_5 : em_R 29 5 = some 34 := rfl
theorem rc_29_6 : em_R 29 6 = some 35 := rfl
theorem rc_29_7 : em_R 29 7 = some 36 := rfl
theorem rc_29_8 : em_R 29 8 = some 37 := rfl
theorem kc_30 : em_kd 30 = (20, 301) := rfl
theorem lc_30 : 30 < 132 := Nat.le_of_ble_eq_true rfl
theorem kc_31 : em_kd 31 = (20, 301) := rfl
theorem lc_31 : 31 < 132 := Nat.le_of_ble_eq_true rfl
theorem kc_32 : em_kd 32 = (20, 301) := rfl
theorem lc_32 : 32 < 132 := Nat.le_of_ble_eq_true rfl
theorem kc_33 : em_kd 33 = (20, 301) := rfl
theorem lc_33 : 33 < 132 := Nat.le_of_ble_eq_true rfl
theorem kc_34 : em_kd 34 = (20, 301) := rfl
theorem lc_34 : 34 < 132 := Nat.le_of_ble_eq_true rfl
theorem kc_35 : em_kd 35 = (20, 301) := rfl
theorem lc_35 : 35 < 132 := Nat.le_of_ble_eq_true rfl
theorem kc_36 : em_kd 36 = (20, 301) := rfl
theorem lc_36 : 36 < 132 := Nat.le_of_ble_eq_true rfl
theorem kc_37 : em_kd 37 = (21, 301) := rfl
theorem lc_37 : 37 < 132 := Nat.le_of_ble_eq_true rfl
theorem kc_38 : em_kd 38 = (9, 5) := rfl
theorem lc_38 : 38 < 132 := Nat.le_of_ble_eq_true rfl
theorem rc_38_1 : em_R 38 1 = some 39 := rfl
theorem rc_38_2 : em_R 38 2 = some 40 := rfl
theorem rc_38_3 : em_R 38 3 = some 41 := rfl
theorem rc_38_4 : em_R 38 4 = some 42 := rfl
theorem kc_39 : em_kd 39 = (20, 301) := rfl
theorem lc_39 : 39 < 132 := Nat.le_of_ble_eq_true rfl
theorem kc_40 : em_kd 40 = (20, 301) := rfl
theorem lc_40 : 40 < 132 := Nat.le_of_ble_eq_true rfl
theorem kc_41 : em_kd 41 = (20, 301) := rfl
theorem lc_41 : 41 < 132 := Nat.le_of_ble_eq_true rfl
theorem kc_42 : em_kd 42 = (20, 301) := rfl
theorem lc_42 : 42 < 132 := Nat.le_of_ble_eq_true rfl
theorem kc_43 : em_kd 43 = (20, 301) := rfl
theorem lc_43 : 43 < 132 := Nat.le_of_ble_eq_true rfl
theorem kc_44 : em_kd 44 = (20, 301) := rfl
theorem lc_44 : 44 < 132 := Nat.le_of_ble_eq_true rfl
theorem kc_45 : em_kd 45 = (1, 5) := rfl
theorem lc_45 : 45 < 132 := Nat.le_of_ble_eq_true rfl
theorem rc_45_0 : em_R 45 0 = some 55 := rfl
theorem rc_45_1 : em_R 45 1 = some 58 := rfl
theorem rc_45_2 : em_R 45 2 = some 46 := rfl
theorem rc_45_3 : em_R 45 3 = some 49 := rfl
theorem rc_45_4 : em_R 45 4 = some 52 := rfl
theorem kc_46 : em_kd 46 = (6, 4) := rfl
theorem lc_46 : 46 < 132 := Nat.le_of_ble_eq_true rfl
theorem rc_46_1 : em_R 46 1 = some 47 := rfl
theorem rc_46_2 : em_R 46 2 = some 48 := rfl
theorem kc_47 : em_kd 47 = (20, 10) := rfl
theorem lc_47 : 47 < 132 := Nat.le_of_ble_eq_true rfl
theorem kc_48 : em_kd 48 = (20, 10) := rfl
theorem lc_48 : 48 < 132 := Nat.le_of_ble_eq_true rfl
theorem kc_49 : em_kd 49 = (6, 4) := rfl
theorem lc_49 : 49 < 132 := Nat.le_of_ble_eq_true rfl
theorem rc_49_1 : em_R 49 1 = some 50 := rfl
theorem rc_49_2 : em_R 49 2 = some 51 := rfl
theorem kc_50 : em_kd 50 = (20, 10) := rfl
theorem lc_50 : 50 < 132 := Nat.le_of_ble_eq_true rfl
theorem kc_51 : em_kd 51 = (20, 10) := rfl
theorem lc_51 : 51 < 132 := Nat.le_of_ble_eq_true rfl
theorem kc_52 : em_kd 52 = (6, 4) := rfl
theorem lc_52 : 52 < 132 := Nat.le_of_ble_eq_true rfl
theorem rc_52_1 : em_R 52 1 = some 53 := rfl
theorem rc_52_2 : em_R 52 2 = some 54 := rfl
theorem kc_53 : em_kd 53 = (20, 10) := rfl
theorem lc_53 : 53 < 132 := Nat.le_of_ble_eq_true rfl
theorem kc_54 : em_kd 54 = (20, 10) := rfl
theorem lc_54 : 54 < 132 := Nat.le_of_ble_eq_true rfl
theorem kc_55 : em_kd 55 = (10, 2) := rfl
theorem lc_55 : 55 < 132 := Nat.le_of_ble_eq_true rfl
theorem rc_55_0 : em_R 55 0 = some 56 := rfl
theorem rc_55_1 : em_R 55 1 = some 57 := rfl
theorem kc_56 : em_kd 56 = (20, 4) := rfl
theorem lc_56 : 56 < 132 := Nat.le_of_ble_eq_true rfl
theorem kc_57 : em_kd 57 = (20, 3) := rfl
theorem lc_57 : 57 < 132 := Nat.le_of_ble_eq_true rfl
theorem kc_58 : em_kd 58 = (3, 15) := rfl
theorem lc_58 : 58 < 132 := Nat.le_of_ble_eq_true rfl
theorem rc_58_0 : em_R 58 0 = some 59 := rfl
theorem rc_58_1 : em_R 58 1 = some 1 := rfl
theorem rc_58_2 : em_R 58 2 = some 55 := rfl
theorem rc_58_3 : em_R 58 3 = some 61 := rfl
theorem rc_58_4 : em_R 58 4 = some 63 := rfl
theorem rc_58_5 : em_R 58 5 = some 72 := rfl
theorem rc_58_6 : em_R 58 6 = some 77 := rfl
theorem rc_58_7 : em_R 58 7 = some 78 := rfl
theorem kc_59 : em_kd 59 = (4, 6) := rfl
theorem lc_59 : 59 < 132 := Nat.le_of_ble_eq_true rfl
theorem rc_59_4 : em_R 59 4 = some 60 := rfl
theorem kc_60 : em_kd 60 = (20, 40) := rfl
theorem lc_60 : 60 < 132 := Nat.le_of_ble_eq_true rfl
theorem kc_61 : em_kd 61 = (7, 2) := rfl
theorem lc_61 : 61 < 132 := Nat.le_of_ble_eq_true rfl
theorem rc_61_1 : em_R 61 1 = some 62 := rfl
theorem kc_62 : em_kd 62 = (21, 1204) := rfl
theorem lc_62 : 62 < 132 := Nat.le_of_ble_eq_true rfl
theorem kc_63 : em_kd 63 = (0, 9) := rfl
theorem lc_63 : 63 < 132 := Nat.le_of_ble_eq_true rfl
theorem rc_63_1 : em_R 63 1 = some 64 := rfl
theorem rc_63_2 : em_R 63 2 = some 65 := rfl
theorem rc_63_3 : em_R 63 3 = some 66 := rfl
theorem rc_63_4 : em_R 63 4 = some 67 := rfl
theorem rc_63_5 : em_R 63 5 = some 68 := rfl
theorem rc_63_6 : em_R 63 6 = some 69 := rfl
theorem rc_63_7 : em_R 63 7 = some 70 := rfl
theorem rc_63_8 : em_R 63 8 = some 71 := rfl
theorem kc_64 : em_kd 64 = (20, 301) := rfl
theorem lc_64 : 64 < 132 := Nat.le_of_ble_eq_true rfl
theorem kc_65 : em_kd 65 = (20, 301) := rfl
theorem lc_65 : 65 < 132 := Nat.le_of_ble_eq_true rfl
theorem kc_66 : em_kd 66 = (20, 301) := rfl
theorem lc_66 : 66 < 132 := Nat.le_of_ble_eq_true rfl
theorem kc_67 : em_kd 67 = (20, 301) := rfl
theorem lc_67 : 67 < 132 := Nat.le_of_ble_eq_true rfl
theorem kc_68 : em_kd 68 = (20, 301) := rfl
theorem lc_68 : 68 < 132 := Nat.le_of_ble_eq_true rfl
theorem kc_69 : em_kd 69 = (20, 301) := rfl
theorem lc_69 : 69 < 132 := Nat.le_of_ble_eq_true rfl
theorem kc_70 : em_kd 70 = (20, 301) := rfl
theorem lc_70 : 70 < 132 := Nat.le_of_ble_eq_true rfl
theorem kc_71 : em_kd 71 = (21, 301) := rfl
theorem lc_71 : 71 < 132 := Nat.le_of_ble_eq_true rfl
theorem kc_72 : em_kd 72 = (9, 5) := rfl
theorem lc_72 : 72 < 132 := Nat.le_of_ble_eq_true rfl
theorem rc_72_1 : em_R 72 1 = some 73 := rfl
theorem rc_72_2 : em_R 72 2 = some 74 := rfl
theorem rc_72_3 : em_R 72 3 = some 75 := rfl
theorem rc_72_4 : em_R 72 4 = some 76 := rfl
theorem kc_73 : em_kd 73 = (20, 301) := rfl
theorem lc_73 : 73 < 132 := Nat.le_of_ble_eq_true rfl
theorem kc_74 : em_kd 74 = (20, 301) := rfl
theorem lc_74 : 74 < 132 := Nat.le_of_ble_eq_true rfl
theorem kc_75 : em_kd 75 = (20, 301) := rfl
theorem lc_75 : 75 < 132 := Nat.le_of_ble_eq_true rfl
theorem kc_76 : em_kd 76 = (20, 301) := rfl
theorem lc_76 : 76 < 132 := Nat.le_of_ble_eq_true rfl
theorem kc_77 : em_kd 77 = (20, 301) := rfl
theorem lc_77 : 77 < 132 := Nat.le_of_ble_eq_true rfl
theorem kc_78 : em_kd 78 = (20, 301) := rfl
theorem lc_78 : 78 < 132 := Nat.le_of_ble_eq_true rfl
theorem kc_79 : em_kd 79 = (10, 2) := rfl
theorem lc_79 : 79 < 132 := Nat.le_of_ble_eq_true rfl
theorem rc_79_0 : em_R 79 0 = some 80 := rfl
theorem rc_79_1 : em_R 79 1 = some 81 := rfl
theorem kc_80 : em_kd 80 = (20, 4) := rfl
theorem lc_80 : 80 < 132 := Nat.le_of_ble_eq_true rfl
theorem kc_81 : em_kd 81 = (20, 3) := rfl
theorem lc_81 : 81 < 132 := Nat.le_of_ble_eq_true rfl
theorem kc_82 : em_kd 82 = (3, 15) := rfl
theorem lc_82 : 82 < 132 := Nat.le_of_ble_eq_true rfl
theorem rc_82_0 : em_R 82 0 = some 83 := rfl
theorem rc_82_1 : em_R 82 1 = some 1 := rfl
theorem rc_82_2 : em_R 82 2 = some 79 := rfl
theorem rc_82_3 : em_R 82 3 = some 85 := rfl
theorem rc_82_4 : em_R 82 4 = some 87 := rfl
theorem rc_82_5 : em_R 82 5 = some 96 := rfl
theorem rc_82_6 : em_R 82 6 = some 101 := rfl
theorem rc_82_7 : em_R 82 7 = some 102 := rfl
theorem kc_83 : em_kd 83 = (4, 6) := rfl
theorem lc_83 : 83 < 132 := Nat.le_of_ble_eq_true rfl
theorem rc_83_4 : em_R 83 4 = some 84 := rfl
theorem kc_84 : em_kd 84 = (20, 40) := rfl
theorem lc_84 : 84 < 132 := Nat.le_of_ble_eq_true rfl
theorem kc_85 : em_kd 85 = (7, 2) := rfl
theorem lc_85 : 85 < 132 := Nat.le_of_ble_eq_true rfl
theorem rc_85_1 : em_R 85 1 = some 86 := rfl
theorem kc_86 : em_kd 86 = (21, 1204) := rfl
theorem lc_86 : 86 < 132 := Nat.le_of_ble_eq_true rfl
theorem kc_87 : em_kd 87 = (0, 9) := rfl
theorem lc_87 : 87 < 132 := Nat.le_of_ble_eq_true rfl
theorem rc_87_1 : em_R 87 1 = some 88 := rfl
theorem rc_87_2 : em_R 87 2 = some 89 := rfl
theorem rc_87_3 : em_R 87 3 = some 90 := rfl
theorem rc_87_4 : em_R 87 4 = some 91 := rfl
theorem rc_87_5 : em_R 87 5 = some 92 := rfl
theorem rc_87_6 : em_R 87 6 = some 93 := rfl
theorem rc_87_7 : em_R 87 7 = some 94 := rfl
theorem rc_87_8 : em_R 87 8 = some 95 := rfl
theorem kc_88 : em_kd 88 = (20, 301) := rfl
theorem lc_88 : 88 < 132 := Nat.le_of_ble_eq_true rfl
theorem kc_89 : em_kd 89 = (20, 301) := rfl
theorem lc_89 : 89 < 132 := Nat.le_of_ble_eq_true rfl
theorem kc_90 : em_kd 90 = (20, 301) := rfl
theorem lc_90 : 90 < 132 := Nat.le_of_ble_eq_true rfl
theorem kc_91 : em_kd 91 = (20, 301) := rfl
theorem lc_91 : 91 < 132 := Nat.le_of_ble_eq_true rfl
theorem kc_92 : em_kd 92 = (20, 301) := rfl
theorem lc_92 : 92 < 132 := Nat.le_of_ble_eq_true rfl
theorem kc_93 : em_kd 93 = (20, 301) := rfl
theorem lc_93 : 93 < 132 := Nat.le_of_ble_eq_true rfl
theorem kc_94 : em_kd 94 = (20, 301) := rfl
theorem lc_94 : 94 < 132 := Nat.le_of_ble_eq_true rfl
theorem kc_95 : em_kd 95 = (21, 301) := rfl
theorem lc_95 : 95 < 132 := Nat.le_of_ble_eq_true rfl
theorem kc_96 : em_kd 96 = (9, 5) := rfl
theorem lc_96 : 96 < 132 := Nat.le_of_ble_eq_true rfl
theorem rc_96_1 : em_R 96 1 = some 97 := rfl
theorem rc_96_2 : em_R 96 2 = some 98 := rfl
theorem rc_96_3 : em_R 96 3 = some 99 := rfl
theorem rc_96_4 : em_R 96 4 = some 100 := rfl
theorem kc_97 : em_kd 97 = (20, 301) := rfl
theorem lc_97 : 97 < 132 := Nat.le_of_ble_eq_true rfl
theorem kc_98 : em_kd 98 = (20, 301) := rfl
theorem lc_98 : 98 < 132 := Nat.le_of_ble_eq_true rfl
theorem kc_99 : em_kd 99 = (20, 301) := rfl
theorem lc_99 : 99 < 132 := Nat.le_of_ble_eq_true rfl
theorem kc_100 : em_kd 100 = (20, 301) := rfl
theorem lc_100 : 100 < 132 := Nat.le_of_ble_eq_true rfl
theorem kc_101 : em_kd 101 = (20, 301) := rfl
theorem lc_101 : 101 < 132 := Nat.le_of_ble_eq_true rfl
theorem kc_102 : em_kd 102 = (20, 301) := rfl
theorem lc_102 : 102 < 132 := Nat.le_of_ble_eq_true rfl
theorem kc_103 : em_kd 103 = (4, 6) := rfl
theorem lc_103 : 103 < 132 := Nat.le_of_ble_eq_true rfl
theorem rc_103_4 : em_R 103 4 = some 104 := rfl
theorem kc_104 : em_kd 104 = (20, 40) := rfl
theorem lc_104 : 104 < 132 := Nat.le_of_ble_eq_true rfl
theorem kc_105 : em_kd 105 = (22, 6) := rfl
theorem lc_105 : 105 < 132 := Nat.le_of_ble_eq_true rfl
theorem rc_105_0 : em_R 105 0 = some 106 := rfl
theorem rc_105_1 : em_R 105 1 = some 108 := rfl
theorem rc_105_2 : em_R 105 2 = some 110 := rfl
theorem rc_105_3 : em_R 105 3 = some 112 := rfl
theorem rc_105_4 : em_R 105 4 = some 114 := rfl
theorem rc_105_5 : em_R 105 5 = some 116 := rfl
theorem kc_106 : em_kd 106 = (8, 3) := rfl
theorem lc_106 : 106 < 132 := Nat.le_of_ble_eq_true rfl
theorem rc_106_2 : em_R 106 2 = some 107 := rfl
theorem kc_107 : em_kd 107 = (21, 60) := rfl
theorem lc_107 : 107 < 132 := Nat.le_of_ble_eq_true rfl
theorem kc_108 : em_kd 108 = (8, 3) := rfl
theorem lc_108 : 108 < 132 := Nat.le_of_ble_eq_true rfl
theorem rc_108_2 : em_R 108 2 = some 109 := rfl
theorem kc_109 : em_kd 109 = (21, 60) := rfl
theorem lc_109 : 109 < 132 := Nat.le_of_ble_eq_true rfl
theorem kc_110 : em_kd 110 = (8, 3) := rfl
theorem lc_110 : 110 < 132 := Nat.le_of_ble_eq_true rfl
theorem rc_110_2 : em_R 110 2 = some 111 := rfl
theorem kc_111 : em_kd 111 = (21, 60) := rfl
theorem lc_111 : 111 < 132 := Nat.le_of_ble_eq_true rfl
theorem kc_112 : em_kd 112 = (8, 3) := rfl
theorem lc_112 : 112 < 132 := Nat.le_of_ble_eq_true rfl
theorem rc_112_2 : em_R 112 2 = some 113 := rfl
theorem kc_113 : em_kd 113 = (21, 60) := rfl
theorem lc_113 : 113 < 132 := Nat.le_of_ble_eq_true rfl
theorem kc_114 : em_kd 114 = (8, 3) := rfl
theorem lc_114 : 114 < 132 := Nat.le_of_ble_eq_true rfl
theorem rc_114_2 : em_R 114 2 = some 115 := rfl
theorem kc_115 : em_kd 115 = (21, 60) := rfl
theorem lc_115 : 115 < 132 := Nat.le_of_ble_eq_true rfl
theorem kc_116 : em_kd 116 = (8, 3) := rfl
theorem lc_116 : 116 < 132 := Nat.le_of_ble_eq_true rfl
theorem rc_116_2 : em_R 116 2 = some 117 := rfl
theorem kc_117 : em_kd 117 = (21, 60) := rfl
theorem lc_117 : 117 < 132 := Nat.le_of_ble_eq_true rfl
theorem kc_118 : em_kd 118 = (12, 19) := rfl
theorem lc_118 : 118 < 132 := Nat.le_of_ble_eq_true rfl
theorem rc_118_0 : em_R 118 0 = some 119 := rfl
theorem rc_118_1 : em_R 118 1 = some 120 := rfl
theorem rc_118_2 : em_R 118 2 = some 121 := rfl
theorem rc_118_4 : em_R 118 4 = some 122 := rfl
theorem rc_118_5 : em_R 118 5 = some 123 := rfl
theorem rc_118_6 : em_R 118 6 = some 124 := rfl
theorem rc_118_7 : em_R 118 7 = some 125 := rfl
theorem rc_118_8 : em_R 118 8 = some 126 := rfl
theorem rc_118_10 : em_R 118 10 = some 127 := rfl
theorem rc_118_15 : em_R 118 15 = some 128 := rfl
theorem rc_118_16 : em_R 118 16 = some 129 := rfl
theorem rc_118_17 : em_R 118 17 = some 130 := rfl
theorem rc_118_18 : em_R 118 18 = some 131 := rfl
theorem kc_119 : em_kd 119 = (20, 5880) := rfl
theorem lc_119 : 119 < 132 := Nat.le_of_ble_eq_true rfl
theorem kc_120 : em_kd 120 = (20, 5880) := rfl
theorem lc_120 : 120 < 132 := Nat.le_of_ble_eq_true rfl
theorem kc_121 : em_kd 121 = (20, 5880) := rfl
theorem lc_121 : 121 < 132 := Nat.le_of_ble_eq_true rfl
theorem kc_122 : em_kd 122 = (20, 808) := rfl
theorem lc_122 : 122 < 132 := Nat.le_of_ble_eq_true rfl
theorem kc_123 : em_kd 123 = (20, 808) := rfl
theorem lc_123 : 123 < 132 := Nat.le_of_ble_eq_true rfl
theorem kc_124 : em_kd 124 = (20, 808) := rfl
theorem lc_124 : 124 < 132 := Nat.le_of_ble_eq_true rfl
theorem kc_125 : em_kd 125 = (20, 4040) := rfl
theorem lc_125 : 125 < 132 := Nat.le_of_ble_eq_true rfl
theorem kc_126 : em_kd 126 = (20, 8) := rfl
theorem lc_126 : 126 < 132 := Nat.le_of_ble_eq_true rfl
theorem kc_127 : em_kd 127 = (20, 100) := rfl
theorem lc_127 : 127 < 132 := Nat.le_of_ble_eq_true rfl
theorem kc_128 : em_kd 128 = (20, 5880) := rfl
theorem lc_128 : 128 < 132 := Nat.le_of_ble_eq_true rfl
theorem kc_129 : em_kd 129 = (20, 6) := rfl
theorem lc_129 : 129 < 132 := Nat.le_of_ble_eq_true rfl
theorem kc_130 : em_kd 130 = (20, 6) := rfl
theorem lc_130 : 130 < 132 := Nat.le_of_ble_eq_true rfl
theorem kc_131 : em_kd 131 = (21, 360) := rfl
theorem lc_131 : 131 < 132 := Nat.le_of_ble_eq_true rfl
def ew (w : Nat) : Prop := w = 21 ∨ w = 55 ∨ w = 79
theorem ew_21 : ew 21 := by unfold ew; decide
theorem ew_55 : ew 55 := by unfold ew; decide
theorem ew_79 : ew 79 := by unfold ew; decide
theorem kw_lt {w : Nat} (h : ew w) (j : Nat) (hj : j < 24) : w + j < 132 := by
  rcases h with rfl | rfl | rfl <;> omega
theorem kw_lt0 {w : Nat} (h : ew w) : w < 132 := kw_lt h 0 (by decide)
theorem kw_0 {w : Nat} (h : ew w) : em_kd (w) = (10, 2) := by
  rcases h with rfl | rfl | rfl <;> rfl
theorem rw_0_0 {w : Nat} (h : ew w) : em_R (w) 0 = some (w + 1) := by
  rcases h with rfl | rfl | rfl <;> rfl
theorem rw_0_1 {w : Nat} (h : ew w) : em_R (w) 1 = some (w + 2) := by
  rcases h with rfl | rfl | rfl <;> rfl
theorem kw_1 {w : Nat} (h : ew w) : em_kd (w + 1) = (20, 4) := by
  rcases h with rfl | rfl | rfl <;> rfl
theorem kw_2 {w : Nat} (h : ew w) : em_kd (w + 2) = (20, 3) := by
  rcases h with rfl | rfl | rfl <;> rfl
theorem kw_3 {w : Nat} (h : ew w) : em_kd (w + 3) = (3, 15) := by
  rcases h with rfl | rfl | rfl <;> rfl
theorem rw_3_0 {w : Nat} (h : ew w) : em_R (w + 3) 0 = some (w + 4) := by
  rcases h with rfl | rfl | rfl <;> rfl
theorem rw_3_1 {w : Nat} (h : ew w) : em_R (w + 3) 1 = some (1) := by
  rcases h with rfl | rfl | rfl <;> rfl
theorem rw_3_2 {w : Nat} (h : ew w) : em_R (w + 3) 2 = some (w + 0) := by
  rcases h with rfl | rfl | rfl <;> rfl
theorem rw_3_3 {w : Nat} (h : ew w) : em_R (w + 3) 3 = some (w + 6) := by
  rcases h with rfl | rfl | rfl <;> rfl
theorem rw_3_4 {w : Nat} (h : ew w) : em_R (w + 3) 4 = some (w + 8) := by
  rcases h with rfl | rfl | rfl <;> rfl
theorem rw_3_5 {w : Nat} (h : ew w) : em_R (w + 3) 5 = some (w + 17) := by
  rcases h with rfl | rfl | rfl <;> rfl
theorem rw_3_6 {w : Nat} (h : ew w) : em_R (w + 3) 6 = some (w + 22) := by
  rcases h with rfl | rfl | rfl <;> rfl
theorem rw_3_7 {w : Nat} (h : ew w) : em_R (w + 3) 7 = some (w + 23) := by
  rcases h with rfl | rfl | rfl <;> rfl
theorem kw_4 {w : Nat} (h : ew w) : em_kd (w + 4) = (4, 6) := by
  rcases h with rfl | rfl | rfl <;> rfl
theorem rw_4_4 {w : Nat} (h : ew w) : em_R (w + 4) 4 = some (w + 5) := by
  rcases h with rfl | rfl | rfl <;> rfl
theorem kw_5 {w : Nat} (h : ew w) : em_kd (w + 5) = (20, 40) := by
  rcases h with rfl | rfl | rfl <;> rfl
theorem kw_6 {w : Nat} (h : ew w) : em_kd (w + 6) = (7, 2) := by
  rcases h with rfl | rfl | rfl <;> rfl
theorem rw_6_1 {w : Nat} (h : ew w) : em_R (w + 6) 1 = some (w + 7) := by
  rcases h with rfl | rfl | rfl <;> rfl
theorem kw_7 {w : Nat} (h : ew w) : em_kd (w + 7) = (21, 1204) := by
  rcases h with rfl | rfl | rfl <;> rfl
theorem kw_8 {w : Nat} (h : ew w) : em_kd (w + 8) = (0, 9) := by
  rcases h with rfl | rfl | rfl <;> rfl
theorem rw_8_1 {w : Nat} (h : ew w) : em_R (w + 8) 1 = some (w + 9) := by
  rcases h with rfl | rfl | rfl <;> rfl
theorem rw_8_2 {w : Nat} (h : ew w) : em_R (w + 8) 2 = some (w + 10) := by
  rcases h with rfl | rfl | rfl <;> rfl
theorem rw_8_3 {w : Nat} (h : ew w) : em_R (w + 8) 3 = some (w + 11) := by
  rcases h with rfl | rfl | rfl <;> rfl
theorem rw_8_4 {w : Nat} (h : ew w) : em_R (w + 8) 4 = some (w + 12) := by
  rcases h with rfl | rfl | rfl <;> rfl
theorem rw_8_5 {w : Nat} (h : ew w) : em_R (w + 8) 5 = some (w + 13) := by
  rcases h with rfl | rfl | rfl <;> rfl
theorem rw_8_6 {w : Nat} (h : ew w) : em_R (w + 8) 6 = some (w + 14) := by
  rcases h with rfl | rfl | rfl <;> rfl
theorem rw_8_7 {w : Nat} (h : ew w) : em_R (w + 8) 7 = some (w + 15) := by
  rcases h with rfl | rfl | rfl <;> rfl
theorem rw_8_8 {w : Nat} (h : ew w) : em_R (w + 8) 8 = some (w + 16) := by
  rcases h with rfl | rfl | rfl <;> rfl
theorem kw_9 {w : Nat} (h : ew w) : em_kd (w + 9) = (20, 301) := by
  rcases h with rfl | rfl | rfl <;> rfl
theorem kw_10 {w : Nat} (h : ew w) : em_kd (w + 10) = (20, 301) := by
  rcases h with rfl | rfl | rfl <;> rfl
theorem kw_11 {w : Nat} (h : ew w) : em_kd (w + 11) = (20, 301) := by
  rcases h with rfl | rfl | rfl <;> rfl
theorem kw_12 {w : Nat} (h : ew w) : em_kd (w + 12) = (20, 301) := by
  rcases h with rfl | rfl | rfl <;> rfl
theorem kw_13 {w : Nat} (h : ew w) : em_kd (w + 13) = (20, 301) := by
  rcases h with rfl | rfl | rfl <;> rfl
theorem kw_14 {w : Nat} (h : ew w) : em_kd (w + 14) = (20, 301) := by
  rcases h with rfl | rfl | rfl <;> rfl
theorem kw_15 {w : Nat} (h : ew w) : em_kd (w + 15) = (20, 301) := by
  rcases h with rfl | rfl | rfl <;> rfl
theorem kw_16 {w : Nat} (h : ew w) : em_kd (w + 16) = (21, 301) := by
  rcases h with rfl | rfl | rfl <;> rfl
theorem kw_17 {w : Nat} (h : ew w) : em_kd (w + 17) = (9, 5) := by
  rcases h with rfl | rfl | rfl <;> rfl
theorem rw_17_1 {w : Nat} (h : ew w) : em_R (w + 17) 1 = some (w + 18) := by
  rcases h with rfl | rfl | rfl <;> rfl
theorem rw_17_2 {w : Nat} (h : ew w) : em_R (w + 17) 2 = some (w + 19) := by
  rcases h with rfl | rfl | rfl <;> rfl
theorem rw_17_3 {w : Nat} (h : ew w) : em_R (w + 17) 3 = some (w + 20) := by
  rcases h with rfl | rfl | rfl <;> rfl
theorem rw_17_4 {w : Nat} (h : ew w) : em_R (w + 17) 4 = some (w + 21) := by
  rcases h with rfl | rfl | rfl <;> rfl
theorem kw_18 {w : Nat} (h : ew w) : em_kd (w + 18) = (20, 301) := by
  rcases h with rfl | rfl | rfl <;> rfl
theorem kw_19 {w : Nat} (h : ew w) : em_kd (w + 19) = (20, 301) := by
  rcases h with rfl | rfl | rfl <;> rfl
theorem kw_20 {w : Nat} (h : ew w) : em_kd (w + 20) = (20, 301) := by
  rcases h with rfl | rfl | rfl <;> rfl
theorem kw_21 {w : Nat} (h : ew w) : em_kd (w + 21) = (20, 301) := by
  rcases h with rfl | rfl | rfl <;> rfl
theorem kw_22 {w : Nat} (h : ew w) : em_kd (w + 22) = (20, 301) := by
  rcases h with rfl | rfl | rfl <;> rfl
theorem kw_23 {w : Nat} (h : ew w) : em_kd (w + 23) = (20, 301) := by
  rcases h with rfl | rfl | rfl <;> rfl
def er (r : Nat) : Prop := r = 12 ∨ r = 15 ∨ r = 18 ∨ r = 46 ∨ r = 49 ∨ r = 52
theorem er_12 : er 12 := by unfold er; decide
theorem er_15 : er 15 := by unfold er; decide
theorem er_18 : er 18 := by unfold er; decide
theorem er_46 : er 46 := by unfold er; decide
theorem er_49 : er 49 := by unfold er; decide
theorem er_52 : er 52 := by unfold er; decide
theorem kr_lt {r : Nat} (h : er r) (j : Nat) (hj : j < 3) : r + j < 132 := by
  rcases h with rfl | rfl | rfl | rfl | rfl | rfl <;> omega
theorem kr_lt0 {r : Nat} (h : er r) : r < 132 := kr_lt h 0 (by decide)
theorem kr_0 {r : Nat} (h : er r) : em_kd (r) = (6, 4) := by
  rcases h with rfl | rfl | rfl | rfl | rfl | rfl <;> rfl
theorem rr_0_1 {r : Nat} (h : er r) : em_R (r) 1 = some (r + 1) := by
  rcases h with rfl | rfl | rfl | rfl | rfl | rfl <;> rfl
theorem rr_0_2 {r : Nat} (h : er r) : em_R (r) 2 = some (r + 2) := by
  rcases h with rfl | rfl | rfl | rfl | rfl | rfl <;> rfl
theorem kr_1 {r : Nat} (h : er r) : em_kd (r + 1) = (20, 10) := by
  rcases h with rfl | rfl | rfl | rfl | rfl | rfl <;> rfl
theorem kr_2 {r : Nat} (h : er r) : em_kd (r + 2) = (20, 10) := by
  rcases h with rfl | rfl | rfl | rfl | rfl | rfl <;> rfl
def ek (k : Nat) : Prop := k = 11 ∨ k = 45
theorem ek_11 : ek 11 := by unfold ek; decide
theorem ek_45 : ek 45 := by unfold ek; decide
theorem kk_lt {k : Nat} (h : ek k) (j : Nat) (hj : j < 34) : k + j < 132 := by
  rcases h with rfl | rfl <;> omega
theorem kk_lt0 {k : Nat} (h : ek k) : k < 132 := kk_lt h 0 (by decide)
theorem kk_0 {k : Nat} (h : ek k) : em_kd (k) = (1, 5) := by
  rcases h with rfl | rfl <;> rfl
theorem rk_0_0 {k : Nat} (h : ek k) : em_R (k) 0 = some (k + 10) := by
  rcases h with rfl | rfl <;> rfl
theorem rk_0_1 {k : Nat} (h : ek k) : em_R (k) 1 = some (k + 13) := by
  rcases h with rfl | rfl <;> rfl
theorem rk_0_2 {k : Nat} (h : ek k) : em_R (k) 2 = some (k + 1) := by
  rcases h with rfl | rfl <;> rfl
theorem rk_0_3 {k : Nat} (h : ek k) : em_R (k) 3 = some (k + 4) := by
  rcases h with rfl | rfl <;> rfl
theorem rk_0_4 {k : Nat} (h : ek k) : em_R (k) 4 = some (k + 7) := by
  rcases h with rfl | rfl <;> rfl
theorem kk_1 {k : Nat} (h : ek k) : em_kd (k + 1) = (6, 4) := by
  rcases h with rfl | rfl <;> rfl
theorem rk_1_1 {k : Nat} (h : ek k) : em_R (k + 1) 1 = some (k + 2) := by
  rcases h with rfl | rfl <;> rfl
theorem rk_1_2 {k : Nat} (h : ek k) : em_R (k + 1) 2 = some (k + 3) := by
  rcases h with rfl | rfl <;> rfl
theorem kk_2 {k : Nat} (h : ek k) : em_kd (k + 2) = (20, 10) := by
  rcases h with rfl | rfl <;> rfl
theorem kk_3 {k : Nat} (h : ek k) : em_kd (k + 3) = (20, 10) := by
  rcases h with rfl | rfl <;> rfl
theorem kk_4 {k : Nat} (h : ek k) : em_kd (k + 4) = (6, 4) := by
  rcases h with rfl | rfl <;> rfl
theorem rk_4_1 {k : Nat} (h : ek k) : em_R (k + 4) 1 = some (k + 5) := by
  rcases h with rfl | rfl <;> rfl
theorem rk_4_2 {k : Nat} (h : ek k) : em_R (k + 4) 2 = some (k + 6) := by
  rcases h with rfl | rfl <;> rfl
theorem kk_5 {k : Nat} (h : ek k) : em_kd (k + 5) = (20, 10) := by
  rcases h with rfl | rfl <;> rfl
theorem kk_6 {k : Nat} (h : ek k) : em_kd (k + 6) = (20, 10) := by
  rcases h with rfl | rfl <;> rfl
theorem kk_7 {k : Nat} (h : ek k) : em_kd (k + 7) = (6, 4) := by
  rcases h with rfl | rfl <;> rfl
theorem rk_7_1 {k : Nat} (h : ek k) : em_R (k + 7) 1 = some (k + 8) := by
  rcases h with rfl | rfl <;> rfl
theorem rk_7_2 {k : Nat} (h : ek k) : em_R (k + 7) 2 = some (k + 9) := by
  rcases h with rfl | rfl <;> rfl
theorem kk_8 {k : Nat} (h : ek k) : em_kd (k + 8) = (20, 10) := by
  rcases h with rfl | rfl <;> rfl
theorem kk_9 {k : Nat} (h : ek k) : em_kd (k + 9) = (20, 10) := by
  rcases h with rfl | rfl <;> rfl
theorem kk_10 {k : Nat} (h : ek k) : em_kd (k + 10) = (10, 2) := by
  rcases h with rfl | rfl <;> rfl
theorem rk_10_0 {k : Nat} (h : ek k) : em_R (k + 10) 0 = some (k + 11) := by
  rcases h with rfl | rfl <;> rfl
theorem rk_10_1 {k : Nat} (h : ek k) : em_R (k + 10) 1 = some (k + 12) := by
  rcases h with rfl | rfl <;> rfl
theorem kk_11 {k : Nat} (h : ek k) : em_kd (k + 11) = (20, 4) := by
  rcases h with rfl | rfl <;> rfl
theorem kk_12 {k : Nat} (h : ek k) : em_kd (k + 12) = (20, 3) := by
  rcases h with rfl | rfl <;> rfl
theorem kk_13 {k : Nat} (h : ek k) : em_kd (k + 13) = (3, 15) := by
  rcases h with rfl | rfl <;> rfl
theorem rk_13_0 {k : Nat} (h : ek k) : em_R (k + 13) 0 = some (k + 14) := by
  rcases h with rfl | rfl <;> rfl
theorem rk_13_1 {k : Nat} (h : ek k) : em_R (k + 13) 1 = some (1) := by
  rcases h with rfl | rfl <;> rfl
theorem rk_13_2 {k : Nat} (h : ek k) : em_R (k + 13) 2 = some (k + 10) := by
  rcases h with rfl | rfl <;> rfl
theorem rk_13_3 {k : Nat} (h : ek k) : em_R (k + 13) 3 = some (k + 16) := by
  rcases h with rfl | rfl <;> rfl
theorem rk_13_4 {k : Nat} (h : ek k) : em_R (k + 13) 4 = some (k + 18) := by
  rcases h with rfl | rfl <;> rfl
theorem rk_13_5 {k : Nat} (h : ek k) : em_R (k + 13) 5 = some (k + 27) := by
  rcases h with rfl | rfl <;> rfl
theorem rk_13_6 {k : Nat} (h : ek k) : em_R (k + 13) 6 = some (k + 32) := by
  rcases h with rfl | rfl <;> rfl
theorem rk_13_7 {k : Nat} (h : ek k) : em_R (k + 13) 7 = some (k + 33) := by
  rcases h with rfl | rfl <;> rfl
theorem kk_14 {k : Nat} (h : ek k) : em_kd (k + 14) = (4, 6) := by
  rcases h with rfl | rfl <;> rfl
theorem rk_14_4 {k : Nat} (h : ek k) : em_R (k + 14) 4 = some (k + 15) := by
  rcases h with rfl | rfl <;> rfl
theorem kk_15 {k : Nat} (h : ek k) : em_kd (k + 15) = (20, 40) := by
  rcases h with rfl | rfl <;> rfl
theorem kk_16 {k : Nat} (h : ek k) : em_kd (k + 16) = (7, 2) := by
  rcases h with rfl | rfl <;> rfl
theorem rk_16_1 {k : Nat} (h : ek k) : em_R (k + 16) 1 = some (k + 17) := by
  rcases h with rfl | rfl <;> rfl
theorem kk_17 {k : Nat} (h : ek k) : em_kd (k + 17) = (21, 1204) := by
  rcases h with rfl | rfl <;> rfl
theorem kk_18 {k : Nat} (h : ek k) : em_kd (k + 18) = (0, 9) := by
  rcases h with rfl | rfl <;> rfl
theorem rk_18_1 {k : Nat} (h : ek k) : em_R (k + 18) 1 = some (k + 19) := by
  rcases h with rfl | rfl <;> rfl
theorem rk_18_2 {k : Nat} (h : ek k) : em_R (k + 18) 2 = some (k + 20) := by
  rcases h with rfl | rfl <;> rfl
theorem rk_18_3 {k : Nat} (h : ek k) : em_R (k + 18) 3 = some (k + 21) := by
  rcases h with rfl | rfl <;> rfl
theorem rk_18_4 {k : Nat} (h : ek k) : em_R (k + 18) 4 = some (k + 22) := by
  rcases h with rfl | rfl <;> rfl
theorem rk_18_5 {k : Nat} (h : ek k) : em_R (k + 18) 5 = some (k + 23) := by
  rcases h with rfl | rfl <;> rfl
theorem rk_18_6 {k : Nat} (h : ek k) : em_R (k + 18) 6 = some (k + 24) := by
  rcases h with rfl | rfl <;> rfl
theorem rk_18_7 {k : Nat} (h : ek k) : em_R (k + 18) 7 = some (k + 25) := by
  rcases h with rfl | rfl <;> rfl
theorem rk_18_8 {k : Nat} (h : ek k) : em_R (k + 18) 8 = some (k + 26) := by
  rcases h with rfl | rfl <;> rfl
theorem kk_19 {k : Nat} (h : ek k) : em_kd (k + 19) = (20, 301) := by
  rcases h with rfl | rfl <;> rfl
theorem kk_20 {k : Nat} (h : ek k) : em_kd (k + 20) = (20, 301) := by
  rcases h with rfl | rfl <;> rfl
theorem kk_21 {k : Nat} (h : ek k) : em_kd (k + 21) = (20, 301) := by
  rcases h with rfl | rfl <;> rfl
theorem kk_22 {k : Nat} (h : ek k) : em_kd (k + 22) = (20, 301) := by
  rcases h with rfl | rfl <;> rfl
theorem kk_23 {k : Nat} (h : ek k) : em_kd (k + 23) = (20, 301) := by
  rcases h with rfl | rfl <;> rfl
theorem kk_24 {k : Nat} (h : ek k) : em_kd (k + 24) = (20, 301) := by
  rcases h with rfl | rfl <;> rfl
theorem kk_25 {k : Nat} (h : ek k) : em_kd (k + 25) = (20, 301) := by
  rcases h with rfl | rfl <;> rfl
theorem kk_26 {k : Nat} (h : ek k) : em_kd (k + 26) = (21, 301) := by
  rcases h with rfl | rfl <;> rfl
theorem kk_27 {k : Nat} (h : ek k) : em_kd (k + 27) = (9, 5) := by
  rcases h with rfl | rfl <;> rfl
theorem rk_27_1 {k : Nat} (h : ek k) : em_R (k + 27) 1 = some (k + 28) := by
  rcases h with rfl | rfl <;> rfl
theorem rk_27_2 {k : Nat} (h : ek k) : em_R (k + 27) 2 = some (k + 29) := by
  rcases h with rfl | rfl <;> rfl
theorem rk_27_3 {k : Nat} (h : ek k) : em_R (k + 27) 3 = some (k + 30) := by
  rcases h with rfl | rfl <;> rfl
theorem rk_27_4 {k : Nat} (h : ek k) : em_R (k + 27) 4 = some (k + 31) := by
  rcases h with rfl | rfl <;> rfl
theorem kk_28 {k : Nat} (h : ek k) : em_kd (k + 28) = (20, 301) := by
  rcases h with rfl | rfl <;> rfl
theorem kk_29 {k : Nat} (h : ek k) : em_kd (k + 29) = (20, 301) := by
  rcases h with rfl | rfl <;> rfl
theorem kk_30 {k : Nat} (h : ek k) : em_kd (k + 30) = (20, 301) := by
  rcases h with rfl | rfl <;> rfl
theorem kk_31 {k : Nat} (h : ek k) : em_kd (k + 31) = (20, 301) := by
  rcases h with rfl | rfl <;> rfl
theorem kk_32 {k : Nat} (h : ek k) : em_kd (k + 32) = (20, 301) := by
  rcases h with rfl | rfl <;> rfl
theorem kk_33 {k : Nat} (h : ek k) : em_kd (k + 33) = (20, 301) := by
  rcases h with rfl | rfl <;> rfl
def eo (o : Nat) : Prop := o = 25 ∨ o = 59 ∨ o = 83 ∨ o = 103
theorem eo_25 : eo 25 := by unfold eo; decide
theorem eo_59 : eo 59 := by unfold eo; decide
theorem eo_83 : eo 83 := by unfold eo; decide
theorem eo_103 : eo 103 := by unfold eo; decide
theorem ko_lt {o : Nat} (h : eo o) (j : Nat) (hj : j < 2) : o + j < 132 := by
  rcases h with rfl | rfl | rfl | rfl <;> omega
theorem ko_lt0 {o : Nat} (h : eo o) : o < 132 := ko_lt h 0 (by decide)
theorem ko_0 {o : Nat} (h : eo o) : em_kd (o) = (4, 6) := by
  rcases h with rfl | rfl | rfl | rfl <;> rfl
theorem ro_0_4 {o : Nat} (h : eo o) : em_R (o) 4 = some (o + 1) := by
  rcases h with rfl | rfl | rfl | rfl <;> rfl
theorem ko_1 {o : Nat} (h : eo o) : em_kd (o + 1) = (20, 40) := by
  rcases h with rfl | rfl | rfl | rfl <;> rfl
def et (t : Nat) : Prop := t = 106 ∨ t = 108 ∨ t = 110 ∨ t = 112 ∨ t = 114 ∨ t = 116
theorem et_106 : et 106 := by unfold et; decide
theorem et_108 : et 108 := by unfold et; decide
theorem et_110 : et 110 := by unfold et; decide
theorem et_112 : et 112 := by unfold et; decide
theorem et_114 : et 114 := by unfold et; decide
theorem et_116 : et 116 := by unfold et; decide
theorem kt_lt {t : Nat} (h : et t) (j : Nat) (hj : j < 2) : t + j < 132 := by
  rcases h with rfl | rfl | rfl | rfl | rfl | rfl <;> omega
theorem kt_lt0 {t : Nat} (h : et t) : t < 132 := kt_lt h 0 (by decide)
theorem kt_0 {t : Nat} (h : et t) : em_kd (t) = (8, 3) := by
  rcases h with rfl | rfl | rfl | rfl | rfl | rfl <;> rfl
theorem rt_0_2 {t : Nat} (h : et t) : em_R (t) 2 = some (t + 1) := by
  rcases h with rfl | rfl | rfl | rfl | rfl | rfl <;> rfl
theorem kt_1 {t : Nat} (h : et t) : em_kd (t + 1) = (21, 60) := by
  rcases h with rfl | rfl | rfl | rfl | rfl | rfl <;> rfl
theorem ew_eo {w : Nat} (h : ew w) : eo (w + 4) := by
  rcases h with rfl | rfl | rfl
  · exact eo_25
  · exact eo_59
  · exact eo_83
theorem ek_ew {k : Nat} (h : ek k) : ew (k + 10) := by
  rcases h with rfl | rfl
  · exact ew_21
  · exact ew_55
theorem ek_er1 {k : Nat} (h : ek k) : er (k + 1) := by
  rcases h with rfl | rfl
  · exact er_12
  · exact er_46
theorem ek_er4 {k : Nat} (h : ek k) : er (k + 4) := by
  rcases h with rfl | rfl
  · exact er_15
  · exact er_49
theorem ek_er7 {k : Nat} (h : ek k) : er (k + 7) := by
  rcases h with rfl | rfl
  · exact er_18
  · exact er_52
theorem ez_lt {a b c : Nat} (h : a = b) (hi : Nat.ble (c + 1) b = true) : c < a := by rw [h]; exact Nat.le_of_ble_eq_true hi
theorem ez_rok {X : em_X} {fr0 lo0 mc0 ms0 fr lo mL mc ms mc' ms' : Nat} (h : ez_rm X = { frames := fr0, cells := mc0, slots := ms0, locals := lo0 }) (hh : (Nat.ble (fr + 1) fr0 && Nat.ble (8 + (mL + 11) + lo) lo0 && Nat.ble (mc + mc') mc0 && Nat.ble (ms + ms') ms0) = true) : fr + 1 ≤ (ez_rm X).frames ∧ 8 + (mL + 11) + lo ≤ (ez_rm X).locals ∧ mc + mc' ≤ (ez_rm X).cells ∧ ms + ms' ≤ (ez_rm X).slots := by
  rw [h]
  simp only [Bool.and_eq_true] at hh
  exact ⟨Nat.le_of_ble_eq_true hh.1.1.1, Nat.le_of_ble_eq_true hh.1.1.2, Nat.le_of_ble_eq_true hh.1.2, Nat.le_of_ble_eq_true hh.2⟩
theorem ez_rok2 {X : em_X} {fr0 lo0 mc0 ms0 a b mc ms : Nat} (h : ez_rm X = { frames := fr0, cells := mc0, slots := ms0, locals := lo0 }) (hh : (Nat.ble a fr0 && Nat.ble b lo0 && Nat.ble mc mc0 && Nat.ble ms ms0) = true) : a ≤ (ez_rm X).frames ∧ b ≤ (ez_rm X).locals ∧ mc ≤ (ez_rm X).cells ∧ ms ≤ (ez_rm X).slots := by
  rw [h]
  simp only [Bool.and_eq_true] at hh
  exact ⟨Nat.le_of_ble_eq_true hh.1.1.1, Nat.le_of_ble_eq_true hh.1.1.2, Nat.le_of_ble_eq_true hh.1.2, Nat.le_of_ble_eq_true hh.2⟩
theorem ez_rok3 {X : em_X} {fr0 lo0 mc0 ms0 fr lo mL mc ms mc' ms' : Nat} (h : ez_rm X = { frames := fr0, cells := mc0, slots := ms0, locals := lo0 }) (hh : fr + 1 ≤ fr0 ∧ 8 + (mL + 11) + lo ≤ lo0 ∧ mc + mc' ≤ mc0 ∧ ms + ms' ≤ ms0) : fr + 1 ≤ (ez_rm X).frames ∧ 8 + (mL + 11) + lo ≤ (ez_rm X).locals ∧ mc + mc' ≤ (ez_rm X).cells ∧ ms + ms' ≤ (ez_rm X).slots := by
  rw [h]
  exact hh
/-- a loop from k up to N -/
def ez_cnu (k N : Int32) (f : Nat) : Prop := N.toInt - k.toInt < f ∧ 0 < f
theorem ez_ra {X : em_X} {fr0 lo0 mc0 ms0 a : Nat} (h : ez_rm X = { frames := fr0, cells := mc0, slots := ms0, locals := lo0 }) (hh : Nat.ble a fr0 = true) : a ≤ (ez_rm X).frames := by
  rw [h]
  exact Nat.le_of_ble_eq_true hh
theorem ez_rb {X : em_X} {fr0 lo0 mc0 ms0 b : Nat} (h : ez_rm X = { frames := fr0, cells := mc0, slots := ms0, locals := lo0 }) (hh : Nat.ble b lo0 = true) : b ≤ (ez_rm X).locals := by
  rw [h]
  exact Nat.le_of_ble_eq_true hh
theorem ez_reI {X : em_X} {N : Nat} {R : em_Rt} {M : em_M} {mc ms pc : Nat} {lv : List (Nat × Value)} {st : List Value} {t r : Int32} (h : t = r) (k : ez_Z X N R M mc ms pc lv (.int r :: st)) : ez_Z X N R M mc ms pc lv (.int t :: st) := h ▸ k
theorem ez_reL {X : em_X} {N : Nat} {R : em_Rt} {M : em_M} {mc ms pc : Nat} {lv : List (Nat × Value)} {st : List Value} {t r : Int64} (h : t = r) (k : ez_Z X N R M mc ms pc lv (.long r :: st)) : ez_Z X N R M mc ms pc lv (.long t :: st) := h ▸ k
theorem ez_nmI {X : em_X} {N : Nat} {R : em_Rt} {M : em_M} {mc ms pc : Nat} {lv : List (Nat × Value)} {st : List Value} {t : Int32} (k : ∀ r, t = r → ez_Z X N R M mc ms pc lv (.int r :: st)) : ez_Z X N R M mc ms pc lv (.int t :: st) := k t rfl
theorem ez_nmL {X : em_X} {N : Nat} {R : em_Rt} {M : em_M} {mc ms pc : Nat} {lv : List (Nat × Value)} {st : List Value} {t : Int64} (k : ∀ r, t = r → ez_Z X N R M mc ms pc lv (.long r :: st)) : ez_Z X N R M mc ms pc lv (.long t :: st) := k t rfl
theorem ez_nmM {X : em_X} {N : Nat} {R : em_Rt} {mc ms pc : Nat} {lv : List (Nat × Value)} {st : List Value} {t : em_M} (k : ∀ M', t = M' → ez_Z X N R M' mc ms pc lv st) : ez_Z X N R t mc ms pc lv st := k t rfl
theorem ez_nmIM {X : em_X} {N : Nat} {R : em_Rt} {mc ms pc : Nat} {lv : List (Nat × Value)} {st : List Value} {t : Int32 × em_M} (k : ∀ r M', t = (r, M') → ez_Z X N R M' mc ms pc lv (.int r :: st)) : ez_Z X N R t.2 mc ms pc lv (.int t.1 :: st) := k t.1 t.2 rfl
theorem ez_nmLM {X : em_X} {N : Nat} {R : em_Rt} {mc ms pc : Nat} {lv : List (Nat × Value)} {st : List Value} {t : Int64 × em_M} (k : ∀ r M', t = (r, M') → ez_Z X N R M' mc ms pc lv (.long r :: st)) : ez_Z X N R t.2 mc ms pc lv (.long t.1 :: st) := k t.1 t.2 rfl
theorem ez_lv {X : em_X} {N : Nat} {R : em_Rt} {M : em_M} {mc ms pc : Nat} {lv lv' : List (Nat × Value)} {st : List Value} (ks : List Nat) (h : lv_pick lv ks = lv') (k : ez_Z X N R M mc ms pc lv' st) : ez_Z X N R M mc ms pc lv st := by
  obtain ⟨p, l, e, Rm, s, m, args, below, meth, c, nL, D, B, Q⟩ := X
  intro H locs ls h1 h2 h3
  exact k H locs ls h1 h2 (lv_sub h3 ks h)
theorem ez_tsD {X : em_X} {cc : ByteArray} {own : String} {N : Nat} {R : em_Rt} {M : em_M} {mc ms pc : Nat} {lv : List (Nat × Value)} {st : List Value} (hX : ez_ok X cc own) {dflt lo hi : Int} {offs : Array Int} {len : Nat} {x : Int32} (sp : List Int) (tgt : Nat) (hd : decode cc pc = .ok (.tableswitch dflt lo hi offs, len)) (hx : ∀ v ∈ sp, ¬ x.toInt = v) (hall : ((List.range offs.size).all (fun j => decide (offs[j]? = some dflt) || decide ((lo + (j : Int)) ∈ sp)) && decide (hi - lo + 1 = (offs.size : Int))) = true) (ht : (pc : Int) + dflt = (tgt : Int)) (kk : ez_Z X N R M mc ms tgt lv st) : ez_Z X N R M mc ms pc lv (.int x :: st) := by
  simp only [Bool.and_eq_true, decide_eq_true_eq, List.all_eq_true, List.mem_range, Bool.or_eq_true] at hall
  obtain ⟨hall, hsz⟩ := hall
  by_cases h1 : x.toInt < lo ∨ hi < x.toInt
  · exact ez_tsOut hX tgt hd h1 ht kk
  · have h2 : (x.toInt - lo).toNat < offs.size := by omega
    refine ez_tsIn hX x.toInt dflt tgt hd rfl ⟨by omega, by omega, ?_, ht⟩ kk
    rcases hall _ h2 with h | h
    · exact h
    · exact absurd (by omega) (hx _ h)
theorem ez_lsD {X : em_X} {cc : ByteArray} {own : String} {N : Nat} {R : em_Rt} {M : em_M} {mc ms pc : Nat} {lv : List (Nat × Value)} {st : List Value} (hX : ez_ok X cc own) {dflt : Int} {ps : Array (Int × Int)} {len : Nat} {x : Int32} (tgt : Nat) (hd : decode cc pc = .ok (.lookupswitch dflt ps, len)) (hp : (ps.toList.zip (ps.toList.drop 1)).all (fun (a, next) => a.1 < next.1) = true) (hx : ∀ q ∈ ps.toList, ¬ x.toInt = q.1) (ht : (pc : Int) + dflt = (tgt : Int)) (kk : ez_Z X N R M mc ms tgt lv st) : ez_Z X N R M mc ms pc lv (.int x :: st) := by
  refine ez_ls hX dflt tgt hd hp ?_ ht kk
  generalize ps.toList = l at hx
  induction l with
  | nil => rfl
  | cons q r ih =>
    obtain ⟨a, o⟩ := q
    rw [Op.lookupswitch.offset_cons, if_neg (fun h => hx (a, o) List.mem_cons_self h.symm)]
    exact ih (fun q hq => hx q (List.mem_cons_of_mem _ hq))
theorem wy_X0_init : yX0_init.cls ≠ "java/lang/invoke/MethodHandle" ∧ yX0_init.cls ≠ "java/lang/invoke/VarHandle" ∧ (parseMethodDescriptor yX0_init.desc).map (fun d => d.parameters.length) = some 0 := by decide +kernel
theorem wy_X0_clear : yX0_clear.cls ≠ "java/lang/invoke/MethodHandle" ∧ yX0_clear.cls ≠ "java/lang/invoke/VarHandle" ∧ (parseMethodDescriptor yX0_clear.desc).map (fun d => d.parameters.length) = some 0 := by decide +kernel
theorem wy_X0_below : yX0_below.cls ≠ "java/lang/invoke/MethodHandle" ∧ yX0_below.cls ≠ "java/lang/invoke/VarHandle" ∧ (parseMethodDescriptor yX0_below.desc).map (fun d => d.parameters.length) = some 1 := by decide +kernel
theorem wy_X0_height : yX0_height.cls ≠ "java/lang/invoke/MethodHandle" ∧ yX0_height.cls ≠ "java/lang/invoke/VarHandle" ∧ (parseMethodDescriptor yX0_height.desc).map (fun d => d.parameters.length) = some 1 := by decide +kernel
theorem wy_X0_sort : yX0_sort.cls ≠ "java/lang/invoke/MethodHandle" ∧ yX0_sort.cls ≠ "java/lang/invoke/VarHandle" ∧ (parseMethodDescriptor yX0_sort.desc).map (fun d => d.parameters.length) = some 1 := by decide +kernel
theorem wy_X0_behind : yX0_behind.cls ≠ "java/lang/invoke/MethodHandle" ∧ yX0_behind.cls ≠ "java/lang/invoke/VarHandle" ∧ (parseMethodDescriptor yX0_behind.desc).map (fun d => d.parameters.length) = some 1 := by decide +kernel
theorem wy_X0_expression : yX0_expression.cls ≠ "java/lang/invoke/MethodHandle" ∧ yX0_expression.cls ≠ "java/lang/invoke/VarHandle" ∧ (parseMethodDescriptor yX0_expression.desc).map (fun d => d.parameters.length) = some 1 := by decide +kernel
theorem wy_X0_scope : yX0_scope.cls ≠ "java/lang/invoke/MethodHandle" ∧ yX0_scope.cls ≠ "java/lang/invoke/VarHandle" ∧ (parseMethodDescriptor yX0_scope.desc).map (fun d => d.parameters.length) = some 1 := by decide +kernel
theorem wy_X0_escape : yX0_escape.cls ≠ "java/lang/invoke/MethodHandle" ∧ yX0_escape.cls ≠ "java/lang/invoke/VarHandle" ∧ (parseMethodDescriptor yX0_escape.desc).map (fun d => d.parameters.length) = some 1 := by decide +kernel
theorem wy_X0_kept : yX0_kept.cls ≠ "java/lang/invoke/MethodHandle" ∧ yX0_kept.cls ≠ "java/lang/invoke/VarHandle" ∧ (parseMethodDescriptor yX0_kept.desc).map (fun d => d.parameters.length) = some 1 := by decide +kernel
theorem wy_X0_add : yX0_add.cls ≠ "java/lang/invoke/MethodHandle" ∧ yX0_add.cls ≠ "java/lang/invoke/VarHandle" ∧ (parseMethodDescriptor yX0_add.desc).map (fun d => d.parameters.length) = some 5 := by decide +kernel
theorem wy_X0_keep : yX0_keep.cls ≠ "java/lang/invoke/MethodHandle" ∧ yX0_keep.cls ≠ "java/lang/invoke/VarHandle" ∧ (parseMethodDescriptor yX0_keep.desc).map (fun d => d.parameters.length) = some 3 := by decide +kernel
theorem wy_X0_copyFrom : yX0_copyFrom.cls ≠ "java/lang/invoke/MethodHandle" ∧ yX0_copyFrom.cls ≠ "java/lang/invoke/VarHandle" ∧ (parseMethodDescriptor yX0_copyFrom.desc).map (fun d => d.parameters.length) = some 1 := by decide +kernel
theorem wy_X1_init : yX1_init.cls ≠ "java/lang/invoke/MethodHandle" ∧ yX1_init.cls ≠ "java/lang/invoke/VarHandle" ∧ (parseMethodDescriptor yX1_init.desc).map (fun d => d.parameters.length) = some 1 := by decide +kernel
theorem wy_X1_copyFrom : yX1_copyFrom.cls ≠ "java/lang/invoke/MethodHandle" ∧ yX1_copyFrom.cls ≠ "java/lang/invoke/VarHandle" ∧ (parseMethodDescriptor yX1_copyFrom.desc).map (fun d => d.parameters.length) = some 1 := by decide +kernel
theorem wy_X2_init : yX2_init.cls ≠ "java/lang/invoke/MethodHandle" ∧ yX2_init.cls ≠ "java/lang/invoke/VarHandle" ∧ (parseMethodDescriptor yX2_init.desc).map (fun d => d.parameters.length) = some 0 := by decide +kernel
theorem wy_X2_has : yX2_has.cls ≠ "java/lang/invoke/MethodHandle" ∧ yX2_has.cls ≠ "java/lang/invoke/VarHandle" ∧ (parseMethodDescriptor yX2_has.desc).map (fun d => d.parameters.length) = some 1 := by decide +kernel
theorem wy_X2_root : yX2_root.cls ≠ "java/lang/invoke/MethodHandle" ∧ yX2_root.cls ≠ "java/lang/invoke/VarHandle" ∧ (parseMethodDescriptor yX2_root.desc).map (fun d => d.parameters.length) = some 1 := by decide +kernel
theorem wy_X2_fact : yX2_fact.cls ≠ "java/lang/invoke/MethodHandle" ∧ yX2_fact.cls ≠ "java/lang/invoke/VarHandle" ∧ (parseMethodDescriptor yX2_fact.desc).map (fun d => d.parameters.length) = some 2 := by decide +kernel
theorem wy_X2_kind : yX2_kind.cls ≠ "java/lang/invoke/MethodHandle" ∧ yX2_kind.cls ≠ "java/lang/invoke/VarHandle" ∧ (parseMethodDescriptor yX2_kind.desc).map (fun d => d.parameters.length) = some 1 := by decide +kernel
theorem wy_X2_mark : yX2_mark.cls ≠ "java/lang/invoke/MethodHandle" ∧ yX2_mark.cls ≠ "java/lang/invoke/VarHandle" ∧ (parseMethodDescriptor yX2_mark.desc).map (fun d => d.parameters.length) = some 1 := by decide +kernel
theorem wy_X2_part : yX2_part.cls ≠ "java/lang/invoke/MethodHandle" ∧ yX2_part.cls ≠ "java/lang/invoke/VarHandle" ∧ (parseMethodDescriptor yX2_part.desc).map (fun d => d.parameters.length) = some 2 := by decide +kernel
theorem wy_X2_add : yX2_add.cls ≠ "java/lang/invoke/MethodHandle" ∧ yX2_add.cls ≠ "java/lang/invoke/VarHandle" ∧ (parseMethodDescriptor yX2_add.desc).map (fun d => d.parameters.length) = some 2 := by decide +kernel
theorem wy_X2_link : yX2_link.cls ≠ "java/lang/invoke/MethodHandle" ∧ yX2_link.cls ≠ "java/lang/invoke/VarHandle" ∧ (parseMethodDescriptor yX2_link.desc).map (fun d => d.parameters.length) = some 3 := by decide +kernel
theorem wy_X2_end : yX2_end.cls ≠ "java/lang/invoke/MethodHandle" ∧ yX2_end.cls ≠ "java/lang/invoke/VarHandle" ∧ (parseMethodDescriptor yX2_end.desc).map (fun d => d.parameters.length) = some 1 := by decide +kernel
theorem wy_X2_handDown : yX2_handDown.cls ≠ "java/lang/invoke/MethodHandle" ∧ yX2_handDown.cls ≠ "java/lang/invoke/VarHandle" ∧ (parseMethodDescriptor yX2_handDown.desc).map (fun d => d.parameters.length) = some 1 := by decide +kernel
theorem wy_X2_isLast : yX2_isLast.cls ≠ "java/lang/invoke/MethodHandle" ∧ yX2_isLast.cls ≠ "java/lang/invoke/VarHandle" ∧ (parseMethodDescriptor yX2_isLast.desc).map (fun d => d.parameters.length) = some 2 := by decide +kernel
theorem wy_X2_countIn : yX2_countIn.cls ≠ "java/lang/invoke/MethodHandle" ∧ yX2_countIn.cls ≠ "java/lang/invoke/VarHandle" ∧ (parseMethodDescriptor yX2_countIn.desc).map (fun d => d.parameters.length) = some 2 := by decide +kernel
theorem wy_X3_init : yX3_init.cls ≠ "java/lang/invoke/MethodHandle" ∧ yX3_init.cls ≠ "java/lang/invoke/VarHandle" ∧ (parseMethodDescriptor yX3_init.desc).map (fun d => d.parameters.length) = some 2 := by decide +kernel
theorem wy_X3_start : yX3_start.cls ≠ "java/lang/invoke/MethodHandle" ∧ yX3_start.cls ≠ "java/lang/invoke/VarHandle" ∧ (parseMethodDescriptor yX3_start.desc).map (fun d => d.parameters.length) = some 1 := by decide +kernel
theorem wy_X3_move : yX3_move.cls ≠ "java/lang/invoke/MethodHandle" ∧ yX3_move.cls ≠ "java/lang/invoke/VarHandle" ∧ (parseMethodDescriptor yX3_move.desc).map (fun d => d.parameters.length) = some 1 := by decide +kernel
theorem wy_X3_state : yX3_state.cls ≠ "java/lang/invoke/MethodHandle" ∧ yX3_state.cls ≠ "java/lang/invoke/VarHandle" ∧ (parseMethodDescriptor yX3_state.desc).map (fun d => d.parameters.length) = some 1 := by decide +kernel
theorem wy_X3_work : yX3_work.cls ≠ "java/lang/invoke/MethodHandle" ∧ yX3_work.cls ≠ "java/lang/invoke/VarHandle" ∧ (parseMethodDescriptor yX3_work.desc).map (fun d => d.parameters.length) = some 0 := by decide +kernel
theorem wy_X3_workToGo : yX3_workToGo.cls ≠ "java/lang/invoke/MethodHandle" ∧ yX3_workToGo.cls ≠ "java/lang/invoke/VarHandle" ∧ (parseMethodDescriptor yX3_workToGo.desc).map (fun d => d.parameters.length) = some 1 := by decide +kernel
theorem wy_X3_receive : yX3_receive.cls ≠ "java/lang/invoke/MethodHandle" ∧ yX3_receive.cls ≠ "java/lang/invoke/VarHandle" ∧ (parseMethodDescriptor yX3_receive.desc).map (fun d => d.parameters.length) = some 0 := by decide +kernel
theorem wy_X3_receiveOp : yX3_receiveOp.cls ≠ "java/lang/invoke/MethodHandle" ∧ yX3_receiveOp.cls ≠ "java/lang/invoke/VarHandle" ∧ (parseMethodDescriptor yX3_receiveOp.desc).map (fun d => d.parameters.length) = some 1 := by decide +kernel
theorem wy_X3_made : yX3_made.cls ≠ "java/lang/invoke/MethodHandle" ∧ yX3_made.cls ≠ "java/lang/invoke/VarHandle" ∧ (parseMethodDescriptor yX3_made.desc).map (fun d => d.parameters.length) = some 3 := by decide +kernel
theorem wy_X3_receiveWind : yX3_receiveWind.cls ≠ "java/lang/invoke/MethodHandle" ∧ yX3_receiveWind.cls ≠ "java/lang/invoke/VarHandle" ∧ (parseMethodDescriptor yX3_receiveWind.desc).map (fun d => d.parameters.length) = some 1 := by decide +kernel
theorem wy_X3_call : yX3_call.cls ≠ "java/lang/invoke/MethodHandle" ∧ yX3_call.cls ≠ "java/lang/invoke/VarHandle" ∧ (parseMethodDescriptor yX3_call.desc).map (fun d => d.parameters.length) = some 1 := by decide +kernel
theorem wy_X3_go : yX3_go.cls ≠ "java/lang/invoke/MethodHandle" ∧ yX3_go.cls ≠ "java/lang/invoke/VarHandle" ∧ (parseMethodDescriptor yX3_go.desc).map (fun d => d.parameters.length) = some 2 := by decide +kernel
theorem wy_X3_give : yX3_give.cls ≠ "java/lang/invoke/MethodHandle" ∧ yX3_give.cls ≠ "java/lang/invoke/VarHandle" ∧ (parseMethodDescriptor yX3_give.desc).map (fun d => d.parameters.length) = some 1 := by decide +kernel
theorem wy_X3_workOn : yX3_workOn.cls ≠ "java/lang/invoke/MethodHandle" ∧ yX3_workOn.cls ≠ "java/lang/invoke/VarHandle" ∧ (parseMethodDescriptor yX3_workOn.desc).map (fun d => d.parameters.length) = some 1 := by decide +kernel
theorem wy_X3_lookUp : yX3_lookUp.cls ≠ "java/lang/invoke/MethodHandle" ∧ yX3_lookUp.cls ≠ "java/lang/invoke/VarHandle" ∧ (parseMethodDescriptor yX3_lookUp.desc).map (fun d => d.parameters.length) = some 1 := by decide +kernel
theorem wy_X3_caught : yX3_caught.cls ≠ "java/lang/invoke/MethodHandle" ∧ yX3_caught.cls ≠ "java/lang/invoke/VarHandle" ∧ (parseMethodDescriptor yX3_caught.desc).map (fun d => d.parameters.length) = some 0 := by decide +kernel
theorem wy_X3_comes : yX3_comes.cls ≠ "java/lang/invoke/MethodHandle" ∧ yX3_comes.cls ≠ "java/lang/invoke/VarHandle" ∧ (parseMethodDescriptor yX3_comes.desc).map (fun d => d.parameters.length) = some 2 := by decide +kernel
theorem wy_X3_copyFrom : yX3_copyFrom.cls ≠ "java/lang/invoke/MethodHandle" ∧ yX3_copyFrom.cls ≠ "java/lang/invoke/VarHandle" ∧ (parseMethodDescriptor yX3_copyFrom.desc).map (fun d => d.parameters.length) = some 1 := by decide +kernel
theorem wy_X4_init : yX4_init.cls ≠ "java/lang/invoke/MethodHandle" ∧ yX4_init.cls ≠ "java/lang/invoke/VarHandle" ∧ (parseMethodDescriptor yX4_init.desc).map (fun d => d.parameters.length) = some 0 := by decide +kernel
theorem wy_X4_clear : yX4_clear.cls ≠ "java/lang/invoke/MethodHandle" ∧ yX4_clear.cls ≠ "java/lang/invoke/VarHandle" ∧ (parseMethodDescriptor yX4_clear.desc).map (fun d => d.parameters.length) = some 0 := by decide +kernel
theorem wy_X4_over : yX4_over.cls ≠ "java/lang/invoke/MethodHandle" ∧ yX4_over.cls ≠ "java/lang/invoke/VarHandle" ∧ (parseMethodDescriptor yX4_over.desc).map (fun d => d.parameters.length) = some 1 := by decide +kernel
theorem wy_X4_write : yX4_write.cls ≠ "java/lang/invoke/MethodHandle" ∧ yX4_write.cls ≠ "java/lang/invoke/VarHandle" ∧ (parseMethodDescriptor yX4_write.desc).map (fun d => d.parameters.length) = some 1 := by decide +kernel
theorem wy_X4_answer : yX4_answer.cls ≠ "java/lang/invoke/MethodHandle" ∧ yX4_answer.cls ≠ "java/lang/invoke/VarHandle" ∧ (parseMethodDescriptor yX4_answer.desc).map (fun d => d.parameters.length) = some 1 := by decide +kernel
theorem wy_X4_shows : yX4_shows.cls ≠ "java/lang/invoke/MethodHandle" ∧ yX4_shows.cls ≠ "java/lang/invoke/VarHandle" ∧ (parseMethodDescriptor yX4_shows.desc).map (fun d => d.parameters.length) = some 1 := by decide +kernel
theorem wy_X4_sameAs : yX4_sameAs.cls ≠ "java/lang/invoke/MethodHandle" ∧ yX4_sameAs.cls ≠ "java/lang/invoke/VarHandle" ∧ (parseMethodDescriptor yX4_sameAs.desc).map (fun d => d.parameters.length) = some 1 := by decide +kernel
theorem wy_X4_sum : yX4_sum.cls ≠ "java/lang/invoke/MethodHandle" ∧ yX4_sum.cls ≠ "java/lang/invoke/VarHandle" ∧ (parseMethodDescriptor yX4_sum.desc).map (fun d => d.parameters.length) = some 0 := by decide +kernel
theorem wy_X4_copyFrom : yX4_copyFrom.cls ≠ "java/lang/invoke/MethodHandle" ∧ yX4_copyFrom.cls ≠ "java/lang/invoke/VarHandle" ∧ (parseMethodDescriptor yX4_copyFrom.desc).map (fun d => d.parameters.length) = some 1 := by decide +kernel
theorem wy_X5_init : yX5_init.cls ≠ "java/lang/invoke/MethodHandle" ∧ yX5_init.cls ≠ "java/lang/invoke/VarHandle" ∧ (parseMethodDescriptor yX5_init.desc).map (fun d => d.parameters.length) = some 1 := by decide +kernel
theorem wy_X5_append : yX5_append.cls ≠ "java/lang/invoke/MethodHandle" ∧ yX5_append.cls ≠ "java/lang/invoke/VarHandle" ∧ (parseMethodDescriptor yX5_append.desc).map (fun d => d.parameters.length) = some 1 := by decide +kernel
theorem wy_X5_take : yX5_take.cls ≠ "java/lang/invoke/MethodHandle" ∧ yX5_take.cls ≠ "java/lang/invoke/VarHandle" ∧ (parseMethodDescriptor yX5_take.desc).map (fun d => d.parameters.length) = some 0 := by decide +kernel
theorem wy_X5_sign : yX5_sign.cls ≠ "java/lang/invoke/MethodHandle" ∧ yX5_sign.cls ≠ "java/lang/invoke/VarHandle" ∧ (parseMethodDescriptor yX5_sign.desc).map (fun d => d.parameters.length) = some 0 := by decide +kernel
theorem wy_X5_passed : yX5_passed.cls ≠ "java/lang/invoke/MethodHandle" ∧ yX5_passed.cls ≠ "java/lang/invoke/VarHandle" ∧ (parseMethodDescriptor yX5_passed.desc).map (fun d => d.parameters.length) = some 1 := by decide +kernel
theorem wy_X5_expression : yX5_expression.cls ≠ "java/lang/invoke/MethodHandle" ∧ yX5_expression.cls ≠ "java/lang/invoke/VarHandle" ∧ (parseMethodDescriptor yX5_expression.desc).map (fun d => d.parameters.length) = some 1 := by decide +kernel
theorem wy_X5_digits : yX5_digits.cls ≠ "java/lang/invoke/MethodHandle" ∧ yX5_digits.cls ≠ "java/lang/invoke/VarHandle" ∧ (parseMethodDescriptor yX5_digits.desc).map (fun d => d.parameters.length) = some 0 := by decide +kernel
theorem wy_X5_parts : yX5_parts.cls ≠ "java/lang/invoke/MethodHandle" ∧ yX5_parts.cls ≠ "java/lang/invoke/VarHandle" ∧ (parseMethodDescriptor yX5_parts.desc).map (fun d => d.parameters.length) = some 3 := by decide +kernel
theorem wy_X5_list : yX5_list.cls ≠ "java/lang/invoke/MethodHandle" ∧ yX5_list.cls ≠ "java/lang/invoke/VarHandle" ∧ (parseMethodDescriptor yX5_list.desc).map (fun d => d.parameters.length) = some 1 := by decide +kernel
theorem wy_X5_isDigit : yX5_isDigit.cls ≠ "java/lang/invoke/MethodHandle" ∧ yX5_isDigit.cls ≠ "java/lang/invoke/VarHandle" ∧ (parseMethodDescriptor yX5_isDigit.desc).map (fun d => d.parameters.length) = some 1 := by decide +kernel
theorem wy_X5_isLetter : yX5_isLetter.cls ≠ "java/lang/invoke/MethodHandle" ∧ yX5_isLetter.cls ≠ "java/lang/invoke/VarHandle" ∧ (parseMethodDescriptor yX5_isLetter.desc).map (fun d => d.parameters.length) = some 1 := by decide +kernel
theorem wy_X5_kindBy : yX5_kindBy.cls ≠ "java/lang/invoke/MethodHandle" ∧ yX5_kindBy.cls ≠ "java/lang/invoke/VarHandle" ∧ (parseMethodDescriptor yX5_kindBy.desc).map (fun d => d.parameters.length) = some 1 := by decide +kernel
theorem wy_X5_howMany : yX5_howMany.cls ≠ "java/lang/invoke/MethodHandle" ∧ yX5_howMany.cls ≠ "java/lang/invoke/VarHandle" ∧ (parseMethodDescriptor yX5_howMany.desc).map (fun d => d.parameters.length) = some 1 := by decide +kernel
theorem wy_X6_init : yX6_init.cls ≠ "java/lang/invoke/MethodHandle" ∧ yX6_init.cls ≠ "java/lang/invoke/VarHandle" ∧ (parseMethodDescriptor yX6_init.desc).map (fun d => d.parameters.length) = some 1 := by decide +kernel
theorem wy_X6_empty : yX6_empty.cls ≠ "java/lang/invoke/MethodHandle" ∧ yX6_empty.cls ≠ "java/lang/invoke/VarHandle" ∧ (parseMethodDescriptor yX6_empty.desc).map (fun d => d.parameters.length) = some 0 := by decide +kernel
theorem wy_X6_add : yX6_add.cls ≠ "java/lang/invoke/MethodHandle" ∧ yX6_add.cls ≠ "java/lang/invoke/VarHandle" ∧ (parseMethodDescriptor yX6_add.desc).map (fun d => d.parameters.length) = some 2 := by decide +kernel
theorem wy_X6_copyFrom : yX6_copyFrom.cls ≠ "java/lang/invoke/MethodHandle" ∧ yX6_copyFrom.cls ≠ "java/lang/invoke/VarHandle" ∧ (parseMethodDescriptor yX6_copyFrom.desc).map (fun d => d.parameters.length) = some 1 := by decide +kernel
theorem wy_X7_init : yX7_init.cls ≠ "java/lang/invoke/MethodHandle" ∧ yX7_init.cls ≠ "java/lang/invoke/VarHandle" ∧ (parseMethodDescriptor yX7_init.desc).map (fun d => d.parameters.length) = some 0 := by decide +kernel
theorem wy_X7_clear : yX7_clear.cls ≠ "java/lang/invoke/MethodHandle" ∧ yX7_clear.cls ≠ "java/lang/invoke/VarHandle" ∧ (parseMethodDescriptor yX7_clear.desc).map (fun d => d.parameters.length) = some 0 := by decide +kernel
theorem wy_X7_thing : yX7_thing.cls ≠ "java/lang/invoke/MethodHandle" ∧ yX7_thing.cls ≠ "java/lang/invoke/VarHandle" ∧ (parseMethodDescriptor yX7_thing.desc).map (fun d => d.parameters.length) = some 2 := by decide +kernel
theorem wy_X7_bind : yX7_bind.cls ≠ "java/lang/invoke/MethodHandle" ∧ yX7_bind.cls ≠ "java/lang/invoke/VarHandle" ∧ (parseMethodDescriptor yX7_bind.desc).map (fun d => d.parameters.length) = some 3 := by decide +kernel
theorem wy_X7_copyFrom : yX7_copyFrom.cls ≠ "java/lang/invoke/MethodHandle" ∧ yX7_copyFrom.cls ≠ "java/lang/invoke/VarHandle" ∧ (parseMethodDescriptor yX7_copyFrom.desc).map (fun d => d.parameters.length) = some 1 := by decide +kernel
theorem wy_X8_init : yX8_init.cls ≠ "java/lang/invoke/MethodHandle" ∧ yX8_init.cls ≠ "java/lang/invoke/VarHandle" ∧ (parseMethodDescriptor yX8_init.desc).map (fun d => d.parameters.length) = some 0 := by decide +kernel
theorem wy_X8_has : yX8_has.cls ≠ "java/lang/invoke/MethodHandle" ∧ yX8_has.cls ≠ "java/lang/invoke/VarHandle" ∧ (parseMethodDescriptor yX8_has.desc).map (fun d => d.parameters.length) = some 1 := by decide +kernel
theorem wy_X8_become : yX8_become.cls ≠ "java/lang/invoke/MethodHandle" ∧ yX8_become.cls ≠ "java/lang/invoke/VarHandle" ∧ (parseMethodDescriptor yX8_become.desc).map (fun d => d.parameters.length) = some 2 := by decide +kernel
theorem wy_X8_lowestBits : yX8_lowestBits.cls ≠ "java/lang/invoke/MethodHandle" ∧ yX8_lowestBits.cls ≠ "java/lang/invoke/VarHandle" ∧ (parseMethodDescriptor yX8_lowestBits.desc).map (fun d => d.parameters.length) = some 1 := by decide +kernel
theorem wy_X9_init : yX9_init.cls ≠ "java/lang/invoke/MethodHandle" ∧ yX9_init.cls ≠ "java/lang/invoke/VarHandle" ∧ (parseMethodDescriptor yX9_init.desc).map (fun d => d.parameters.length) = some 0 := by decide +kernel
theorem wy_X9_clear : yX9_clear.cls ≠ "java/lang/invoke/MethodHandle" ∧ yX9_clear.cls ≠ "java/lang/invoke/VarHandle" ∧ (parseMethodDescriptor yX9_clear.desc).map (fun d => d.parameters.length) = some 0 := by decide +kernel
theorem wy_X9_below : yX9_below.cls ≠ "java/lang/invoke/MethodHandle" ∧ yX9_below.cls ≠ "java/lang/invoke/VarHandle" ∧ (parseMethodDescriptor yX9_below.desc).map (fun d => d.parameters.length) = some 1 := by decide +kernel
theorem wy_X9_height : yX9_height.cls ≠ "java/lang/invoke/MethodHandle" ∧ yX9_height.cls ≠ "java/lang/invoke/VarHandle" ∧ (parseMethodDescriptor yX9_height.desc).map (fun d => d.parameters.length) = some 1 := by decide +kernel
theorem wy_X9_expression : yX9_expression.cls ≠ "java/lang/invoke/MethodHandle" ∧ yX9_expression.cls ≠ "java/lang/invoke/VarHandle" ∧ (parseMethodDescriptor yX9_expression.desc).map (fun d => d.parameters.length) = some 1 := by decide +kernel
theorem wy_X9_scope : yX9_scope.cls ≠ "java/lang/invoke/MethodHandle" ∧ yX9_scope.cls ≠ "java/lang/invoke/VarHandle" ∧ (parseMethodDescriptor yX9_scope.desc).map (fun d => d.parameters.length) = some 1 := by decide +kernel
theorem wy_X9_add : yX9_add.cls ≠ "java/lang/invoke/MethodHandle" ∧ yX9_add.cls ≠ "java/lang/invoke/VarHandle" ∧ (parseMethodDescriptor yX9_add.desc).map (fun d => d.parameters.length) = some 3 := by decide +kernel
theorem wy_X9_next : yX9_next.cls ≠ "java/lang/invoke/MethodHandle" ∧ yX9_next.cls ≠ "java/lang/invoke/VarHandle" ∧ (parseMethodDescriptor yX9_next.desc).map (fun d => d.parameters.length) = some 2 := by decide +kernel
theorem wy_X9_copyFrom : yX9_copyFrom.cls ≠ "java/lang/invoke/MethodHandle" ∧ yX9_copyFrom.cls ≠ "java/lang/invoke/VarHandle" ∧ (parseMethodDescriptor yX9_copyFrom.desc).map (fun d => d.parameters.length) = some 1 := by decide +kernel
theorem wy_X10_init : yX10_init.cls ≠ "java/lang/invoke/MethodHandle" ∧ yX10_init.cls ≠ "java/lang/invoke/VarHandle" ∧ (parseMethodDescriptor yX10_init.desc).map (fun d => d.parameters.length) = some 0 := by decide +kernel
theorem wy_X10_copyFrom : yX10_copyFrom.cls ≠ "java/lang/invoke/MethodHandle" ∧ yX10_copyFrom.cls ≠ "java/lang/invoke/VarHandle" ∧ (parseMethodDescriptor yX10_copyFrom.desc).map (fun d => d.parameters.length) = some 1 := by decide +kernel
theorem wy_X11_init : yX11_init.cls ≠ "java/lang/invoke/MethodHandle" ∧ yX11_init.cls ≠ "java/lang/invoke/VarHandle" ∧ (parseMethodDescriptor yX11_init.desc).map (fun d => d.parameters.length) = some 0 := by decide +kernel
theorem wy_X11_feed : yX11_feed.cls ≠ "java/lang/invoke/MethodHandle" ∧ yX11_feed.cls ≠ "java/lang/invoke/VarHandle" ∧ (parseMethodDescriptor yX11_feed.desc).map (fun d => d.parameters.length) = some 1 := by decide +kernel
theorem wy_X11_line : yX11_line.cls ≠ "java/lang/invoke/MethodHandle" ∧ yX11_line.cls ≠ "java/lang/invoke/VarHandle" ∧ (parseMethodDescriptor yX11_line.desc).map (fun d => d.parameters.length) = some 0 := by decide +kernel
theorem wy_X11_of : yX11_of.cls ≠ "java/lang/invoke/MethodHandle" ∧ yX11_of.cls ≠ "java/lang/invoke/VarHandle" ∧ (parseMethodDescriptor yX11_of.desc).map (fun d => d.parameters.length) = some 2 := by decide +kernel
theorem wy_X11_define : yX11_define.cls ≠ "java/lang/invoke/MethodHandle" ∧ yX11_define.cls ≠ "java/lang/invoke/VarHandle" ∧ (parseMethodDescriptor yX11_define.desc).map (fun d => d.parameters.length) = some 2 := by decide +kernel
theorem wy_X11_value : yX11_value.cls ≠ "java/lang/invoke/MethodHandle" ∧ yX11_value.cls ≠ "java/lang/invoke/VarHandle" ∧ (parseMethodDescriptor yX11_value.desc).map (fun d => d.parameters.length) = some 2 := by decide +kernel
theorem wy_X11_begin : yX11_begin.cls ≠ "java/lang/invoke/MethodHandle" ∧ yX11_begin.cls ≠ "java/lang/invoke/VarHandle" ∧ (parseMethodDescriptor yX11_begin.desc).map (fun d => d.parameters.length) = some 1 := by decide +kernel
theorem wy_X11_step : yX11_step.cls ≠ "java/lang/invoke/MethodHandle" ∧ yX11_step.cls ≠ "java/lang/invoke/VarHandle" ∧ (parseMethodDescriptor yX11_step.desc).map (fun d => d.parameters.length) = some 1 := by decide +kernel
theorem wy_X11_run : yX11_run.cls ≠ "java/lang/invoke/MethodHandle" ∧ yX11_run.cls ≠ "java/lang/invoke/VarHandle" ∧ (parseMethodDescriptor yX11_run.desc).map (fun d => d.parameters.length) = some 1 := by decide +kernel
theorem wy_X11_told : yX11_told.cls ≠ "java/lang/invoke/MethodHandle" ∧ yX11_told.cls ≠ "java/lang/invoke/VarHandle" ∧ (parseMethodDescriptor yX11_told.desc).map (fun d => d.parameters.length) = some 1 := by decide +kernel
theorem wy_X11_on : yX11_on.cls ≠ "java/lang/invoke/MethodHandle" ∧ yX11_on.cls ≠ "java/lang/invoke/VarHandle" ∧ (parseMethodDescriptor yX11_on.desc).map (fun d => d.parameters.length) = some 2 := by decide +kernel
theorem wy_X11_see : yX11_see.cls ≠ "java/lang/invoke/MethodHandle" ∧ yX11_see.cls ≠ "java/lang/invoke/VarHandle" ∧ (parseMethodDescriptor yX11_see.desc).map (fun d => d.parameters.length) = some 2 := by decide +kernel
theorem wy_X11_fits : yX11_fits.cls ≠ "java/lang/invoke/MethodHandle" ∧ yX11_fits.cls ≠ "java/lang/invoke/VarHandle" ∧ (parseMethodDescriptor yX11_fits.desc).map (fun d => d.parameters.length) = some 3 := by decide +kernel
theorem wy_X11_alike : yX11_alike.cls ≠ "java/lang/invoke/MethodHandle" ∧ yX11_alike.cls ≠ "java/lang/invoke/VarHandle" ∧ (parseMethodDescriptor yX11_alike.desc).map (fun d => d.parameters.length) = some 2 := by decide +kernel
theorem wy_X11_odds : yX11_odds.cls ≠ "java/lang/invoke/MethodHandle" ∧ yX11_odds.cls ≠ "java/lang/invoke/VarHandle" ∧ (parseMethodDescriptor yX11_odds.desc).map (fun d => d.parameters.length) = some 3 := by decide +kernel
theorem wy_X11_mean : yX11_mean.cls ≠ "java/lang/invoke/MethodHandle" ∧ yX11_mean.cls ≠ "java/lang/invoke/VarHandle" ∧ (parseMethodDescriptor yX11_mean.desc).map (fun d => d.parameters.length) = some 2 := by decide +kernel
theorem wy_X11_tryOut : yX11_tryOut.cls ≠ "java/lang/invoke/MethodHandle" ∧ yX11_tryOut.cls ≠ "java/lang/invoke/VarHandle" ∧ (parseMethodDescriptor yX11_tryOut.desc).map (fun d => d.parameters.length) = some 1 := by decide +kernel
theorem wy_X11_tryWith : yX11_tryWith.cls ≠ "java/lang/invoke/MethodHandle" ∧ yX11_tryWith.cls ≠ "java/lang/invoke/VarHandle" ∧ (parseMethodDescriptor yX11_tryWith.desc).map (fun d => d.parameters.length) = some 3 := by decide +kernel
theorem wy_X11_inLowestTerms : yX11_inLowestTerms.cls ≠ "java/lang/invoke/MethodHandle" ∧ yX11_inLowestTerms.cls ≠ "java/lang/invoke/VarHandle" ∧ (parseMethodDescriptor yX11_inLowestTerms.desc).map (fun d => d.parameters.length) = some 3 := by decide +kernel
theorem wy_X11_plan : yX11_plan.cls ≠ "java/lang/invoke/MethodHandle" ∧ yX11_plan.cls ≠ "java/lang/invoke/VarHandle" ∧ (parseMethodDescriptor yX11_plan.desc).map (fun d => d.parameters.length) = some 2 := by decide +kernel
theorem wy_X11_ends : yX11_ends.cls ≠ "java/lang/invoke/MethodHandle" ∧ yX11_ends.cls ≠ "java/lang/invoke/VarHandle" ∧ (parseMethodDescriptor yX11_ends.desc).map (fun d => d.parameters.length) = some 1 := by decide +kernel
theorem wy_X11_book : yX11_book.cls ≠ "java/lang/invoke/MethodHandle" ∧ yX11_book.cls ≠ "java/lang/invoke/VarHandle" ∧ (parseMethodDescriptor yX11_book.desc).map (fun d => d.parameters.length) = some 2 := by decide +kernel
theorem wy_X11_looked : yX11_looked.cls ≠ "java/lang/invoke/MethodHandle" ∧ yX11_looked.cls ≠ "java/lang/invoke/VarHandle" ∧ (parseMethodDescriptor yX11_looked.desc).map (fun d => d.parameters.length) = some 0 := by decide +kernel
theorem wy_X11_judge : yX11_judge.cls ≠ "java/lang/invoke/MethodHandle" ∧ yX11_judge.cls ≠ "java/lang/invoke/VarHandle" ∧ (parseMethodDescriptor yX11_judge.desc).map (fun d => d.parameters.length) = some 2 := by decide +kernel
theorem wy_X11_image : yX11_image.cls ≠ "java/lang/invoke/MethodHandle" ∧ yX11_image.cls ≠ "java/lang/invoke/VarHandle" ∧ (parseMethodDescriptor yX11_image.desc).map (fun d => d.parameters.length) = some 0 := by decide +kernel
theorem wy_X11_undo : yX11_undo.cls ≠ "java/lang/invoke/MethodHandle" ∧ yX11_undo.cls ≠ "java/lang/invoke/VarHandle" ∧ (parseMethodDescriptor yX11_undo.desc).map (fun d => d.parameters.length) = some 0 := by decide +kernel
theorem wy_X11_count : yX11_count.cls ≠ "java/lang/invoke/MethodHandle" ∧ yX11_count.cls ≠ "java/lang/invoke/VarHandle" ∧ (parseMethodDescriptor yX11_count.desc).map (fun d => d.parameters.length) = some 1 := by decide +kernel
theorem wy_X11_tape : yX11_tape.cls ≠ "java/lang/invoke/MethodHandle" ∧ yX11_tape.cls ≠ "java/lang/invoke/VarHandle" ∧ (parseMethodDescriptor yX11_tape.desc).map (fun d => d.parameters.length) = some 3 := by decide +kernel
theorem wy_X11_item : yX11_item.cls ≠ "java/lang/invoke/MethodHandle" ∧ yX11_item.cls ≠ "java/lang/invoke/VarHandle" ∧ (parseMethodDescriptor yX11_item.desc).map (fun d => d.parameters.length) = some 3 := by decide +kernel
theorem wy_X11_read : yX11_read.cls ≠ "java/lang/invoke/MethodHandle" ∧ yX11_read.cls ≠ "java/lang/invoke/VarHandle" ∧ (parseMethodDescriptor yX11_read.desc).map (fun d => d.parameters.length) = some 2 := by decide +kernel
theorem wy_X11_shift : yX11_shift.cls ≠ "java/lang/invoke/MethodHandle" ∧ yX11_shift.cls ≠ "java/lang/invoke/VarHandle" ∧ (parseMethodDescriptor yX11_shift.desc).map (fun d => d.parameters.length) = some 5 := by decide +kernel
theorem wy_X11_tapeOf : yX11_tapeOf.cls ≠ "java/lang/invoke/MethodHandle" ∧ yX11_tapeOf.cls ≠ "java/lang/invoke/VarHandle" ∧ (parseMethodDescriptor yX11_tapeOf.desc).map (fun d => d.parameters.length) = some 1 := by decide +kernel
theorem wy_X11_isName : yX11_isName.cls ≠ "java/lang/invoke/MethodHandle" ∧ yX11_isName.cls ≠ "java/lang/invoke/VarHandle" ∧ (parseMethodDescriptor yX11_isName.desc).map (fun d => d.parameters.length) = some 1 := by decide +kernel
theorem wy_X11_isFunction : yX11_isFunction.cls ≠ "java/lang/invoke/MethodHandle" ∧ yX11_isFunction.cls ≠ "java/lang/invoke/VarHandle" ∧ (parseMethodDescriptor yX11_isFunction.desc).map (fun d => d.parameters.length) = some 1 := by decide +kernel
theorem wy_X11_isNumber : yX11_isNumber.cls ≠ "java/lang/invoke/MethodHandle" ∧ yX11_isNumber.cls ≠ "java/lang/invoke/VarHandle" ∧ (parseMethodDescriptor yX11_isNumber.desc).map (fun d => d.parameters.length) = some 1 := by decide +kernel
theorem wy_X11_at : yX11_at.cls ≠ "java/lang/invoke/MethodHandle" ∧ yX11_at.cls ≠ "java/lang/invoke/VarHandle" ∧ (parseMethodDescriptor yX11_at.desc).map (fun d => d.parameters.length) = some 2 := by decide +kernel
theorem wy_X11_at_ : yX11_at_.cls ≠ "java/lang/invoke/MethodHandle" ∧ yX11_at_.cls ≠ "java/lang/invoke/VarHandle" ∧ (parseMethodDescriptor yX11_at_.desc).map (fun d => d.parameters.length) = some 2 := by decide +kernel
theorem wy_X11_put : yX11_put.cls ≠ "java/lang/invoke/MethodHandle" ∧ yX11_put.cls ≠ "java/lang/invoke/VarHandle" ∧ (parseMethodDescriptor yX11_put.desc).map (fun d => d.parameters.length) = some 3 := by decide +kernel
theorem wy_X11_put_ : yX11_put_.cls ≠ "java/lang/invoke/MethodHandle" ∧ yX11_put_.cls ≠ "java/lang/invoke/VarHandle" ∧ (parseMethodDescriptor yX11_put_.desc).map (fun d => d.parameters.length) = some 3 := by decide +kernel
theorem wy_X11_copyRow : yX11_copyRow.cls ≠ "java/lang/invoke/MethodHandle" ∧ yX11_copyRow.cls ≠ "java/lang/invoke/VarHandle" ∧ (parseMethodDescriptor yX11_copyRow.desc).map (fun d => d.parameters.length) = some 2 := by decide +kernel
theorem wy_X11_copyRow_ : yX11_copyRow_.cls ≠ "java/lang/invoke/MethodHandle" ∧ yX11_copyRow_.cls ≠ "java/lang/invoke/VarHandle" ∧ (parseMethodDescriptor yX11_copyRow_.desc).map (fun d => d.parameters.length) = some 2 := by decide +kernel
theorem wy_X12_init : yX12_init.cls ≠ "java/lang/invoke/MethodHandle" ∧ yX12_init.cls ≠ "java/lang/invoke/VarHandle" ∧ (parseMethodDescriptor yX12_init.desc).map (fun d => d.parameters.length) = some 0 := by decide +kernel
theorem wy_X12_in : yX12_in.cls ≠ "java/lang/invoke/MethodHandle" ∧ yX12_in.cls ≠ "java/lang/invoke/VarHandle" ∧ (parseMethodDescriptor yX12_in.desc).map (fun d => d.parameters.length) = some 3 := by decide +kernel
theorem wy_X12_copies : yX12_copies.cls ≠ "java/lang/invoke/MethodHandle" ∧ yX12_copies.cls ≠ "java/lang/invoke/VarHandle" ∧ (parseMethodDescriptor yX12_copies.desc).map (fun d => d.parameters.length) = some 2 := by decide +kernel
theorem wy_X12_feed : yX12_feed.cls ≠ "java/lang/invoke/MethodHandle" ∧ yX12_feed.cls ≠ "java/lang/invoke/VarHandle" ∧ (parseMethodDescriptor yX12_feed.desc).map (fun d => d.parameters.length) = some 1 := by decide +kernel
theorem wy_X12_byteAt : yX12_byteAt.cls ≠ "java/lang/invoke/MethodHandle" ∧ yX12_byteAt.cls ≠ "java/lang/invoke/VarHandle" ∧ (parseMethodDescriptor yX12_byteAt.desc).map (fun d => d.parameters.length) = some 1 := by decide +kernel
theorem wy_X12_stops : yX12_stops.cls ≠ "java/lang/invoke/MethodHandle" ∧ yX12_stops.cls ≠ "java/lang/invoke/VarHandle" ∧ (parseMethodDescriptor yX12_stops.desc).map (fun d => d.parameters.length) = some 0 := by decide +kernel
theorem wy_X12_is : yX12_is.cls ≠ "java/lang/invoke/MethodHandle" ∧ yX12_is.cls ≠ "java/lang/invoke/VarHandle" ∧ (parseMethodDescriptor yX12_is.desc).map (fun d => d.parameters.length) = some 1 := by decide +kernel
theorem wy_X12_partsOf : yX12_partsOf.cls ≠ "java/lang/invoke/MethodHandle" ∧ yX12_partsOf.cls ≠ "java/lang/invoke/VarHandle" ∧ (parseMethodDescriptor yX12_partsOf.desc).map (fun d => d.parameters.length) = some 1 := by decide +kernel
theorem wy_X12_hasName : yX12_hasName.cls ≠ "java/lang/invoke/MethodHandle" ∧ yX12_hasName.cls ≠ "java/lang/invoke/VarHandle" ∧ (parseMethodDescriptor yX12_hasName.desc).map (fun d => d.parameters.length) = some 1 := by decide +kernel
theorem wy_X12_expression : yX12_expression.cls ≠ "java/lang/invoke/MethodHandle" ∧ yX12_expression.cls ≠ "java/lang/invoke/VarHandle" ∧ (parseMethodDescriptor yX12_expression.desc).map (fun d => d.parameters.length) = some 1 := by decide +kernel
theorem wy_X12_part : yX12_part.cls ≠ "java/lang/invoke/MethodHandle" ∧ yX12_part.cls ≠ "java/lang/invoke/VarHandle" ∧ (parseMethodDescriptor yX12_part.desc).map (fun d => d.parameters.length) = some 2 := by decide +kernel
theorem wy_X12_list : yX12_list.cls ≠ "java/lang/invoke/MethodHandle" ∧ yX12_list.cls ≠ "java/lang/invoke/VarHandle" ∧ (parseMethodDescriptor yX12_list.desc).map (fun d => d.parameters.length) = some 2 := by decide +kernel
theorem wy_X12_line : yX12_line.cls ≠ "java/lang/invoke/MethodHandle" ∧ yX12_line.cls ≠ "java/lang/invoke/VarHandle" ∧ (parseMethodDescriptor yX12_line.desc).map (fun d => d.parameters.length) = some 0 := by decide +kernel
theorem wy_X12_isLine : yX12_isLine.cls ≠ "java/lang/invoke/MethodHandle" ∧ yX12_isLine.cls ≠ "java/lang/invoke/VarHandle" ∧ (parseMethodDescriptor yX12_isLine.desc).map (fun d => d.parameters.length) = some 1 := by decide +kernel
theorem wy_X12_deepest : yX12_deepest.cls ≠ "java/lang/invoke/MethodHandle" ∧ yX12_deepest.cls ≠ "java/lang/invoke/VarHandle" ∧ (parseMethodDescriptor yX12_deepest.desc).map (fun d => d.parameters.length) = some 1 := by decide +kernel
theorem wy_X12_isCall : yX12_isCall.cls ≠ "java/lang/invoke/MethodHandle" ∧ yX12_isCall.cls ≠ "java/lang/invoke/VarHandle" ∧ (parseMethodDescriptor yX12_isCall.desc).map (fun d => d.parameters.length) = some 1 := by decide +kernel
theorem wy_X12_lastCalls : yX12_lastCalls.cls ≠ "java/lang/invoke/MethodHandle" ∧ yX12_lastCalls.cls ≠ "java/lang/invoke/VarHandle" ∧ (parseMethodDescriptor yX12_lastCalls.desc).map (fun d => d.parameters.length) = some 1 := by decide +kernel
theorem wy_X12_of : yX12_of.cls ≠ "java/lang/invoke/MethodHandle" ∧ yX12_of.cls ≠ "java/lang/invoke/VarHandle" ∧ (parseMethodDescriptor yX12_of.desc).map (fun d => d.parameters.length) = some 2 := by decide +kernel
theorem wy_X12_define : yX12_define.cls ≠ "java/lang/invoke/MethodHandle" ∧ yX12_define.cls ≠ "java/lang/invoke/VarHandle" ∧ (parseMethodDescriptor yX12_define.desc).map (fun d => d.parameters.length) = some 2 := by decide +kernel
theorem wy_X12_isName : yX12_isName.cls ≠ "java/lang/invoke/MethodHandle" ∧ yX12_isName.cls ≠ "java/lang/invoke/VarHandle" ∧ (parseMethodDescriptor yX12_isName.desc).map (fun d => d.parameters.length) = some 1 := by decide +kernel
theorem wy_X12_value : yX12_value.cls ≠ "java/lang/invoke/MethodHandle" ∧ yX12_value.cls ≠ "java/lang/invoke/VarHandle" ∧ (parseMethodDescriptor yX12_value.desc).map (fun d => d.parameters.length) = some 2 := by decide +kernel
theorem wy_X12_frames : yX12_frames.cls ≠ "java/lang/invoke/MethodHandle" ∧ yX12_frames.cls ≠ "java/lang/invoke/VarHandle" ∧ (parseMethodDescriptor yX12_frames.desc).map (fun d => d.parameters.length) = some 1 := by decide +kernel
theorem wy_X12_stands : yX12_stands.cls ≠ "java/lang/invoke/MethodHandle" ∧ yX12_stands.cls ≠ "java/lang/invoke/VarHandle" ∧ (parseMethodDescriptor yX12_stands.desc).map (fun d => d.parameters.length) = some 1 := by decide +kernel
theorem wy_X12_works : yX12_works.cls ≠ "java/lang/invoke/MethodHandle" ∧ yX12_works.cls ≠ "java/lang/invoke/VarHandle" ∧ (parseMethodDescriptor yX12_works.desc).map (fun d => d.parameters.length) = some 3 := by decide +kernel
theorem wy_X12_gives : yX12_gives.cls ≠ "java/lang/invoke/MethodHandle" ∧ yX12_gives.cls ≠ "java/lang/invoke/VarHandle" ∧ (parseMethodDescriptor yX12_gives.desc).map (fun d => d.parameters.length) = some 2 := by decide +kernel
theorem wy_X12_comes : yX12_comes.cls ≠ "java/lang/invoke/MethodHandle" ∧ yX12_comes.cls ≠ "java/lang/invoke/VarHandle" ∧ (parseMethodDescriptor yX12_comes.desc).map (fun d => d.parameters.length) = some 7 := by decide +kernel
theorem wy_X12_bound : yX12_bound.cls ≠ "java/lang/invoke/MethodHandle" ∧ yX12_bound.cls ≠ "java/lang/invoke/VarHandle" ∧ (parseMethodDescriptor yX12_bound.desc).map (fun d => d.parameters.length) = some 4 := by decide +kernel
theorem wy_X12_found : yX12_found.cls ≠ "java/lang/invoke/MethodHandle" ∧ yX12_found.cls ≠ "java/lang/invoke/VarHandle" ∧ (parseMethodDescriptor yX12_found.desc).map (fun d => d.parameters.length) = some 2 := by decide +kernel
theorem wy_X12_worksOn : yX12_worksOn.cls ≠ "java/lang/invoke/MethodHandle" ∧ yX12_worksOn.cls ≠ "java/lang/invoke/VarHandle" ∧ (parseMethodDescriptor yX12_worksOn.desc).map (fun d => d.parameters.length) = some 0 := by decide +kernel
theorem wy_X12_frameOf : yX12_frameOf.cls ≠ "java/lang/invoke/MethodHandle" ∧ yX12_frameOf.cls ≠ "java/lang/invoke/VarHandle" ∧ (parseMethodDescriptor yX12_frameOf.desc).map (fun d => d.parameters.length) = some 1 := by decide +kernel
theorem wy_X12_made : yX12_made.cls ≠ "java/lang/invoke/MethodHandle" ∧ yX12_made.cls ≠ "java/lang/invoke/VarHandle" ∧ (parseMethodDescriptor yX12_made.desc).map (fun d => d.parameters.length) = some 3 := by decide +kernel
theorem wy_X12_givesOn : yX12_givesOn.cls ≠ "java/lang/invoke/MethodHandle" ∧ yX12_givesOn.cls ≠ "java/lang/invoke/VarHandle" ∧ (parseMethodDescriptor yX12_givesOn.desc).map (fun d => d.parameters.length) = some 0 := by decide +kernel
theorem wy_X12_calls : yX12_calls.cls ≠ "java/lang/invoke/MethodHandle" ∧ yX12_calls.cls ≠ "java/lang/invoke/VarHandle" ∧ (parseMethodDescriptor yX12_calls.desc).map (fun d => d.parameters.length) = some 3 := by decide +kernel
theorem wy_X12_winds : yX12_winds.cls ≠ "java/lang/invoke/MethodHandle" ∧ yX12_winds.cls ≠ "java/lang/invoke/VarHandle" ∧ (parseMethodDescriptor yX12_winds.desc).map (fun d => d.parameters.length) = some 6 := by decide +kernel
theorem wy_X12_goesOnFrom : yX12_goesOnFrom.cls ≠ "java/lang/invoke/MethodHandle" ∧ yX12_goesOnFrom.cls ≠ "java/lang/invoke/VarHandle" ∧ (parseMethodDescriptor yX12_goesOnFrom.desc).map (fun d => d.parameters.length) = some 2 := by decide +kernel
theorem wy_X12_goes : yX12_goes.cls ≠ "java/lang/invoke/MethodHandle" ∧ yX12_goes.cls ≠ "java/lang/invoke/VarHandle" ∧ (parseMethodDescriptor yX12_goes.desc).map (fun d => d.parameters.length) = some 3 := by decide +kernel
theorem wy_X12_begins : yX12_begins.cls ≠ "java/lang/invoke/MethodHandle" ∧ yX12_begins.cls ≠ "java/lang/invoke/VarHandle" ∧ (parseMethodDescriptor yX12_begins.desc).map (fun d => d.parameters.length) = some 1 := by decide +kernel
theorem wy_X12_steps : yX12_steps.cls ≠ "java/lang/invoke/MethodHandle" ∧ yX12_steps.cls ≠ "java/lang/invoke/VarHandle" ∧ (parseMethodDescriptor yX12_steps.desc).map (fun d => d.parameters.length) = some 1 := by decide +kernel
theorem wy_X12_runs : yX12_runs.cls ≠ "java/lang/invoke/MethodHandle" ∧ yX12_runs.cls ≠ "java/lang/invoke/VarHandle" ∧ (parseMethodDescriptor yX12_runs.desc).map (fun d => d.parameters.length) = some 1 := by decide +kernel
theorem wy_X12_begin : yX12_begin.cls ≠ "java/lang/invoke/MethodHandle" ∧ yX12_begin.cls ≠ "java/lang/invoke/VarHandle" ∧ (parseMethodDescriptor yX12_begin.desc).map (fun d => d.parameters.length) = some 1 := by decide +kernel
theorem wy_X12_step : yX12_step.cls ≠ "java/lang/invoke/MethodHandle" ∧ yX12_step.cls ≠ "java/lang/invoke/VarHandle" ∧ (parseMethodDescriptor yX12_step.desc).map (fun d => d.parameters.length) = some 1 := by decide +kernel
theorem wy_X12_run : yX12_run.cls ≠ "java/lang/invoke/MethodHandle" ∧ yX12_run.cls ≠ "java/lang/invoke/VarHandle" ∧ (parseMethodDescriptor yX12_run.desc).map (fun d => d.parameters.length) = some 1 := by decide +kernel
theorem wy_X12_latest : yX12_latest.cls ≠ "java/lang/invoke/MethodHandle" ∧ yX12_latest.cls ≠ "java/lang/invoke/VarHandle" ∧ (parseMethodDescriptor yX12_latest.desc).map (fun d => d.parameters.length) = some 0 := by decide +kernel
theorem wy_X12_winders : yX12_winders.cls ≠ "java/lang/invoke/MethodHandle" ∧ yX12_winders.cls ≠ "java/lang/invoke/VarHandle" ∧ (parseMethodDescriptor yX12_winders.desc).map (fun d => d.parameters.length) = some 0 := by decide +kernel
theorem wy_X12_toldOf : yX12_toldOf.cls ≠ "java/lang/invoke/MethodHandle" ∧ yX12_toldOf.cls ≠ "java/lang/invoke/VarHandle" ∧ (parseMethodDescriptor yX12_toldOf.desc).map (fun d => d.parameters.length) = some 1 := by decide +kernel
theorem wy_X12_told : yX12_told.cls ≠ "java/lang/invoke/MethodHandle" ∧ yX12_told.cls ≠ "java/lang/invoke/VarHandle" ∧ (parseMethodDescriptor yX12_told.desc).map (fun d => d.parameters.length) = some 1 := by decide +kernel
theorem wy_X12_on : yX12_on.cls ≠ "java/lang/invoke/MethodHandle" ∧ yX12_on.cls ≠ "java/lang/invoke/VarHandle" ∧ (parseMethodDescriptor yX12_on.desc).map (fun d => d.parameters.length) = some 2 := by decide +kernel
theorem wy_X12_see : yX12_see.cls ≠ "java/lang/invoke/MethodHandle" ∧ yX12_see.cls ≠ "java/lang/invoke/VarHandle" ∧ (parseMethodDescriptor yX12_see.desc).map (fun d => d.parameters.length) = some 2 := by decide +kernel
theorem wy_X12_isSeen : yX12_isSeen.cls ≠ "java/lang/invoke/MethodHandle" ∧ yX12_isSeen.cls ≠ "java/lang/invoke/VarHandle" ∧ (parseMethodDescriptor yX12_isSeen.desc).map (fun d => d.parameters.length) = some 0 := by decide +kernel
theorem wy_X12_fits : yX12_fits.cls ≠ "java/lang/invoke/MethodHandle" ∧ yX12_fits.cls ≠ "java/lang/invoke/VarHandle" ∧ (parseMethodDescriptor yX12_fits.desc).map (fun d => d.parameters.length) = some 3 := by decide +kernel
theorem wy_X12_alike : yX12_alike.cls ≠ "java/lang/invoke/MethodHandle" ∧ yX12_alike.cls ≠ "java/lang/invoke/VarHandle" ∧ (parseMethodDescriptor yX12_alike.desc).map (fun d => d.parameters.length) = some 2 := by decide +kernel
theorem wy_X12_lowest : yX12_lowest.cls ≠ "java/lang/invoke/MethodHandle" ∧ yX12_lowest.cls ≠ "java/lang/invoke/VarHandle" ∧ (parseMethodDescriptor yX12_lowest.desc).map (fun d => d.parameters.length) = some 3 := by decide +kernel
theorem wy_X12_odds : yX12_odds.cls ≠ "java/lang/invoke/MethodHandle" ∧ yX12_odds.cls ≠ "java/lang/invoke/VarHandle" ∧ (parseMethodDescriptor yX12_odds.desc).map (fun d => d.parameters.length) = some 3 := by decide +kernel
theorem wy_X12_mean : yX12_mean.cls ≠ "java/lang/invoke/MethodHandle" ∧ yX12_mean.cls ≠ "java/lang/invoke/VarHandle" ∧ (parseMethodDescriptor yX12_mean.desc).map (fun d => d.parameters.length) = some 2 := by decide +kernel
theorem wy_X12_plan : yX12_plan.cls ≠ "java/lang/invoke/MethodHandle" ∧ yX12_plan.cls ≠ "java/lang/invoke/VarHandle" ∧ (parseMethodDescriptor yX12_plan.desc).map (fun d => d.parameters.length) = some 2 := by decide +kernel
theorem wy_X12_ends : yX12_ends.cls ≠ "java/lang/invoke/MethodHandle" ∧ yX12_ends.cls ≠ "java/lang/invoke/VarHandle" ∧ (parseMethodDescriptor yX12_ends.desc).map (fun d => d.parameters.length) = some 1 := by decide +kernel
theorem wy_X12_book : yX12_book.cls ≠ "java/lang/invoke/MethodHandle" ∧ yX12_book.cls ≠ "java/lang/invoke/VarHandle" ∧ (parseMethodDescriptor yX12_book.desc).map (fun d => d.parameters.length) = some 2 := by decide +kernel
theorem wy_X12_looked : yX12_looked.cls ≠ "java/lang/invoke/MethodHandle" ∧ yX12_looked.cls ≠ "java/lang/invoke/VarHandle" ∧ (parseMethodDescriptor yX12_looked.desc).map (fun d => d.parameters.length) = some 0 := by decide +kernel
theorem wy_X12_image : yX12_image.cls ≠ "java/lang/invoke/MethodHandle" ∧ yX12_image.cls ≠ "java/lang/invoke/VarHandle" ∧ (parseMethodDescriptor yX12_image.desc).map (fun d => d.parameters.length) = some 0 := by decide +kernel
theorem wy_X12_undo : yX12_undo.cls ≠ "java/lang/invoke/MethodHandle" ∧ yX12_undo.cls ≠ "java/lang/invoke/VarHandle" ∧ (parseMethodDescriptor yX12_undo.desc).map (fun d => d.parameters.length) = some 0 := by decide +kernel
theorem wy_X12_count : yX12_count.cls ≠ "java/lang/invoke/MethodHandle" ∧ yX12_count.cls ≠ "java/lang/invoke/VarHandle" ∧ (parseMethodDescriptor yX12_count.desc).map (fun d => d.parameters.length) = some 1 := by decide +kernel
theorem wy_X12_judge : yX12_judge.cls ≠ "java/lang/invoke/MethodHandle" ∧ yX12_judge.cls ≠ "java/lang/invoke/VarHandle" ∧ (parseMethodDescriptor yX12_judge.desc).map (fun d => d.parameters.length) = some 2 := by decide +kernel
theorem wy_X12_tape : yX12_tape.cls ≠ "java/lang/invoke/MethodHandle" ∧ yX12_tape.cls ≠ "java/lang/invoke/VarHandle" ∧ (parseMethodDescriptor yX12_tape.desc).map (fun d => d.parameters.length) = some 3 := by decide +kernel
theorem wy_X12_lowestBits : yX12_lowestBits.cls ≠ "java/lang/invoke/MethodHandle" ∧ yX12_lowestBits.cls ≠ "java/lang/invoke/VarHandle" ∧ (parseMethodDescriptor yX12_lowestBits.desc).map (fun d => d.parameters.length) = some 2 := by decide +kernel
theorem wy_X12_item : yX12_item.cls ≠ "java/lang/invoke/MethodHandle" ∧ yX12_item.cls ≠ "java/lang/invoke/VarHandle" ∧ (parseMethodDescriptor yX12_item.desc).map (fun d => d.parameters.length) = some 3 := by decide +kernel
theorem wy_X12_read : yX12_read.cls ≠ "java/lang/invoke/MethodHandle" ∧ yX12_read.cls ≠ "java/lang/invoke/VarHandle" ∧ (parseMethodDescriptor yX12_read.desc).map (fun d => d.parameters.length) = some 2 := by decide +kernel
theorem wy_X12_shift : yX12_shift.cls ≠ "java/lang/invoke/MethodHandle" ∧ yX12_shift.cls ≠ "java/lang/invoke/VarHandle" ∧ (parseMethodDescriptor yX12_shift.desc).map (fun d => d.parameters.length) = some 5 := by decide +kernel
