theorem dX0_init_0 : decode cX0_init 0 = .ok (.aload_n 0, 1) := by decide +kernel
theorem dX0_init_1 : decode cX0_init 1 = .ok (.invokespecial 3, 3) := by decide +kernel
theorem dX0_init_4 : decode cX0_init 4 = .ok (.aload_n 0, 1) := by decide +kernel
theorem dX0_init_5 : decode cX0_init 5 = .ok (.sipush 301, 3) := by decide +kernel
theorem dX0_init_8 : decode cX0_init 8 = .ok (.newarray .int, 2) := by decide +kernel
theorem dX0_init_10 : decode cX0_init 10 = .ok (.putfield 9, 3) := by decide +kernel
theorem dX0_init_13 : decode cX0_init 13 = .ok (.aload_n 0, 1) := by decide +kernel
theorem dX0_init_14 : decode cX0_init 14 = .ok (.sipush 301, 3) := by decide +kernel
theorem dX0_init_17 : decode cX0_init 17 = .ok (.newarray .int, 2) := by decide +kernel
theorem dX0_init_19 : decode cX0_init 19 = .ok (.putfield 15, 3) := by decide +kernel
theorem dX0_init_22 : decode cX0_init 22 = .ok (.aload_n 0, 1) := by decide +kernel
theorem dX0_init_23 : decode cX0_init 23 = .ok (.sipush 301, 3) := by decide +kernel
theorem dX0_init_26 : decode cX0_init 26 = .ok (.newarray .int, 2) := by decide +kernel
theorem dX0_init_28 : decode cX0_init 28 = .ok (.putfield 18, 3) := by decide +kernel
theorem dX0_init_31 : decode cX0_init 31 = .ok (.aload_n 0, 1) := by decide +kernel
theorem dX0_init_32 : decode cX0_init 32 = .ok (.sipush 301, 3) := by decide +kernel
theorem dX0_init_35 : decode cX0_init 35 = .ok (.newarray .int, 2) := by decide +kernel
theorem dX0_init_37 : decode cX0_init 37 = .ok (.putfield 21, 3) := by decide +kernel
theorem dX0_init_40 : decode cX0_init 40 = .ok (.aload_n 0, 1) := by decide +kernel
theorem dX0_init_41 : decode cX0_init 41 = .ok (.sipush 301, 3) := by decide +kernel
theorem dX0_init_44 : decode cX0_init 44 = .ok (.newarray .int, 2) := by decide +kernel
theorem dX0_init_46 : decode cX0_init 46 = .ok (.putfield 24, 3) := by decide +kernel
theorem dX0_init_49 : decode cX0_init 49 = .ok (.aload_n 0, 1) := by decide +kernel
theorem dX0_init_50 : decode cX0_init 50 = .ok (.sipush 301, 3) := by decide +kernel
theorem dX0_init_53 : decode cX0_init 53 = .ok (.newarray .int, 2) := by decide +kernel
theorem dX0_init_55 : decode cX0_init 55 = .ok (.putfield 27, 3) := by decide +kernel
theorem dX0_init_58 : decode cX0_init 58 = .ok (.aload_n 0, 1) := by decide +kernel
theorem dX0_init_59 : decode cX0_init 59 = .ok (.sipush 301, 3) := by decide +kernel
theorem dX0_init_62 : decode cX0_init 62 = .ok (.newarray .int, 2) := by decide +kernel
theorem dX0_init_64 : decode cX0_init 64 = .ok (.putfield 30, 3) := by decide +kernel
theorem dX0_init_67 : decode cX0_init 67 = .ok (.aload_n 0, 1) := by decide +kernel
theorem dX0_init_68 : decode cX0_init 68 = .ok (.sipush 301, 3) := by decide +kernel
theorem dX0_init_71 : decode cX0_init 71 = .ok (.newarray .long, 2) := by decide +kernel
theorem dX0_init_73 : decode cX0_init 73 = .ok (.putfield 33, 3) := by decide +kernel
theorem dX0_init_76 : decode cX0_init 76 = .ok (.return_, 1) := by decide +kernel
theorem dX0_clear_0 : decode cX0_clear 0 = .ok (.aload_n 0, 1) := by decide +kernel
theorem dX0_clear_1 : decode cX0_clear 1 = .ok (.iconst 1, 1) := by decide +kernel
theorem dX0_clear_2 : decode cX0_clear 2 = .ok (.putfield 37, 3) := by decide +kernel
theorem dX0_clear_5 : decode cX0_clear 5 = .ok (.return_, 1) := by decide +kernel
theorem dX0_below_0 : decode cX0_below 0 = .ok (.aload_n 0, 1) := by decide +kernel
theorem dX0_below_1 : decode cX0_below 1 = .ok (.getfield 9, 3) := by decide +kernel
theorem dX0_below_4 : decode cX0_below 4 = .ok (.iload_n 1, 1) := by decide +kernel
theorem dX0_below_5 : decode cX0_below 5 = .ok (.invokestatic 41, 3) := by decide +kernel
theorem dX0_below_8 : decode cX0_below 8 = .ok (.ireturn, 1) := by decide +kernel
theorem dX0_height_0 : decode cX0_height 0 = .ok (.aload_n 0, 1) := by decide +kernel
theorem dX0_height_1 : decode cX0_height 1 = .ok (.getfield 15, 3) := by decide +kernel
theorem dX0_height_4 : decode cX0_height 4 = .ok (.iload_n 1, 1) := by decide +kernel
theorem dX0_height_5 : decode cX0_height 5 = .ok (.invokestatic 41, 3) := by decide +kernel
theorem dX0_height_8 : decode cX0_height 8 = .ok (.ireturn, 1) := by decide +kernel
theorem dX0_sort_0 : decode cX0_sort 0 = .ok (.aload_n 0, 1) := by decide +kernel
theorem dX0_sort_1 : decode cX0_sort 1 = .ok (.getfield 18, 3) := by decide +kernel
theorem dX0_sort_4 : decode cX0_sort 4 = .ok (.iload_n 1, 1) := by decide +kernel
theorem dX0_sort_5 : decode cX0_sort 5 = .ok (.invokestatic 41, 3) := by decide +kernel
theorem dX0_sort_8 : decode cX0_sort 8 = .ok (.ireturn, 1) := by decide +kernel
theorem dX0_behind_0 : decode cX0_behind 0 = .ok (.aload_n 0, 1) := by decide +kernel
theorem dX0_behind_1 : decode cX0_behind 1 = .ok (.getfield 21, 3) := by decide +kernel
theorem dX0_behind_4 : decode cX0_behind 4 = .ok (.iload_n 1, 1) := by decide +kernel
theorem dX0_behind_5 : decode cX0_behind 5 = .ok (.invokestatic 41, 3) := by decide +kernel
theorem dX0_behind_8 : decode cX0_behind 8 = .ok (.ireturn, 1) := by decide +kernel
theorem dX0_expression_0 : decode cX0_expression 0 = .ok (.aload_n 0, 1) := by decide +kernel
theorem dX0_expression_1 : decode cX0_expression 1 = .ok (.getfield 24, 3) := by decide +kernel
theorem dX0_expression_4 : decode cX0_expression 4 = .ok (.iload_n 1, 1) := by decide +kernel
theorem dX0_expression_5 : decode cX0_expression 5 = .ok (.invokestatic 41, 3) := by decide +kernel
theorem dX0_expression_8 : decode cX0_expression 8 = .ok (.ireturn, 1) := by decide +kernel
theorem dX0_scope_0 : decode cX0_scope 0 = .ok (.aload_n 0, 1) := by decide +kernel
theorem dX0_scope_1 : decode cX0_scope 1 = .ok (.getfield 27, 3) := by decide +kernel
theorem dX0_scope_4 : decode cX0_scope 4 = .ok (.iload_n 1, 1) := by decide +kernel
theorem dX0_scope_5 : decode cX0_scope 5 = .ok (.invokestatic 41, 3) := by decide +kernel
theorem dX0_scope_8 : decode cX0_scope 8 = .ok (.ireturn, 1) := by decide +kernel
theorem dX0_escape_0 : decode cX0_escape 0 = .ok (.aload_n 0, 1) := by decide +kernel
theorem dX0_escape_1 : decode cX0_escape 1 = .ok (.getfield 30, 3) := by decide +kernel
theorem dX0_escape_4 : decode cX0_escape 4 = .ok (.iload_n 1, 1) := by decide +kernel
theorem dX0_escape_5 : decode cX0_escape 5 = .ok (.invokestatic 41, 3) := by decide +kernel
theorem dX0_escape_8 : decode cX0_escape 8 = .ok (.ireturn, 1) := by decide +kernel
theorem dX0_kept_0 : decode cX0_kept 0 = .ok (.aload_n 0, 1) := by decide +kernel
theorem dX0_kept_1 : decode cX0_kept 1 = .ok (.getfield 33, 3) := by decide +kernel
theorem dX0_kept_4 : decode cX0_kept 4 = .ok (.iload_n 1, 1) := by decide +kernel
theorem dX0_kept_5 : decode cX0_kept 5 = .ok (.invokestatic 45, 3) := by decide +kernel
theorem dX0_kept_8 : decode cX0_kept 8 = .ok (.lreturn, 1) := by decide +kernel
theorem dX0_add_0 : decode cX0_add 0 = .ok (.aload_n 0, 1) := by decide +kernel
theorem dX0_add_1 : decode cX0_add 1 = .ok (.getfield 15, 3) := by decide +kernel
theorem dX0_add_4 : decode cX0_add 4 = .ok (.iload_n 1, 1) := by decide +kernel
theorem dX0_add_5 : decode cX0_add 5 = .ok (.invokestatic 41, 3) := by decide +kernel
theorem dX0_add_8 : decode cX0_add 8 = .ok (.iconst 1, 1) := by decide +kernel
theorem dX0_add_9 : decode cX0_add 9 = .ok (.iadd, 1) := by decide +kernel
theorem dX0_add_10 : decode cX0_add 10 = .ok (.istore 6, 2) := by decide +kernel
theorem dX0_add_12 : decode cX0_add 12 = .ok (.iload 6, 2) := by decide +kernel
theorem dX0_add_14 : decode cX0_add 14 = .ok (.bipush 40, 2) := by decide +kernel
theorem dX0_add_16 : decode cX0_add 16 = .ok (.if_icmp .gt 13, 3) := by decide +kernel
theorem dX0_add_19 : decode cX0_add 19 = .ok (.aload_n 0, 1) := by decide +kernel
theorem dX0_add_20 : decode cX0_add 20 = .ok (.getfield 37, 3) := by decide +kernel
theorem dX0_add_23 : decode cX0_add 23 = .ok (.sipush 301, 3) := by decide +kernel
theorem dX0_add_26 : decode cX0_add 26 = .ok (.if_icmp .lt 5, 3) := by decide +kernel
theorem dX0_add_29 : decode cX0_add 29 = .ok (.iconst 0, 1) := by decide +kernel
theorem dX0_add_30 : decode cX0_add 30 = .ok (.ireturn, 1) := by decide +kernel
theorem dX0_add_31 : decode cX0_add 31 = .ok (.aload_n 0, 1) := by decide +kernel
theorem dX0_add_32 : decode cX0_add 32 = .ok (.getfield 37, 3) := by decide +kernel
theorem dX0_add_35 : decode cX0_add 35 = .ok (.istore 7, 2) := by decide +kernel
theorem dX0_add_37 : decode cX0_add 37 = .ok (.aload_n 0, 1) := by decide +kernel
theorem dX0_add_38 : decode cX0_add 38 = .ok (.dup, 1) := by decide +kernel
theorem dX0_add_39 : decode cX0_add 39 = .ok (.getfield 37, 3) := by decide +kernel
theorem dX0_add_42 : decode cX0_add 42 = .ok (.iconst 1, 1) := by decide +kernel
theorem dX0_add_43 : decode cX0_add 43 = .ok (.iadd, 1) := by decide +kernel
theorem dX0_add_44 : decode cX0_add 44 = .ok (.putfield 37, 3) := by decide +kernel
theorem dX0_add_47 : decode cX0_add 47 = .ok (.aload_n 0, 1) := by decide +kernel
theorem dX0_add_48 : decode cX0_add 48 = .ok (.getfield 9, 3) := by decide +kernel
theorem dX0_add_51 : decode cX0_add 51 = .ok (.iload 7, 2) := by decide +kernel
theorem dX0_add_53 : decode cX0_add 53 = .ok (.iload_n 1, 1) := by decide +kernel
theorem dX0_add_54 : decode cX0_add 54 = .ok (.invokestatic 48, 3) := by decide +kernel
theorem dX0_add_57 : decode cX0_add 57 = .ok (.aload_n 0, 1) := by decide +kernel
theorem dX0_add_58 : decode cX0_add 58 = .ok (.getfield 15, 3) := by decide +kernel
theorem dX0_add_61 : decode cX0_add 61 = .ok (.iload 7, 2) := by decide +kernel
theorem dX0_add_63 : decode cX0_add 63 = .ok (.iload 6, 2) := by decide +kernel
theorem dX0_add_65 : decode cX0_add 65 = .ok (.invokestatic 48, 3) := by decide +kernel
theorem dX0_add_68 : decode cX0_add 68 = .ok (.aload_n 0, 1) := by decide +kernel
theorem dX0_add_69 : decode cX0_add 69 = .ok (.getfield 18, 3) := by decide +kernel
theorem dX0_add_72 : decode cX0_add 72 = .ok (.iload 7, 2) := by decide +kernel
theorem dX0_add_74 : decode cX0_add 74 = .ok (.iload_n 2, 1) := by decide +kernel
theorem dX0_add_75 : decode cX0_add 75 = .ok (.invokestatic 48, 3) := by decide +kernel
theorem dX0_add_78 : decode cX0_add 78 = .ok (.aload_n 0, 1) := by decide +kernel
theorem dX0_add_79 : decode cX0_add 79 = .ok (.getfield 21, 3) := by decide +kernel
theorem dX0_add_82 : decode cX0_add 82 = .ok (.iload 7, 2) := by decide +kernel
theorem dX0_add_84 : decode cX0_add 84 = .ok (.iload_n 3, 1) := by decide +kernel
theorem dX0_add_85 : decode cX0_add 85 = .ok (.invokestatic 48, 3) := by decide +kernel
theorem dX0_add_88 : decode cX0_add 88 = .ok (.aload_n 0, 1) := by decide +kernel
theorem dX0_add_89 : decode cX0_add 89 = .ok (.getfield 24, 3) := by decide +kernel
theorem dX0_add_92 : decode cX0_add 92 = .ok (.iload 7, 2) := by decide +kernel
theorem dX0_add_94 : decode cX0_add 94 = .ok (.iload 4, 2) := by decide +kernel
theorem dX0_add_96 : decode cX0_add 96 = .ok (.invokestatic 48, 3) := by decide +kernel
theorem dX0_add_99 : decode cX0_add 99 = .ok (.aload_n 0, 1) := by decide +kernel
theorem dX0_add_100 : decode cX0_add 100 = .ok (.getfield 27, 3) := by decide +kernel
theorem dX0_add_103 : decode cX0_add 103 = .ok (.iload 7, 2) := by decide +kernel
theorem dX0_add_105 : decode cX0_add 105 = .ok (.iload 5, 2) := by decide +kernel
theorem dX0_add_107 : decode cX0_add 107 = .ok (.invokestatic 48, 3) := by decide +kernel
theorem dX0_add_110 : decode cX0_add 110 = .ok (.aload_n 0, 1) := by decide +kernel
theorem dX0_add_111 : decode cX0_add 111 = .ok (.getfield 30, 3) := by decide +kernel
theorem dX0_add_114 : decode cX0_add 114 = .ok (.iload 7, 2) := by decide +kernel
theorem dX0_add_116 : decode cX0_add 116 = .ok (.iconst 0, 1) := by decide +kernel
theorem dX0_add_117 : decode cX0_add 117 = .ok (.invokestatic 48, 3) := by decide +kernel
theorem dX0_add_120 : decode cX0_add 120 = .ok (.aload_n 0, 1) := by decide +kernel
theorem dX0_add_121 : decode cX0_add 121 = .ok (.getfield 33, 3) := by decide +kernel
theorem dX0_add_124 : decode cX0_add 124 = .ok (.iload 7, 2) := by decide +kernel
theorem dX0_add_126 : decode cX0_add 126 = .ok (.lconst 0, 1) := by decide +kernel
theorem dX0_add_127 : decode cX0_add 127 = .ok (.invokestatic 52, 3) := by decide +kernel
theorem dX0_add_130 : decode cX0_add 130 = .ok (.iload 7, 2) := by decide +kernel
theorem dX0_add_132 : decode cX0_add 132 = .ok (.ireturn, 1) := by decide +kernel
theorem dX0_keep_0 : decode cX0_keep 0 = .ok (.aload_n 0, 1) := by decide +kernel
theorem dX0_keep_1 : decode cX0_keep 1 = .ok (.getfield 33, 3) := by decide +kernel
theorem dX0_keep_4 : decode cX0_keep 4 = .ok (.iload_n 1, 1) := by decide +kernel
theorem dX0_keep_5 : decode cX0_keep 5 = .ok (.lload_n 2, 1) := by decide +kernel
theorem dX0_keep_6 : decode cX0_keep 6 = .ok (.invokestatic 52, 3) := by decide +kernel
theorem dX0_keep_9 : decode cX0_keep 9 = .ok (.aload_n 0, 1) := by decide +kernel
theorem dX0_keep_10 : decode cX0_keep 10 = .ok (.getfield 30, 3) := by decide +kernel
theorem dX0_keep_13 : decode cX0_keep 13 = .ok (.iload_n 1, 1) := by decide +kernel
theorem dX0_keep_14 : decode cX0_keep 14 = .ok (.iload 4, 2) := by decide +kernel
theorem dX0_keep_16 : decode cX0_keep 16 = .ok (.invokestatic 48, 3) := by decide +kernel
theorem dX0_keep_19 : decode cX0_keep 19 = .ok (.return_, 1) := by decide +kernel
theorem dX0_copyFrom_0 : decode cX0_copyFrom 0 = .ok (.aload_n 0, 1) := by decide +kernel
theorem dX0_copyFrom_1 : decode cX0_copyFrom 1 = .ok (.aload_n 1, 1) := by decide +kernel
theorem dX0_copyFrom_2 : decode cX0_copyFrom 2 = .ok (.getfield 37, 3) := by decide +kernel
theorem dX0_copyFrom_5 : decode cX0_copyFrom 5 = .ok (.putfield 37, 3) := by decide +kernel
theorem dX0_copyFrom_8 : decode cX0_copyFrom 8 = .ok (.aload_n 1, 1) := by decide +kernel
theorem dX0_copyFrom_9 : decode cX0_copyFrom 9 = .ok (.getfield 9, 3) := by decide +kernel
theorem dX0_copyFrom_12 : decode cX0_copyFrom 12 = .ok (.aload_n 0, 1) := by decide +kernel
theorem dX0_copyFrom_13 : decode cX0_copyFrom 13 = .ok (.getfield 9, 3) := by decide +kernel
theorem dX0_copyFrom_16 : decode cX0_copyFrom 16 = .ok (.invokestatic 55, 3) := by decide +kernel
theorem dX0_copyFrom_19 : decode cX0_copyFrom 19 = .ok (.aload_n 1, 1) := by decide +kernel
theorem dX0_copyFrom_20 : decode cX0_copyFrom 20 = .ok (.getfield 15, 3) := by decide +kernel
theorem dX0_copyFrom_23 : decode cX0_copyFrom 23 = .ok (.aload_n 0, 1) := by decide +kernel
theorem dX0_copyFrom_24 : decode cX0_copyFrom 24 = .ok (.getfield 15, 3) := by decide +kernel
theorem dX0_copyFrom_27 : decode cX0_copyFrom 27 = .ok (.invokestatic 55, 3) := by decide +kernel
theorem dX0_copyFrom_30 : decode cX0_copyFrom 30 = .ok (.aload_n 1, 1) := by decide +kernel
theorem dX0_copyFrom_31 : decode cX0_copyFrom 31 = .ok (.getfield 18, 3) := by decide +kernel
theorem dX0_copyFrom_34 : decode cX0_copyFrom 34 = .ok (.aload_n 0, 1) := by decide +kernel
theorem dX0_copyFrom_35 : decode cX0_copyFrom 35 = .ok (.getfield 18, 3) := by decide +kernel
theorem dX0_copyFrom_38 : decode cX0_copyFrom 38 = .ok (.invokestatic 55, 3) := by decide +kernel
theorem dX0_copyFrom_41 : decode cX0_copyFrom 41 = .ok (.aload_n 1, 1) := by decide +kernel
theorem dX0_copyFrom_42 : decode cX0_copyFrom 42 = .ok (.getfield 21, 3) := by decide +kernel
theorem dX0_copyFrom_45 : decode cX0_copyFrom 45 = .ok (.aload_n 0, 1) := by decide +kernel
theorem dX0_copyFrom_46 : decode cX0_copyFrom 46 = .ok (.getfield 21, 3) := by decide +kernel
theorem dX0_copyFrom_49 : decode cX0_copyFrom 49 = .ok (.invokestatic 55, 3) := by decide +kernel
theorem dX0_copyFrom_52 : decode cX0_copyFrom 52 = .ok (.aload_n 1, 1) := by decide +kernel
theorem dX0_copyFrom_53 : decode cX0_copyFrom 53 = .ok (.getfield 24, 3) := by decide +kernel
theorem dX0_copyFrom_56 : decode cX0_copyFrom 56 = .ok (.aload_n 0, 1) := by decide +kernel
theorem dX0_copyFrom_57 : decode cX0_copyFrom 57 = .ok (.getfield 24, 3) := by decide +kernel
theorem dX0_copyFrom_60 : decode cX0_copyFrom 60 = .ok (.invokestatic 55, 3) := by decide +kernel
theorem dX0_copyFrom_63 : decode cX0_copyFrom 63 = .ok (.aload_n 1, 1) := by decide +kernel
theorem dX0_copyFrom_64 : decode cX0_copyFrom 64 = .ok (.getfield 27, 3) := by decide +kernel
theorem dX0_copyFrom_67 : decode cX0_copyFrom 67 = .ok (.aload_n 0, 1) := by decide +kernel
theorem dX0_copyFrom_68 : decode cX0_copyFrom 68 = .ok (.getfield 27, 3) := by decide +kernel
theorem dX0_copyFrom_71 : decode cX0_copyFrom 71 = .ok (.invokestatic 55, 3) := by decide +kernel
theorem dX0_copyFrom_74 : decode cX0_copyFrom 74 = .ok (.aload_n 1, 1) := by decide +kernel
theorem dX0_copyFrom_75 : decode cX0_copyFrom 75 = .ok (.getfield 30, 3) := by decide +kernel
theorem dX0_copyFrom_78 : decode cX0_copyFrom 78 = .ok (.aload_n 0, 1) := by decide +kernel
theorem dX0_copyFrom_79 : decode cX0_copyFrom 79 = .ok (.getfield 30, 3) := by decide +kernel
theorem dX0_copyFrom_82 : decode cX0_copyFrom 82 = .ok (.invokestatic 55, 3) := by decide +kernel
theorem dX0_copyFrom_85 : decode cX0_copyFrom 85 = .ok (.aload_n 1, 1) := by decide +kernel
theorem dX0_copyFrom_86 : decode cX0_copyFrom 86 = .ok (.getfield 33, 3) := by decide +kernel
theorem dX0_copyFrom_89 : decode cX0_copyFrom 89 = .ok (.aload_n 0, 1) := by decide +kernel
theorem dX0_copyFrom_90 : decode cX0_copyFrom 90 = .ok (.getfield 33, 3) := by decide +kernel
theorem dX0_copyFrom_93 : decode cX0_copyFrom 93 = .ok (.invokestatic 59, 3) := by decide +kernel
theorem dX0_copyFrom_96 : decode cX0_copyFrom 96 = .ok (.return_, 1) := by decide +kernel
theorem dX1_init_0 : decode cX1_init 0 = .ok (.aload_n 0, 1) := by decide +kernel
theorem dX1_init_1 : decode cX1_init 1 = .ok (.invokespecial 3, 3) := by decide +kernel
theorem dX1_init_4 : decode cX1_init 4 = .ok (.aload_n 0, 1) := by decide +kernel
theorem dX1_init_5 : decode cX1_init 5 = .ok (.new 9, 3) := by decide +kernel
theorem dX1_init_8 : decode cX1_init 8 = .ok (.dup, 1) := by decide +kernel
theorem dX1_init_9 : decode cX1_init 9 = .ok (.iconst 5, 1) := by decide +kernel
theorem dX1_init_10 : decode cX1_init 10 = .ok (.invokespecial 11, 3) := by decide +kernel
theorem dX1_init_13 : decode cX1_init 13 = .ok (.putfield 14, 3) := by decide +kernel
theorem dX1_init_16 : decode cX1_init 16 = .ok (.aload_n 0, 1) := by decide +kernel
theorem dX1_init_17 : decode cX1_init 17 = .ok (.new 9, 3) := by decide +kernel
theorem dX1_init_20 : decode cX1_init 20 = .ok (.dup, 1) := by decide +kernel
theorem dX1_init_21 : decode cX1_init 21 = .ok (.bipush 10, 2) := by decide +kernel
theorem dX1_init_23 : decode cX1_init 23 = .ok (.invokespecial 11, 3) := by decide +kernel
theorem dX1_init_26 : decode cX1_init 26 = .ok (.putfield 20, 3) := by decide +kernel
theorem dX1_init_29 : decode cX1_init 29 = .ok (.aload_n 0, 1) := by decide +kernel
theorem dX1_init_30 : decode cX1_init 30 = .ok (.new 9, 3) := by decide +kernel
theorem dX1_init_33 : decode cX1_init 33 = .ok (.dup, 1) := by decide +kernel
theorem dX1_init_34 : decode cX1_init 34 = .ok (.bipush 8, 2) := by decide +kernel
theorem dX1_init_36 : decode cX1_init 36 = .ok (.invokespecial 11, 3) := by decide +kernel
theorem dX1_init_39 : decode cX1_init 39 = .ok (.putfield 23, 3) := by decide +kernel
theorem dX1_init_42 : decode cX1_init 42 = .ok (.aload_n 0, 1) := by decide +kernel
theorem dX1_init_43 : decode cX1_init 43 = .ok (.new 26, 3) := by decide +kernel
theorem dX1_init_46 : decode cX1_init 46 = .ok (.dup, 1) := by decide +kernel
theorem dX1_init_47 : decode cX1_init 47 = .ok (.invokespecial 28, 3) := by decide +kernel
theorem dX1_init_50 : decode cX1_init 50 = .ok (.putfield 29, 3) := by decide +kernel
theorem dX1_init_53 : decode cX1_init 53 = .ok (.aload_n 0, 1) := by decide +kernel
theorem dX1_init_54 : decode cX1_init 54 = .ok (.new 33, 3) := by decide +kernel
theorem dX1_init_57 : decode cX1_init 57 = .ok (.dup, 1) := by decide +kernel
theorem dX1_init_58 : decode cX1_init 58 = .ok (.aload_n 1, 1) := by decide +kernel
theorem dX1_init_59 : decode cX1_init 59 = .ok (.aload_n 0, 1) := by decide +kernel
theorem dX1_init_60 : decode cX1_init 60 = .ok (.getfield 29, 3) := by decide +kernel
theorem dX1_init_63 : decode cX1_init 63 = .ok (.invokespecial 35, 3) := by decide +kernel
theorem dX1_init_66 : decode cX1_init 66 = .ok (.putfield 38, 3) := by decide +kernel
theorem dX1_init_69 : decode cX1_init 69 = .ok (.return_, 1) := by decide +kernel
theorem dX1_copyFrom_0 : decode cX1_copyFrom 0 = .ok (.aload_n 0, 1) := by decide +kernel
theorem dX1_copyFrom_1 : decode cX1_copyFrom 1 = .ok (.getfield 29, 3) := by decide +kernel
theorem dX1_copyFrom_4 : decode cX1_copyFrom 4 = .ok (.aload_n 1, 1) := by decide +kernel
theorem dX1_copyFrom_5 : decode cX1_copyFrom 5 = .ok (.getfield 29, 3) := by decide +kernel
theorem dX1_copyFrom_8 : decode cX1_copyFrom 8 = .ok (.invokevirtual 42, 3) := by decide +kernel
theorem dX1_copyFrom_11 : decode cX1_copyFrom 11 = .ok (.aload_n 0, 1) := by decide +kernel
theorem dX1_copyFrom_12 : decode cX1_copyFrom 12 = .ok (.getfield 38, 3) := by decide +kernel
theorem dX1_copyFrom_15 : decode cX1_copyFrom 15 = .ok (.aload_n 1, 1) := by decide +kernel
theorem dX1_copyFrom_16 : decode cX1_copyFrom 16 = .ok (.getfield 38, 3) := by decide +kernel
theorem dX1_copyFrom_19 : decode cX1_copyFrom 19 = .ok (.invokevirtual 46, 3) := by decide +kernel
theorem dX1_copyFrom_22 : decode cX1_copyFrom 22 = .ok (.aload_n 0, 1) := by decide +kernel
theorem dX1_copyFrom_23 : decode cX1_copyFrom 23 = .ok (.getfield 14, 3) := by decide +kernel
theorem dX1_copyFrom_26 : decode cX1_copyFrom 26 = .ok (.aload_n 1, 1) := by decide +kernel
theorem dX1_copyFrom_27 : decode cX1_copyFrom 27 = .ok (.getfield 14, 3) := by decide +kernel
theorem dX1_copyFrom_30 : decode cX1_copyFrom 30 = .ok (.invokevirtual 49, 3) := by decide +kernel
theorem dX1_copyFrom_33 : decode cX1_copyFrom 33 = .ok (.aload_n 0, 1) := by decide +kernel
theorem dX1_copyFrom_34 : decode cX1_copyFrom 34 = .ok (.getfield 20, 3) := by decide +kernel
theorem dX1_copyFrom_37 : decode cX1_copyFrom 37 = .ok (.aload_n 1, 1) := by decide +kernel
theorem dX1_copyFrom_38 : decode cX1_copyFrom 38 = .ok (.getfield 20, 3) := by decide +kernel
theorem dX1_copyFrom_41 : decode cX1_copyFrom 41 = .ok (.invokevirtual 49, 3) := by decide +kernel
theorem dX1_copyFrom_44 : decode cX1_copyFrom 44 = .ok (.aload_n 0, 1) := by decide +kernel
theorem dX1_copyFrom_45 : decode cX1_copyFrom 45 = .ok (.getfield 23, 3) := by decide +kernel
theorem dX1_copyFrom_48 : decode cX1_copyFrom 48 = .ok (.aload_n 1, 1) := by decide +kernel
theorem dX1_copyFrom_49 : decode cX1_copyFrom 49 = .ok (.getfield 23, 3) := by decide +kernel
theorem dX1_copyFrom_52 : decode cX1_copyFrom 52 = .ok (.invokevirtual 49, 3) := by decide +kernel
theorem dX1_copyFrom_55 : decode cX1_copyFrom 55 = .ok (.return_, 1) := by decide +kernel
theorem dX2_init_0 : decode cX2_init 0 = .ok (.aload_n 0, 1) := by decide +kernel
theorem dX2_init_1 : decode cX2_init 1 = .ok (.invokespecial 3, 3) := by decide +kernel
theorem dX2_init_4 : decode cX2_init 4 = .ok (.aload_n 0, 1) := by decide +kernel
theorem dX2_init_5 : decode cX2_init 5 = .ok (.sipush 800, 3) := by decide +kernel
theorem dX2_init_8 : decode cX2_init 8 = .ok (.newarray .int, 2) := by decide +kernel
theorem dX2_init_10 : decode cX2_init 10 = .ok (.putfield 9, 3) := by decide +kernel
theorem dX2_init_13 : decode cX2_init 13 = .ok (.aload_n 0, 1) := by decide +kernel
theorem dX2_init_14 : decode cX2_init 14 = .ok (.sipush 800, 3) := by decide +kernel
theorem dX2_init_17 : decode cX2_init 17 = .ok (.newarray .int, 2) := by decide +kernel
theorem dX2_init_19 : decode cX2_init 19 = .ok (.putfield 15, 3) := by decide +kernel
theorem dX2_init_22 : decode cX2_init 22 = .ok (.aload_n 0, 1) := by decide +kernel
theorem dX2_init_23 : decode cX2_init 23 = .ok (.sipush 2400, 3) := by decide +kernel
theorem dX2_init_26 : decode cX2_init 26 = .ok (.newarray .int, 2) := by decide +kernel
theorem dX2_init_28 : decode cX2_init 28 = .ok (.putfield 18, 3) := by decide +kernel
theorem dX2_init_31 : decode cX2_init 31 = .ok (.aload_n 0, 1) := by decide +kernel
theorem dX2_init_32 : decode cX2_init 32 = .ok (.sipush 800, 3) := by decide +kernel
theorem dX2_init_35 : decode cX2_init 35 = .ok (.newarray .int, 2) := by decide +kernel
theorem dX2_init_37 : decode cX2_init 37 = .ok (.putfield 21, 3) := by decide +kernel
theorem dX2_init_40 : decode cX2_init 40 = .ok (.aload_n 0, 1) := by decide +kernel
theorem dX2_init_41 : decode cX2_init 41 = .ok (.sipush 800, 3) := by decide +kernel
theorem dX2_init_44 : decode cX2_init 44 = .ok (.newarray .int, 2) := by decide +kernel
theorem dX2_init_46 : decode cX2_init 46 = .ok (.putfield 24, 3) := by decide +kernel
theorem dX2_init_49 : decode cX2_init 49 = .ok (.aload_n 0, 1) := by decide +kernel
theorem dX2_init_50 : decode cX2_init 50 = .ok (.bipush 8, 2) := by decide +kernel
theorem dX2_init_52 : decode cX2_init 52 = .ok (.newarray .int, 2) := by decide +kernel
theorem dX2_init_54 : decode cX2_init 54 = .ok (.putfield 27, 3) := by decide +kernel
theorem dX2_init_57 : decode cX2_init 57 = .ok (.aload_n 0, 1) := by decide +kernel
theorem dX2_init_58 : decode cX2_init 58 = .ok (.bipush 32, 2) := by decide +kernel
theorem dX2_init_60 : decode cX2_init 60 = .ok (.newarray .int, 2) := by decide +kernel
theorem dX2_init_62 : decode cX2_init 62 = .ok (.putfield 30, 3) := by decide +kernel
theorem dX2_init_65 : decode cX2_init 65 = .ok (.return_, 1) := by decide +kernel
theorem dX2_has_0 : decode cX2_has 0 = .ok (.iload_n 1, 1) := by decide +kernel
theorem dX2_has_1 : decode cX2_has 1 = .ok (.ifCond .lt 15, 3) := by decide +kernel
theorem dX2_has_4 : decode cX2_has 4 = .ok (.iload_n 1, 1) := by decide +kernel
theorem dX2_has_5 : decode cX2_has 5 = .ok (.aload_n 0, 1) := by decide +kernel
theorem dX2_has_6 : decode cX2_has 6 = .ok (.getfield 33, 3) := by decide +kernel
theorem dX2_has_9 : decode cX2_has 9 = .ok (.if_icmp .ge 7, 3) := by decide +kernel
theorem dX2_has_12 : decode cX2_has 12 = .ok (.iconst 1, 1) := by decide +kernel
theorem dX2_has_13 : decode cX2_has 13 = .ok (.goto 4, 3) := by decide +kernel
theorem dX2_has_16 : decode cX2_has 16 = .ok (.iconst 0, 1) := by decide +kernel
theorem dX2_has_17 : decode cX2_has 17 = .ok (.ireturn, 1) := by decide +kernel
theorem dX2_root_0 : decode cX2_root 0 = .ok (.aload_n 0, 1) := by decide +kernel
theorem dX2_root_1 : decode cX2_root 1 = .ok (.getfield 27, 3) := by decide +kernel
theorem dX2_root_4 : decode cX2_root 4 = .ok (.iload_n 1, 1) := by decide +kernel
theorem dX2_root_5 : decode cX2_root 5 = .ok (.invokestatic 37, 3) := by decide +kernel
theorem dX2_root_8 : decode cX2_root 8 = .ok (.ireturn, 1) := by decide +kernel
theorem dX2_fact_0 : decode cX2_fact 0 = .ok (.aload_n 0, 1) := by decide +kernel
theorem dX2_fact_1 : decode cX2_fact 1 = .ok (.getfield 30, 3) := by decide +kernel
theorem dX2_fact_4 : decode cX2_fact 4 = .ok (.iload_n 1, 1) := by decide +kernel
theorem dX2_fact_5 : decode cX2_fact 5 = .ok (.iconst 4, 1) := by decide +kernel
theorem dX2_fact_6 : decode cX2_fact 6 = .ok (.imul, 1) := by decide +kernel
theorem dX2_fact_7 : decode cX2_fact 7 = .ok (.iload_n 2, 1) := by decide +kernel
theorem dX2_fact_8 : decode cX2_fact 8 = .ok (.iadd, 1) := by decide +kernel
theorem dX2_fact_9 : decode cX2_fact 9 = .ok (.invokestatic 37, 3) := by decide +kernel
theorem dX2_fact_12 : decode cX2_fact 12 = .ok (.ireturn, 1) := by decide +kernel
theorem dX2_kind_0 : decode cX2_kind 0 = .ok (.aload_n 0, 1) := by decide +kernel
theorem dX2_kind_1 : decode cX2_kind 1 = .ok (.getfield 9, 3) := by decide +kernel
theorem dX2_kind_4 : decode cX2_kind 4 = .ok (.iload_n 1, 1) := by decide +kernel
theorem dX2_kind_5 : decode cX2_kind 5 = .ok (.invokestatic 37, 3) := by decide +kernel
theorem dX2_kind_8 : decode cX2_kind 8 = .ok (.ireturn, 1) := by decide +kernel
theorem dX2_mark_0 : decode cX2_mark 0 = .ok (.aload_n 0, 1) := by decide +kernel
theorem dX2_mark_1 : decode cX2_mark 1 = .ok (.getfield 15, 3) := by decide +kernel
theorem dX2_mark_4 : decode cX2_mark 4 = .ok (.iload_n 1, 1) := by decide +kernel
theorem dX2_mark_5 : decode cX2_mark 5 = .ok (.invokestatic 37, 3) := by decide +kernel
theorem dX2_mark_8 : decode cX2_mark 8 = .ok (.ireturn, 1) := by decide +kernel
theorem dX2_part_0 : decode cX2_part 0 = .ok (.aload_n 0, 1) := by decide +kernel
theorem dX2_part_1 : decode cX2_part 1 = .ok (.getfield 18, 3) := by decide +kernel
theorem dX2_part_4 : decode cX2_part 4 = .ok (.iload_n 1, 1) := by decide +kernel
theorem dX2_part_5 : decode cX2_part 5 = .ok (.iconst 3, 1) := by decide +kernel
theorem dX2_part_6 : decode cX2_part 6 = .ok (.imul, 1) := by decide +kernel
theorem dX2_part_7 : decode cX2_part 7 = .ok (.iload_n 2, 1) := by decide +kernel
theorem dX2_part_8 : decode cX2_part 8 = .ok (.iadd, 1) := by decide +kernel
theorem dX2_part_9 : decode cX2_part 9 = .ok (.invokestatic 37, 3) := by decide +kernel
theorem dX2_part_12 : decode cX2_part 12 = .ok (.ireturn, 1) := by decide +kernel
theorem dX2_add_0 : decode cX2_add 0 = .ok (.aload_n 0, 1) := by decide +kernel
theorem dX2_add_1 : decode cX2_add 1 = .ok (.getfield 41, 3) := by decide +kernel
theorem dX2_add_4 : decode cX2_add 4 = .ok (.aload_n 0, 1) := by decide +kernel
theorem dX2_add_5 : decode cX2_add 5 = .ok (.getfield 9, 3) := by decide +kernel
theorem dX2_add_8 : decode cX2_add 8 = .ok (.arraylength, 1) := by decide +kernel
theorem dX2_add_9 : decode cX2_add 9 = .ok (.if_icmp .lt 5, 3) := by decide +kernel
theorem dX2_add_12 : decode cX2_add 12 = .ok (.iconst (-1), 1) := by decide +kernel
theorem dX2_add_13 : decode cX2_add 13 = .ok (.ireturn, 1) := by decide +kernel
theorem dX2_add_14 : decode cX2_add 14 = .ok (.aload_n 0, 1) := by decide +kernel
theorem dX2_add_15 : decode cX2_add 15 = .ok (.getfield 41, 3) := by decide +kernel
theorem dX2_add_18 : decode cX2_add 18 = .ok (.istore_n 3, 1) := by decide +kernel
theorem dX2_add_19 : decode cX2_add 19 = .ok (.aload_n 0, 1) := by decide +kernel
theorem dX2_add_20 : decode cX2_add 20 = .ok (.dup, 1) := by decide +kernel
theorem dX2_add_21 : decode cX2_add 21 = .ok (.getfield 41, 3) := by decide +kernel
theorem dX2_add_24 : decode cX2_add 24 = .ok (.iconst 1, 1) := by decide +kernel
theorem dX2_add_25 : decode cX2_add 25 = .ok (.iadd, 1) := by decide +kernel
theorem dX2_add_26 : decode cX2_add 26 = .ok (.putfield 41, 3) := by decide +kernel
theorem dX2_add_29 : decode cX2_add 29 = .ok (.aload_n 0, 1) := by decide +kernel
theorem dX2_add_30 : decode cX2_add 30 = .ok (.getfield 9, 3) := by decide +kernel
theorem dX2_add_33 : decode cX2_add 33 = .ok (.iload_n 3, 1) := by decide +kernel
theorem dX2_add_34 : decode cX2_add 34 = .ok (.iload_n 1, 1) := by decide +kernel
theorem dX2_add_35 : decode cX2_add 35 = .ok (.invokestatic 44, 3) := by decide +kernel
theorem dX2_add_38 : decode cX2_add 38 = .ok (.aload_n 0, 1) := by decide +kernel
theorem dX2_add_39 : decode cX2_add 39 = .ok (.getfield 15, 3) := by decide +kernel
theorem dX2_add_42 : decode cX2_add 42 = .ok (.iload_n 3, 1) := by decide +kernel
theorem dX2_add_43 : decode cX2_add 43 = .ok (.iload_n 2, 1) := by decide +kernel
theorem dX2_add_44 : decode cX2_add 44 = .ok (.invokestatic 44, 3) := by decide +kernel
theorem dX2_add_47 : decode cX2_add 47 = .ok (.iconst 0, 1) := by decide +kernel
theorem dX2_add_48 : decode cX2_add 48 = .ok (.istore 4, 2) := by decide +kernel
theorem dX2_add_50 : decode cX2_add 50 = .ok (.iload 4, 2) := by decide +kernel
theorem dX2_add_52 : decode cX2_add 52 = .ok (.iconst 3, 1) := by decide +kernel
theorem dX2_add_53 : decode cX2_add 53 = .ok (.if_icmp .ge 17, 3) := by decide +kernel
theorem dX2_add_56 : decode cX2_add 56 = .ok (.aload_n 0, 1) := by decide +kernel
theorem dX2_add_57 : decode cX2_add 57 = .ok (.iload_n 3, 1) := by decide +kernel
theorem dX2_add_58 : decode cX2_add 58 = .ok (.iload 4, 2) := by decide +kernel
theorem dX2_add_60 : decode cX2_add 60 = .ok (.iconst (-1), 1) := by decide +kernel
theorem dX2_add_61 : decode cX2_add 61 = .ok (.invokevirtual 48, 3) := by decide +kernel
theorem dX2_add_64 : decode cX2_add 64 = .ok (.iinc 4 1, 3) := by decide +kernel
theorem dX2_add_67 : decode cX2_add 67 = .ok (.goto (-17), 3) := by decide +kernel
theorem dX2_add_70 : decode cX2_add 70 = .ok (.iload_n 3, 1) := by decide +kernel
theorem dX2_add_71 : decode cX2_add 71 = .ok (.ireturn, 1) := by decide +kernel
theorem dX2_link_0 : decode cX2_link 0 = .ok (.aload_n 0, 1) := by decide +kernel
theorem dX2_link_1 : decode cX2_link 1 = .ok (.getfield 18, 3) := by decide +kernel
theorem dX2_link_4 : decode cX2_link 4 = .ok (.iload_n 1, 1) := by decide +kernel
theorem dX2_link_5 : decode cX2_link 5 = .ok (.iconst 3, 1) := by decide +kernel
theorem dX2_link_6 : decode cX2_link 6 = .ok (.imul, 1) := by decide +kernel
theorem dX2_link_7 : decode cX2_link 7 = .ok (.iload_n 2, 1) := by decide +kernel
theorem dX2_link_8 : decode cX2_link 8 = .ok (.iadd, 1) := by decide +kernel
theorem dX2_link_9 : decode cX2_link 9 = .ok (.iload_n 3, 1) := by decide +kernel
theorem dX2_link_10 : decode cX2_link 10 = .ok (.invokestatic 44, 3) := by decide +kernel
theorem dX2_link_13 : decode cX2_link 13 = .ok (.return_, 1) := by decide +kernel
theorem dX2_end_0 : decode cX2_end 0 = .ok (.aload_n 0, 1) := by decide +kernel
theorem dX2_end_1 : decode cX2_end 1 = .ok (.getfield 33, 3) := by decide +kernel
theorem dX2_end_4 : decode cX2_end 4 = .ok (.istore_n 2, 1) := by decide +kernel
theorem dX2_end_5 : decode cX2_end 5 = .ok (.aload_n 0, 1) := by decide +kernel
theorem dX2_end_6 : decode cX2_end 6 = .ok (.dup, 1) := by decide +kernel
theorem dX2_end_7 : decode cX2_end 7 = .ok (.getfield 33, 3) := by decide +kernel
theorem dX2_end_10 : decode cX2_end 10 = .ok (.iconst 1, 1) := by decide +kernel
theorem dX2_end_11 : decode cX2_end 11 = .ok (.iadd, 1) := by decide +kernel
theorem dX2_end_12 : decode cX2_end 12 = .ok (.putfield 33, 3) := by decide +kernel
theorem dX2_end_15 : decode cX2_end 15 = .ok (.aload_n 0, 1) := by decide +kernel
theorem dX2_end_16 : decode cX2_end 16 = .ok (.getfield 27, 3) := by decide +kernel
theorem dX2_end_19 : decode cX2_end 19 = .ok (.iload_n 2, 1) := by decide +kernel
theorem dX2_end_20 : decode cX2_end 20 = .ok (.iload_n 1, 1) := by decide +kernel
theorem dX2_end_21 : decode cX2_end 21 = .ok (.invokestatic 44, 3) := by decide +kernel
theorem dX2_end_24 : decode cX2_end 24 = .ok (.aload_n 0, 1) := by decide +kernel
theorem dX2_end_25 : decode cX2_end 25 = .ok (.getfield 21, 3) := by decide +kernel
theorem dX2_end_28 : decode cX2_end 28 = .ok (.iload_n 1, 1) := by decide +kernel
theorem dX2_end_29 : decode cX2_end 29 = .ok (.iconst 1, 1) := by decide +kernel
theorem dX2_end_30 : decode cX2_end 30 = .ok (.invokestatic 44, 3) := by decide +kernel
theorem dX2_end_33 : decode cX2_end 33 = .ok (.aload_n 0, 1) := by decide +kernel
theorem dX2_end_34 : decode cX2_end 34 = .ok (.getfield 24, 3) := by decide +kernel
theorem dX2_end_37 : decode cX2_end 37 = .ok (.iload_n 1, 1) := by decide +kernel
theorem dX2_end_38 : decode cX2_end 38 = .ok (.iconst 1, 1) := by decide +kernel
theorem dX2_end_39 : decode cX2_end 39 = .ok (.invokestatic 44, 3) := by decide +kernel
theorem dX2_end_42 : decode cX2_end 42 = .ok (.iload_n 1, 1) := by decide +kernel
theorem dX2_end_43 : decode cX2_end 43 = .ok (.istore_n 3, 1) := by decide +kernel
theorem dX2_end_44 : decode cX2_end 44 = .ok (.iload_n 3, 1) := by decide +kernel
theorem dX2_end_45 : decode cX2_end 45 = .ok (.aload_n 0, 1) := by decide +kernel
theorem dX2_end_46 : decode cX2_end 46 = .ok (.getfield 41, 3) := by decide +kernel
theorem dX2_end_49 : decode cX2_end 49 = .ok (.if_icmp .ge 20, 3) := by decide +kernel
theorem dX2_end_52 : decode cX2_end 52 = .ok (.aload_n 0, 1) := by decide +kernel
theorem dX2_end_53 : decode cX2_end 53 = .ok (.iload_n 3, 1) := by decide +kernel
theorem dX2_end_54 : decode cX2_end 54 = .ok (.invokevirtual 52, 3) := by decide +kernel
theorem dX2_end_57 : decode cX2_end 57 = .ok (.aload_n 0, 1) := by decide +kernel
theorem dX2_end_58 : decode cX2_end 58 = .ok (.iload_n 2, 1) := by decide +kernel
theorem dX2_end_59 : decode cX2_end 59 = .ok (.iload_n 3, 1) := by decide +kernel
theorem dX2_end_60 : decode cX2_end 60 = .ok (.invokevirtual 56, 3) := by decide +kernel
theorem dX2_end_63 : decode cX2_end 63 = .ok (.iinc 3 1, 3) := by decide +kernel
theorem dX2_end_66 : decode cX2_end 66 = .ok (.goto (-22), 3) := by decide +kernel
theorem dX2_end_69 : decode cX2_end 69 = .ok (.iload_n 2, 1) := by decide +kernel
theorem dX2_end_70 : decode cX2_end 70 = .ok (.ireturn, 1) := by decide +kernel
theorem dX2_handDown_0 : decode cX2_handDown 0 = .ok (.iconst 0, 1) := by decide +kernel
theorem dX2_handDown_1 : decode cX2_handDown 1 = .ok (.istore_n 2, 1) := by decide +kernel
theorem dX2_handDown_2 : decode cX2_handDown 2 = .ok (.iload_n 2, 1) := by decide +kernel
theorem dX2_handDown_3 : decode cX2_handDown 3 = .ok (.iconst 3, 1) := by decide +kernel
theorem dX2_handDown_4 : decode cX2_handDown 4 = .ok (.if_icmp .ge 85, 3) := by decide +kernel
theorem dX2_handDown_7 : decode cX2_handDown 7 = .ok (.aload_n 0, 1) := by decide +kernel
theorem dX2_handDown_8 : decode cX2_handDown 8 = .ok (.iload_n 1, 1) := by decide +kernel
theorem dX2_handDown_9 : decode cX2_handDown 9 = .ok (.iload_n 2, 1) := by decide +kernel
theorem dX2_handDown_10 : decode cX2_handDown 10 = .ok (.invokevirtual 60, 3) := by decide +kernel
theorem dX2_handDown_13 : decode cX2_handDown 13 = .ok (.istore_n 3, 1) := by decide +kernel
theorem dX2_handDown_14 : decode cX2_handDown 14 = .ok (.iload_n 3, 1) := by decide +kernel
theorem dX2_handDown_15 : decode cX2_handDown 15 = .ok (.ifCond .lt 68, 3) := by decide +kernel
theorem dX2_handDown_18 : decode cX2_handDown 18 = .ok (.aload_n 0, 1) := by decide +kernel
theorem dX2_handDown_19 : decode cX2_handDown 19 = .ok (.getfield 21, 3) := by decide +kernel
theorem dX2_handDown_22 : decode cX2_handDown 22 = .ok (.iload_n 3, 1) := by decide +kernel
theorem dX2_handDown_23 : decode cX2_handDown 23 = .ok (.aload_n 0, 1) := by decide +kernel
theorem dX2_handDown_24 : decode cX2_handDown 24 = .ok (.getfield 21, 3) := by decide +kernel
theorem dX2_handDown_27 : decode cX2_handDown 27 = .ok (.iload_n 1, 1) := by decide +kernel
theorem dX2_handDown_28 : decode cX2_handDown 28 = .ok (.invokestatic 37, 3) := by decide +kernel
theorem dX2_handDown_31 : decode cX2_handDown 31 = .ok (.aload_n 0, 1) := by decide +kernel
theorem dX2_handDown_32 : decode cX2_handDown 32 = .ok (.iload_n 3, 1) := by decide +kernel
theorem dX2_handDown_33 : decode cX2_handDown 33 = .ok (.invokevirtual 64, 3) := by decide +kernel
theorem dX2_handDown_36 : decode cX2_handDown 36 = .ok (.bipush 14, 2) := by decide +kernel
theorem dX2_handDown_38 : decode cX2_handDown 38 = .ok (.if_icmp .ne 7, 3) := by decide +kernel
theorem dX2_handDown_41 : decode cX2_handDown 41 = .ok (.iconst 0, 1) := by decide +kernel
theorem dX2_handDown_42 : decode cX2_handDown 42 = .ok (.goto 4, 3) := by decide +kernel
theorem dX2_handDown_45 : decode cX2_handDown 45 = .ok (.iconst 1, 1) := by decide +kernel
theorem dX2_handDown_46 : decode cX2_handDown 46 = .ok (.iadd, 1) := by decide +kernel
theorem dX2_handDown_47 : decode cX2_handDown 47 = .ok (.invokestatic 44, 3) := by decide +kernel
theorem dX2_handDown_50 : decode cX2_handDown 50 = .ok (.aload_n 0, 1) := by decide +kernel
theorem dX2_handDown_51 : decode cX2_handDown 51 = .ok (.getfield 24, 3) := by decide +kernel
theorem dX2_handDown_54 : decode cX2_handDown 54 = .ok (.iload_n 3, 1) := by decide +kernel
theorem dX2_handDown_55 : decode cX2_handDown 55 = .ok (.aload_n 0, 1) := by decide +kernel
theorem dX2_handDown_56 : decode cX2_handDown 56 = .ok (.getfield 24, 3) := by decide +kernel
theorem dX2_handDown_59 : decode cX2_handDown 59 = .ok (.iload_n 1, 1) := by decide +kernel
theorem dX2_handDown_60 : decode cX2_handDown 60 = .ok (.invokestatic 37, 3) := by decide +kernel
theorem dX2_handDown_63 : decode cX2_handDown 63 = .ok (.ifCond .eq 16, 3) := by decide +kernel
theorem dX2_handDown_66 : decode cX2_handDown 66 = .ok (.aload_n 0, 1) := by decide +kernel
theorem dX2_handDown_67 : decode cX2_handDown 67 = .ok (.iload_n 1, 1) := by decide +kernel
theorem dX2_handDown_68 : decode cX2_handDown 68 = .ok (.iload_n 2, 1) := by decide +kernel
theorem dX2_handDown_69 : decode cX2_handDown 69 = .ok (.invokevirtual 68, 3) := by decide +kernel
theorem dX2_handDown_72 : decode cX2_handDown 72 = .ok (.ifCond .eq 7, 3) := by decide +kernel
theorem dX2_handDown_75 : decode cX2_handDown 75 = .ok (.iconst 1, 1) := by decide +kernel
theorem dX2_handDown_76 : decode cX2_handDown 76 = .ok (.goto 4, 3) := by decide +kernel
theorem dX2_handDown_79 : decode cX2_handDown 79 = .ok (.iconst 0, 1) := by decide +kernel
theorem dX2_handDown_80 : decode cX2_handDown 80 = .ok (.invokestatic 44, 3) := by decide +kernel
theorem dX2_handDown_83 : decode cX2_handDown 83 = .ok (.iinc 2 1, 3) := by decide +kernel
theorem dX2_handDown_86 : decode cX2_handDown 86 = .ok (.goto (-84), 3) := by decide +kernel
theorem dX2_handDown_89 : decode cX2_handDown 89 = .ok (.return_, 1) := by decide +kernel
theorem dX2_isLast_0 : decode cX2_isLast 0 = .ok (.aload_n 0, 1) := by decide +kernel
theorem dX2_isLast_1 : decode cX2_isLast 1 = .ok (.iload_n 1, 1) := by decide +kernel
theorem dX2_isLast_2 : decode cX2_isLast 2 = .ok (.invokevirtual 64, 3) := by decide +kernel
theorem dX2_isLast_5 : decode cX2_isLast 5 = .ok (.tableswitch 114 1 14 #[71, 81, 92, 114, 114, 114, 114, 114, 114, 114, 114, 114, 112, 92], 71) := by decide +kernel
theorem dX2_isLast_76 : decode cX2_isLast 76 = .ok (.iload_n 2, 1) := by decide +kernel
theorem dX2_isLast_77 : decode cX2_isLast 77 = .ok (.ifCond .le 7, 3) := by decide +kernel
theorem dX2_isLast_80 : decode cX2_isLast 80 = .ok (.iconst 1, 1) := by decide +kernel
theorem dX2_isLast_81 : decode cX2_isLast 81 = .ok (.goto 4, 3) := by decide +kernel
theorem dX2_isLast_84 : decode cX2_isLast 84 = .ok (.iconst 0, 1) := by decide +kernel
theorem dX2_isLast_85 : decode cX2_isLast 85 = .ok (.ireturn, 1) := by decide +kernel
theorem dX2_isLast_86 : decode cX2_isLast 86 = .ok (.iload_n 2, 1) := by decide +kernel
theorem dX2_isLast_87 : decode cX2_isLast 87 = .ok (.iconst 1, 1) := by decide +kernel
theorem dX2_isLast_88 : decode cX2_isLast 88 = .ok (.if_icmp .ne 7, 3) := by decide +kernel
theorem dX2_isLast_91 : decode cX2_isLast 91 = .ok (.iconst 1, 1) := by decide +kernel
theorem dX2_isLast_92 : decode cX2_isLast 92 = .ok (.goto 4, 3) := by decide +kernel
theorem dX2_isLast_95 : decode cX2_isLast 95 = .ok (.iconst 0, 1) := by decide +kernel
theorem dX2_isLast_96 : decode cX2_isLast 96 = .ok (.ireturn, 1) := by decide +kernel
theorem dX2_isLast_97 : decode cX2_isLast 97 = .ok (.iload_n 2, 1) := by decide +kernel
theorem dX2_isLast_98 : decode cX2_isLast 98 = .ok (.iconst 1, 1) := by decide +kernel
theorem dX2_isLast_99 : decode cX2_isLast 99 = .ok (.if_icmp .eq 12, 3) := by decide +kernel
theorem dX2_isLast_102 : decode cX2_isLast 102 = .ok (.aload_n 0, 1) := by decide +kernel
theorem dX2_isLast_103 : decode cX2_isLast 103 = .ok (.iload_n 1, 1) := by decide +kernel
theorem dX2_isLast_104 : decode cX2_isLast 104 = .ok (.iconst 1, 1) := by decide +kernel
theorem dX2_isLast_105 : decode cX2_isLast 105 = .ok (.invokevirtual 60, 3) := by decide +kernel
theorem dX2_isLast_108 : decode cX2_isLast 108 = .ok (.ifCond .ge 7, 3) := by decide +kernel
theorem dX2_isLast_111 : decode cX2_isLast 111 = .ok (.iconst 1, 1) := by decide +kernel
theorem dX2_isLast_112 : decode cX2_isLast 112 = .ok (.goto 4, 3) := by decide +kernel
theorem dX2_isLast_115 : decode cX2_isLast 115 = .ok (.iconst 0, 1) := by decide +kernel
theorem dX2_isLast_116 : decode cX2_isLast 116 = .ok (.ireturn, 1) := by decide +kernel
theorem dX2_isLast_117 : decode cX2_isLast 117 = .ok (.iconst 1, 1) := by decide +kernel
theorem dX2_isLast_118 : decode cX2_isLast 118 = .ok (.ireturn, 1) := by decide +kernel
theorem dX2_isLast_119 : decode cX2_isLast 119 = .ok (.iconst 0, 1) := by decide +kernel
theorem dX2_isLast_120 : decode cX2_isLast 120 = .ok (.ireturn, 1) := by decide +kernel
theorem dX2_countIn_0 : decode cX2_countIn 0 = .ok (.aload_n 0, 1) := by decide +kernel
theorem dX2_countIn_1 : decode cX2_countIn 1 = .ok (.iload_n 2, 1) := by decide +kernel
theorem dX2_countIn_2 : decode cX2_countIn 2 = .ok (.invokevirtual 64, 3) := by decide +kernel
theorem dX2_countIn_5 : decode cX2_countIn 5 = .ok (.istore_n 3, 1) := by decide +kernel
theorem dX2_countIn_6 : decode cX2_countIn 6 = .ok (.iload_n 1, 1) := by decide +kernel
theorem dX2_countIn_7 : decode cX2_countIn 7 = .ok (.iconst 4, 1) := by decide +kernel
theorem dX2_countIn_8 : decode cX2_countIn 8 = .ok (.imul, 1) := by decide +kernel
theorem dX2_countIn_9 : decode cX2_countIn 9 = .ok (.istore 4, 2) := by decide +kernel
theorem dX2_countIn_11 : decode cX2_countIn 11 = .ok (.aload_n 0, 1) := by decide +kernel
theorem dX2_countIn_12 : decode cX2_countIn 12 = .ok (.getfield 30, 3) := by decide +kernel
theorem dX2_countIn_15 : decode cX2_countIn 15 = .ok (.iload 4, 2) := by decide +kernel
theorem dX2_countIn_17 : decode cX2_countIn 17 = .ok (.aload_n 0, 1) := by decide +kernel
theorem dX2_countIn_18 : decode cX2_countIn 18 = .ok (.getfield 30, 3) := by decide +kernel
theorem dX2_countIn_21 : decode cX2_countIn 21 = .ok (.iload 4, 2) := by decide +kernel
theorem dX2_countIn_23 : decode cX2_countIn 23 = .ok (.invokestatic 37, 3) := by decide +kernel
theorem dX2_countIn_26 : decode cX2_countIn 26 = .ok (.iload_n 3, 1) := by decide +kernel
theorem dX2_countIn_27 : decode cX2_countIn 27 = .ok (.bipush 14, 2) := by decide +kernel
theorem dX2_countIn_29 : decode cX2_countIn 29 = .ok (.if_icmp .ne 7, 3) := by decide +kernel
theorem dX2_countIn_32 : decode cX2_countIn 32 = .ok (.iconst 0, 1) := by decide +kernel
theorem dX2_countIn_33 : decode cX2_countIn 33 = .ok (.goto 4, 3) := by decide +kernel
theorem dX2_countIn_36 : decode cX2_countIn 36 = .ok (.iconst 1, 1) := by decide +kernel
theorem dX2_countIn_37 : decode cX2_countIn 37 = .ok (.iadd, 1) := by decide +kernel
theorem dX2_countIn_38 : decode cX2_countIn 38 = .ok (.invokestatic 44, 3) := by decide +kernel
theorem dX2_countIn_41 : decode cX2_countIn 41 = .ok (.aload_n 0, 1) := by decide +kernel
theorem dX2_countIn_42 : decode cX2_countIn 42 = .ok (.getfield 30, 3) := by decide +kernel
theorem dX2_countIn_45 : decode cX2_countIn 45 = .ok (.iload 4, 2) := by decide +kernel
theorem dX2_countIn_47 : decode cX2_countIn 47 = .ok (.iconst 1, 1) := by decide +kernel
theorem dX2_countIn_48 : decode cX2_countIn 48 = .ok (.iadd, 1) := by decide +kernel
theorem dX2_countIn_49 : decode cX2_countIn 49 = .ok (.aload_n 0, 1) := by decide +kernel
theorem dX2_countIn_50 : decode cX2_countIn 50 = .ok (.getfield 30, 3) := by decide +kernel
theorem dX2_countIn_53 : decode cX2_countIn 53 = .ok (.iload 4, 2) := by decide +kernel
theorem dX2_countIn_55 : decode cX2_countIn 55 = .ok (.iconst 1, 1) := by decide +kernel
theorem dX2_countIn_56 : decode cX2_countIn 56 = .ok (.iadd, 1) := by decide +kernel
theorem dX2_countIn_57 : decode cX2_countIn 57 = .ok (.invokestatic 37, 3) := by decide +kernel
theorem dX2_countIn_60 : decode cX2_countIn 60 = .ok (.aload_n 0, 1) := by decide +kernel
theorem dX2_countIn_61 : decode cX2_countIn 61 = .ok (.getfield 21, 3) := by decide +kernel
theorem dX2_countIn_64 : decode cX2_countIn 64 = .ok (.iload_n 2, 1) := by decide +kernel
theorem dX2_countIn_65 : decode cX2_countIn 65 = .ok (.invokestatic 37, 3) := by decide +kernel
theorem dX2_countIn_68 : decode cX2_countIn 68 = .ok (.invokestatic 72, 3) := by decide +kernel
theorem dX2_countIn_71 : decode cX2_countIn 71 = .ok (.invokestatic 44, 3) := by decide +kernel
theorem dX2_countIn_74 : decode cX2_countIn 74 = .ok (.aload_n 0, 1) := by decide +kernel
theorem dX2_countIn_75 : decode cX2_countIn 75 = .ok (.getfield 30, 3) := by decide +kernel
theorem dX2_countIn_78 : decode cX2_countIn 78 = .ok (.iload 4, 2) := by decide +kernel
theorem dX2_countIn_80 : decode cX2_countIn 80 = .ok (.iconst 2, 1) := by decide +kernel
theorem dX2_countIn_81 : decode cX2_countIn 81 = .ok (.iadd, 1) := by decide +kernel
theorem dX2_countIn_82 : decode cX2_countIn 82 = .ok (.aload_n 0, 1) := by decide +kernel
theorem dX2_countIn_83 : decode cX2_countIn 83 = .ok (.getfield 30, 3) := by decide +kernel
theorem dX2_countIn_86 : decode cX2_countIn 86 = .ok (.iload 4, 2) := by decide +kernel
theorem dX2_countIn_88 : decode cX2_countIn 88 = .ok (.iconst 2, 1) := by decide +kernel
theorem dX2_countIn_89 : decode cX2_countIn 89 = .ok (.iadd, 1) := by decide +kernel
theorem dX2_countIn_90 : decode cX2_countIn 90 = .ok (.invokestatic 37, 3) := by decide +kernel
theorem dX2_countIn_93 : decode cX2_countIn 93 = .ok (.iload_n 3, 1) := by decide +kernel
theorem dX2_countIn_94 : decode cX2_countIn 94 = .ok (.bipush 13, 2) := by decide +kernel
theorem dX2_countIn_96 : decode cX2_countIn 96 = .ok (.if_icmp .ne 7, 3) := by decide +kernel
theorem dX2_countIn_99 : decode cX2_countIn 99 = .ok (.iconst 1, 1) := by decide +kernel
theorem dX2_countIn_100 : decode cX2_countIn 100 = .ok (.goto 4, 3) := by decide +kernel
theorem dX2_countIn_103 : decode cX2_countIn 103 = .ok (.iconst 0, 1) := by decide +kernel
theorem dX2_countIn_104 : decode cX2_countIn 104 = .ok (.iadd, 1) := by decide +kernel
theorem dX2_countIn_105 : decode cX2_countIn 105 = .ok (.invokestatic 44, 3) := by decide +kernel
theorem dX2_countIn_108 : decode cX2_countIn 108 = .ok (.aload_n 0, 1) := by decide +kernel
theorem dX2_countIn_109 : decode cX2_countIn 109 = .ok (.getfield 30, 3) := by decide +kernel
theorem dX2_countIn_112 : decode cX2_countIn 112 = .ok (.iload 4, 2) := by decide +kernel
theorem dX2_countIn_114 : decode cX2_countIn 114 = .ok (.iconst 3, 1) := by decide +kernel
theorem dX2_countIn_115 : decode cX2_countIn 115 = .ok (.iadd, 1) := by decide +kernel
theorem dX2_countIn_116 : decode cX2_countIn 116 = .ok (.aload_n 0, 1) := by decide +kernel
theorem dX2_countIn_117 : decode cX2_countIn 117 = .ok (.getfield 30, 3) := by decide +kernel
theorem dX2_countIn_120 : decode cX2_countIn 120 = .ok (.iload 4, 2) := by decide +kernel
theorem dX2_countIn_122 : decode cX2_countIn 122 = .ok (.iconst 3, 1) := by decide +kernel
theorem dX2_countIn_123 : decode cX2_countIn 123 = .ok (.iadd, 1) := by decide +kernel
theorem dX2_countIn_124 : decode cX2_countIn 124 = .ok (.invokestatic 37, 3) := by decide +kernel
theorem dX2_countIn_127 : decode cX2_countIn 127 = .ok (.iload_n 3, 1) := by decide +kernel
theorem dX2_countIn_128 : decode cX2_countIn 128 = .ok (.iconst 4, 1) := by decide +kernel
theorem dX2_countIn_129 : decode cX2_countIn 129 = .ok (.if_icmp .ne 14, 3) := by decide +kernel
theorem dX2_countIn_132 : decode cX2_countIn 132 = .ok (.aload_n 0, 1) := by decide +kernel
theorem dX2_countIn_133 : decode cX2_countIn 133 = .ok (.getfield 24, 3) := by decide +kernel
theorem dX2_countIn_136 : decode cX2_countIn 136 = .ok (.iload_n 2, 1) := by decide +kernel
theorem dX2_countIn_137 : decode cX2_countIn 137 = .ok (.invokestatic 37, 3) := by decide +kernel
theorem dX2_countIn_140 : decode cX2_countIn 140 = .ok (.goto 4, 3) := by decide +kernel
theorem dX2_countIn_143 : decode cX2_countIn 143 = .ok (.iconst 0, 1) := by decide +kernel
theorem dX2_countIn_144 : decode cX2_countIn 144 = .ok (.iadd, 1) := by decide +kernel
theorem dX2_countIn_145 : decode cX2_countIn 145 = .ok (.invokestatic 44, 3) := by decide +kernel
theorem dX2_countIn_148 : decode cX2_countIn 148 = .ok (.return_, 1) := by decide +kernel
theorem dX3_init_0 : decode cX3_init 0 = .ok (.aload_n 0, 1) := by decide +kernel
theorem dX3_init_1 : decode cX3_init 1 = .ok (.invokespecial 3, 3) := by decide +kernel
theorem dX3_init_4 : decode cX3_init 4 = .ok (.aload_n 0, 1) := by decide +kernel
theorem dX3_init_5 : decode cX3_init 5 = .ok (.new 9, 3) := by decide +kernel
theorem dX3_init_8 : decode cX3_init 8 = .ok (.dup, 1) := by decide +kernel
theorem dX3_init_9 : decode cX3_init 9 = .ok (.invokespecial 11, 3) := by decide +kernel
theorem dX3_init_12 : decode cX3_init 12 = .ok (.putfield 12, 3) := by decide +kernel
theorem dX3_init_15 : decode cX3_init 15 = .ok (.aload_n 0, 1) := by decide +kernel
theorem dX3_init_16 : decode cX3_init 16 = .ok (.new 18, 3) := by decide +kernel
theorem dX3_init_19 : decode cX3_init 19 = .ok (.dup, 1) := by decide +kernel
theorem dX3_init_20 : decode cX3_init 20 = .ok (.invokespecial 20, 3) := by decide +kernel
theorem dX3_init_23 : decode cX3_init 23 = .ok (.putfield 21, 3) := by decide +kernel
theorem dX3_init_26 : decode cX3_init 26 = .ok (.aload_n 0, 1) := by decide +kernel
theorem dX3_init_27 : decode cX3_init 27 = .ok (.new 25, 3) := by decide +kernel
theorem dX3_init_30 : decode cX3_init 30 = .ok (.dup, 1) := by decide +kernel
theorem dX3_init_31 : decode cX3_init 31 = .ok (.invokespecial 27, 3) := by decide +kernel
theorem dX3_init_34 : decode cX3_init 34 = .ok (.putfield 28, 3) := by decide +kernel
theorem dX3_init_37 : decode cX3_init 37 = .ok (.aload_n 0, 1) := by decide +kernel
theorem dX3_init_38 : decode cX3_init 38 = .ok (.new 32, 3) := by decide +kernel
theorem dX3_init_41 : decode cX3_init 41 = .ok (.dup, 1) := by decide +kernel
theorem dX3_init_42 : decode cX3_init 42 = .ok (.invokespecial 34, 3) := by decide +kernel
theorem dX3_init_45 : decode cX3_init 45 = .ok (.putfield 35, 3) := by decide +kernel
theorem dX3_init_48 : decode cX3_init 48 = .ok (.aload_n 0, 1) := by decide +kernel
theorem dX3_init_49 : decode cX3_init 49 = .ok (.sipush 301, 3) := by decide +kernel
theorem dX3_init_52 : decode cX3_init 52 = .ok (.newarray .int, 2) := by decide +kernel
theorem dX3_init_54 : decode cX3_init 54 = .ok (.putfield 39, 3) := by decide +kernel
theorem dX3_init_57 : decode cX3_init 57 = .ok (.aload_n 0, 1) := by decide +kernel
theorem dX3_init_58 : decode cX3_init 58 = .ok (.sipush 301, 3) := by decide +kernel
theorem dX3_init_61 : decode cX3_init 61 = .ok (.newarray .int, 2) := by decide +kernel
theorem dX3_init_63 : decode cX3_init 63 = .ok (.putfield 43, 3) := by decide +kernel
theorem dX3_init_66 : decode cX3_init 66 = .ok (.aload_n 0, 1) := by decide +kernel
theorem dX3_init_67 : decode cX3_init 67 = .ok (.aload_n 1, 1) := by decide +kernel
theorem dX3_init_68 : decode cX3_init 68 = .ok (.putfield 46, 3) := by decide +kernel
theorem dX3_init_71 : decode cX3_init 71 = .ok (.aload_n 0, 1) := by decide +kernel
theorem dX3_init_72 : decode cX3_init 72 = .ok (.aload_n 2, 1) := by decide +kernel
theorem dX3_init_73 : decode cX3_init 73 = .ok (.putfield 50, 3) := by decide +kernel
theorem dX3_init_76 : decode cX3_init 76 = .ok (.return_, 1) := by decide +kernel
theorem dX3_start_0 : decode cX3_start 0 = .ok (.aload_n 0, 1) := by decide +kernel
theorem dX3_start_1 : decode cX3_start 1 = .ok (.getfield 12, 3) := by decide +kernel
theorem dX3_start_4 : decode cX3_start 4 = .ok (.invokevirtual 54, 3) := by decide +kernel
theorem dX3_start_7 : decode cX3_start 7 = .ok (.aload_n 0, 1) := by decide +kernel
theorem dX3_start_8 : decode cX3_start 8 = .ok (.getfield 21, 3) := by decide +kernel
theorem dX3_start_11 : decode cX3_start 11 = .ok (.invokevirtual 57, 3) := by decide +kernel
theorem dX3_start_14 : decode cX3_start 14 = .ok (.aload_n 0, 1) := by decide +kernel
theorem dX3_start_15 : decode cX3_start 15 = .ok (.getfield 28, 3) := by decide +kernel
theorem dX3_start_18 : decode cX3_start 18 = .ok (.invokevirtual 58, 3) := by decide +kernel
theorem dX3_start_21 : decode cX3_start 21 = .ok (.aload_n 0, 1) := by decide +kernel
theorem dX3_start_22 : decode cX3_start 22 = .ok (.getfield 35, 3) := by decide +kernel
theorem dX3_start_25 : decode cX3_start 25 = .ok (.invokevirtual 59, 3) := by decide +kernel
theorem dX3_start_28 : decode cX3_start 28 = .ok (.aload_n 0, 1) := by decide +kernel
theorem dX3_start_29 : decode cX3_start 29 = .ok (.iconst 0, 1) := by decide +kernel
theorem dX3_start_30 : decode cX3_start 30 = .ok (.putfield 60, 3) := by decide +kernel
theorem dX3_start_33 : decode cX3_start 33 = .ok (.aload_n 0, 1) := by decide +kernel
theorem dX3_start_34 : decode cX3_start 34 = .ok (.iconst 0, 1) := by decide +kernel
theorem dX3_start_35 : decode cX3_start 35 = .ok (.putfield 64, 3) := by decide +kernel
theorem dX3_start_38 : decode cX3_start 38 = .ok (.aload_n 0, 1) := by decide +kernel
theorem dX3_start_39 : decode cX3_start 39 = .ok (.aload_n 0, 1) := by decide +kernel
theorem dX3_start_40 : decode cX3_start 40 = .ok (.getfield 46, 3) := by decide +kernel
theorem dX3_start_43 : decode cX3_start 43 = .ok (.iload_n 1, 1) := by decide +kernel
theorem dX3_start_44 : decode cX3_start 44 = .ok (.invokevirtual 68, 3) := by decide +kernel
theorem dX3_start_47 : decode cX3_start 47 = .ok (.putfield 74, 3) := by decide +kernel
theorem dX3_start_50 : decode cX3_start 50 = .ok (.aload_n 0, 1) := by decide +kernel
theorem dX3_start_51 : decode cX3_start 51 = .ok (.iconst 0, 1) := by decide +kernel
theorem dX3_start_52 : decode cX3_start 52 = .ok (.putfield 77, 3) := by decide +kernel
theorem dX3_start_55 : decode cX3_start 55 = .ok (.aload_n 0, 1) := by decide +kernel
theorem dX3_start_56 : decode cX3_start 56 = .ok (.iconst 0, 1) := by decide +kernel
theorem dX3_start_57 : decode cX3_start 57 = .ok (.putfield 80, 3) := by decide +kernel
theorem dX3_start_60 : decode cX3_start 60 = .ok (.aload_n 0, 1) := by decide +kernel
theorem dX3_start_61 : decode cX3_start 61 = .ok (.iconst 0, 1) := by decide +kernel
theorem dX3_start_62 : decode cX3_start 62 = .ok (.putfield 83, 3) := by decide +kernel
theorem dX3_start_65 : decode cX3_start 65 = .ok (.return_, 1) := by decide +kernel
theorem dX3_move_0 : decode cX3_move 0 = .ok (.iconst 0, 1) := by decide +kernel
theorem dX3_move_1 : decode cX3_move 1 = .ok (.istore_n 2, 1) := by decide +kernel
theorem dX3_move_2 : decode cX3_move 2 = .ok (.iload_n 2, 1) := by decide +kernel
theorem dX3_move_3 : decode cX3_move 3 = .ok (.iload_n 1, 1) := by decide +kernel
theorem dX3_move_4 : decode cX3_move 4 = .ok (.if_icmp .ge 86, 3) := by decide +kernel
theorem dX3_move_7 : decode cX3_move 7 = .ok (.aload_n 0, 1) := by decide +kernel
theorem dX3_move_8 : decode cX3_move 8 = .ok (.getfield 12, 3) := by decide +kernel
theorem dX3_move_11 : decode cX3_move 11 = .ok (.getfield 86, 3) := by decide +kernel
theorem dX3_move_14 : decode cX3_move 14 = .ok (.bipush (-5), 2) := by decide +kernel
theorem dX3_move_16 : decode cX3_move 16 = .ok (.if_icmp .ne 74, 3) := by decide +kernel
theorem dX3_move_19 : decode cX3_move 19 = .ok (.iinc 2 1, 3) := by decide +kernel
theorem dX3_move_22 : decode cX3_move 22 = .ok (.aload_n 0, 1) := by decide +kernel
theorem dX3_move_23 : decode cX3_move 23 = .ok (.getfield 12, 3) := by decide +kernel
theorem dX3_move_26 : decode cX3_move 26 = .ok (.dup, 1) := by decide +kernel
theorem dX3_move_27 : decode cX3_move 27 = .ok (.getfield 89, 3) := by decide +kernel
theorem dX3_move_30 : decode cX3_move 30 = .ok (.iconst 1, 1) := by decide +kernel
theorem dX3_move_31 : decode cX3_move 31 = .ok (.iadd, 1) := by decide +kernel
theorem dX3_move_32 : decode cX3_move 32 = .ok (.putfield 89, 3) := by decide +kernel
theorem dX3_move_35 : decode cX3_move 35 = .ok (.aload_n 0, 1) := by decide +kernel
theorem dX3_move_36 : decode cX3_move 36 = .ok (.getfield 64, 3) := by decide +kernel
theorem dX3_move_39 : decode cX3_move 39 = .ok (.ifCond .eq 10, 3) := by decide +kernel
theorem dX3_move_42 : decode cX3_move 42 = .ok (.aload_n 0, 1) := by decide +kernel
theorem dX3_move_43 : decode cX3_move 43 = .ok (.invokevirtual 92, 3) := by decide +kernel
theorem dX3_move_46 : decode cX3_move 46 = .ok (.goto 7, 3) := by decide +kernel
theorem dX3_move_49 : decode cX3_move 49 = .ok (.aload_n 0, 1) := by decide +kernel
theorem dX3_move_50 : decode cX3_move 50 = .ok (.invokevirtual 95, 3) := by decide +kernel
theorem dX3_move_53 : decode cX3_move 53 = .ok (.aload_n 0, 1) := by decide +kernel
theorem dX3_move_54 : decode cX3_move 54 = .ok (.getfield 12, 3) := by decide +kernel
theorem dX3_move_57 : decode cX3_move 57 = .ok (.getfield 86, 3) := by decide +kernel
theorem dX3_move_60 : decode cX3_move 60 = .ok (.bipush (-5), 2) := by decide +kernel
theorem dX3_move_62 : decode cX3_move 62 = .ok (.if_icmp .ne (-60), 3) := by decide +kernel
theorem dX3_move_65 : decode cX3_move 65 = .ok (.aload_n 0, 1) := by decide +kernel
theorem dX3_move_66 : decode cX3_move 66 = .ok (.getfield 12, 3) := by decide +kernel
theorem dX3_move_69 : decode cX3_move 69 = .ok (.getfield 89, 3) := by decide +kernel
theorem dX3_move_72 : decode cX3_move 72 = .ok (.sipush 300, 3) := by decide +kernel
theorem dX3_move_75 : decode cX3_move 75 = .ok (.if_icmp .lt (-73), 3) := by decide +kernel
theorem dX3_move_78 : decode cX3_move 78 = .ok (.aload_n 0, 1) := by decide +kernel
theorem dX3_move_79 : decode cX3_move 79 = .ok (.getfield 12, 3) := by decide +kernel
theorem dX3_move_82 : decode cX3_move 82 = .ok (.bipush 8, 2) := by decide +kernel
theorem dX3_move_84 : decode cX3_move 84 = .ok (.putfield 86, 3) := by decide +kernel
theorem dX3_move_87 : decode cX3_move 87 = .ok (.goto (-85), 3) := by decide +kernel
theorem dX3_move_90 : decode cX3_move 90 = .ok (.iload_n 2, 1) := by decide +kernel
theorem dX3_move_91 : decode cX3_move 91 = .ok (.ireturn, 1) := by decide +kernel
theorem dX3_state_0 : decode cX3_state 0 = .ok (.aload_n 0, 1) := by decide +kernel
theorem dX3_state_1 : decode cX3_state 1 = .ok (.getfield 12, 3) := by decide +kernel
theorem dX3_state_4 : decode cX3_state 4 = .ok (.getfield 86, 3) := by decide +kernel
theorem dX3_state_7 : decode cX3_state 7 = .ok (.bipush (-5), 2) := by decide +kernel
theorem dX3_state_9 : decode cX3_state 9 = .ok (.if_icmp .eq 7, 3) := by decide +kernel
theorem dX3_state_12 : decode cX3_state 12 = .ok (.ldc2_w 98, 3) := by decide +kernel
theorem dX3_state_15 : decode cX3_state 15 = .ok (.lreturn, 1) := by decide +kernel
theorem dX3_state_16 : decode cX3_state 16 = .ok (.iload_n 1, 1) := by decide +kernel
theorem dX3_state_17 : decode cX3_state 17 = .ok (.tableswitch 96 5 8 #[31, 44, 57, 70], 31) := by decide +kernel
theorem dX3_state_48 : decode cX3_state 48 = .ok (.aload_n 0, 1) := by decide +kernel
theorem dX3_state_49 : decode cX3_state 49 = .ok (.getfield 28, 3) := by decide +kernel
theorem dX3_state_52 : decode cX3_state 52 = .ok (.aload_n 0, 1) := by decide +kernel
theorem dX3_state_53 : decode cX3_state 53 = .ok (.getfield 80, 3) := by decide +kernel
theorem dX3_state_56 : decode cX3_state 56 = .ok (.invokevirtual 100, 3) := by decide +kernel
theorem dX3_state_59 : decode cX3_state 59 = .ok (.i2l, 1) := by decide +kernel
theorem dX3_state_60 : decode cX3_state 60 = .ok (.lreturn, 1) := by decide +kernel
theorem dX3_state_61 : decode cX3_state 61 = .ok (.aload_n 0, 1) := by decide +kernel
theorem dX3_state_62 : decode cX3_state 62 = .ok (.getfield 35, 3) := by decide +kernel
theorem dX3_state_65 : decode cX3_state 65 = .ok (.aload_n 0, 1) := by decide +kernel
theorem dX3_state_66 : decode cX3_state 66 = .ok (.getfield 83, 3) := by decide +kernel
theorem dX3_state_69 : decode cX3_state 69 = .ok (.invokevirtual 103, 3) := by decide +kernel
theorem dX3_state_72 : decode cX3_state 72 = .ok (.i2l, 1) := by decide +kernel
theorem dX3_state_73 : decode cX3_state 73 = .ok (.lreturn, 1) := by decide +kernel
theorem dX3_state_74 : decode cX3_state 74 = .ok (.aload_n 0, 1) := by decide +kernel
theorem dX3_state_75 : decode cX3_state 75 = .ok (.getfield 64, 3) := by decide +kernel
theorem dX3_state_78 : decode cX3_state 78 = .ok (.ifCond .eq 7, 3) := by decide +kernel
theorem dX3_state_81 : decode cX3_state 81 = .ok (.lconst 1, 1) := by decide +kernel
theorem dX3_state_82 : decode cX3_state 82 = .ok (.goto 4, 3) := by decide +kernel
theorem dX3_state_85 : decode cX3_state 85 = .ok (.lconst 0, 1) := by decide +kernel
theorem dX3_state_86 : decode cX3_state 86 = .ok (.lreturn, 1) := by decide +kernel
theorem dX3_state_87 : decode cX3_state 87 = .ok (.aload_n 0, 1) := by decide +kernel
theorem dX3_state_88 : decode cX3_state 88 = .ok (.getfield 80, 3) := by decide +kernel
theorem dX3_state_91 : decode cX3_state 91 = .ok (.ifCond .ne 9, 3) := by decide +kernel
theorem dX3_state_94 : decode cX3_state 94 = .ok (.ldc2_w 104, 3) := by decide +kernel
theorem dX3_state_97 : decode cX3_state 97 = .ok (.goto 15, 3) := by decide +kernel
theorem dX3_state_100 : decode cX3_state 100 = .ok (.aload_n 0, 1) := by decide +kernel
theorem dX3_state_101 : decode cX3_state 101 = .ok (.getfield 28, 3) := by decide +kernel
theorem dX3_state_104 : decode cX3_state 104 = .ok (.aload_n 0, 1) := by decide +kernel
theorem dX3_state_105 : decode cX3_state 105 = .ok (.getfield 80, 3) := by decide +kernel
theorem dX3_state_108 : decode cX3_state 108 = .ok (.invokevirtual 106, 3) := by decide +kernel
theorem dX3_state_111 : decode cX3_state 111 = .ok (.i2l, 1) := by decide +kernel
theorem dX3_state_112 : decode cX3_state 112 = .ok (.lreturn, 1) := by decide +kernel
theorem dX3_state_113 : decode cX3_state 113 = .ok (.ldc2_w 98, 3) := by decide +kernel
theorem dX3_state_116 : decode cX3_state 116 = .ok (.lreturn, 1) := by decide +kernel
theorem dX3_work_0 : decode cX3_work 0 = .ok (.aload_n 0, 1) := by decide +kernel
theorem dX3_work_1 : decode cX3_work 1 = .ok (.getfield 46, 3) := by decide +kernel
theorem dX3_work_4 : decode cX3_work 4 = .ok (.aload_n 0, 1) := by decide +kernel
theorem dX3_work_5 : decode cX3_work 5 = .ok (.getfield 74, 3) := by decide +kernel
theorem dX3_work_8 : decode cX3_work 8 = .ok (.invokevirtual 109, 3) := by decide +kernel
theorem dX3_work_11 : decode cX3_work 11 = .ok (.istore_n 1, 1) := by decide +kernel
theorem dX3_work_12 : decode cX3_work 12 = .ok (.aload_n 0, 1) := by decide +kernel
theorem dX3_work_13 : decode cX3_work 13 = .ok (.getfield 46, 3) := by decide +kernel
theorem dX3_work_16 : decode cX3_work 16 = .ok (.aload_n 0, 1) := by decide +kernel
theorem dX3_work_17 : decode cX3_work 17 = .ok (.getfield 74, 3) := by decide +kernel
theorem dX3_work_20 : decode cX3_work 20 = .ok (.invokevirtual 112, 3) := by decide +kernel
theorem dX3_work_23 : decode cX3_work 23 = .ok (.istore_n 2, 1) := by decide +kernel
theorem dX3_work_24 : decode cX3_work 24 = .ok (.iload_n 1, 1) := by decide +kernel
theorem dX3_work_25 : decode cX3_work 25 = .ok (.iconst 3, 1) := by decide +kernel
theorem dX3_work_26 : decode cX3_work 26 = .ok (.if_icmp .eq 9, 3) := by decide +kernel
theorem dX3_work_29 : decode cX3_work 29 = .ok (.iload_n 1, 1) := by decide +kernel
theorem dX3_work_30 : decode cX3_work 30 = .ok (.bipush 14, 2) := by decide +kernel
theorem dX3_work_32 : decode cX3_work 32 = .ok (.if_icmp .ne 7, 3) := by decide +kernel
theorem dX3_work_35 : decode cX3_work 35 = .ok (.iconst 1, 1) := by decide +kernel
theorem dX3_work_36 : decode cX3_work 36 = .ok (.goto 4, 3) := by decide +kernel
theorem dX3_work_39 : decode cX3_work 39 = .ok (.iconst 0, 1) := by decide +kernel
theorem dX3_work_40 : decode cX3_work 40 = .ok (.istore_n 3, 1) := by decide +kernel
theorem dX3_work_41 : decode cX3_work 41 = .ok (.iload_n 1, 1) := by decide +kernel
theorem dX3_work_42 : decode cX3_work 42 = .ok (.bipush 11, 2) := by decide +kernel
theorem dX3_work_44 : decode cX3_work 44 = .ok (.if_icmp .ne 12, 3) := by decide +kernel
theorem dX3_work_47 : decode cX3_work 47 = .ok (.aload_n 0, 1) := by decide +kernel
theorem dX3_work_48 : decode cX3_work 48 = .ok (.iload_n 2, 1) := by decide +kernel
theorem dX3_work_49 : decode cX3_work 49 = .ok (.i2l, 1) := by decide +kernel
theorem dX3_work_50 : decode cX3_work 50 = .ok (.invokevirtual 115, 3) := by decide +kernel
theorem dX3_work_53 : decode cX3_work 53 = .ok (.goto 119, 3) := by decide +kernel
theorem dX3_work_56 : decode cX3_work 56 = .ok (.iload_n 1, 1) := by decide +kernel
theorem dX3_work_57 : decode cX3_work 57 = .ok (.bipush 12, 2) := by decide +kernel
theorem dX3_work_59 : decode cX3_work 59 = .ok (.if_icmp .ne 15, 3) := by decide +kernel
theorem dX3_work_62 : decode cX3_work 62 = .ok (.aload_n 0, 1) := by decide +kernel
theorem dX3_work_63 : decode cX3_work 63 = .ok (.aload_n 0, 1) := by decide +kernel
theorem dX3_work_64 : decode cX3_work 64 = .ok (.iload_n 2, 1) := by decide +kernel
theorem dX3_work_65 : decode cX3_work 65 = .ok (.invokevirtual 119, 3) := by decide +kernel
theorem dX3_work_68 : decode cX3_work 68 = .ok (.invokevirtual 115, 3) := by decide +kernel
theorem dX3_work_71 : decode cX3_work 71 = .ok (.goto 101, 3) := by decide +kernel
theorem dX3_work_74 : decode cX3_work 74 = .ok (.iload_n 1, 1) := by decide +kernel
theorem dX3_work_75 : decode cX3_work 75 = .ok (.bipush 13, 2) := by decide +kernel
theorem dX3_work_77 : decode cX3_work 77 = .ok (.if_icmp .ne 31, 3) := by decide +kernel
theorem dX3_work_80 : decode cX3_work 80 = .ok (.aload_n 0, 1) := by decide +kernel
theorem dX3_work_81 : decode cX3_work 81 = .ok (.aload_n 0, 1) := by decide +kernel
theorem dX3_work_82 : decode cX3_work 82 = .ok (.getfield 21, 3) := by decide +kernel
theorem dX3_work_85 : decode cX3_work 85 = .ok (.aload_n 0, 1) := by decide +kernel
theorem dX3_work_86 : decode cX3_work 86 = .ok (.getfield 77, 3) := by decide +kernel
theorem dX3_work_89 : decode cX3_work 89 = .ok (.iload_n 2, 1) := by decide +kernel
theorem dX3_work_90 : decode cX3_work 90 = .ok (.aload_n 0, 1) := by decide +kernel
theorem dX3_work_91 : decode cX3_work 91 = .ok (.invokevirtual 123, 3) := by decide +kernel
theorem dX3_work_94 : decode cX3_work 94 = .ok (.invokevirtual 127, 3) := by decide +kernel
theorem dX3_work_97 : decode cX3_work 97 = .ok (.putfield 77, 3) := by decide +kernel
theorem dX3_work_100 : decode cX3_work 100 = .ok (.aload_n 0, 1) := by decide +kernel
theorem dX3_work_101 : decode cX3_work 101 = .ok (.iconst 0, 1) := by decide +kernel
theorem dX3_work_102 : decode cX3_work 102 = .ok (.invokevirtual 131, 3) := by decide +kernel
theorem dX3_work_105 : decode cX3_work 105 = .ok (.goto 67, 3) := by decide +kernel
theorem dX3_work_108 : decode cX3_work 108 = .ok (.iload_n 3, 1) := by decide +kernel
theorem dX3_work_109 : decode cX3_work 109 = .ok (.ifCond .eq 26, 3) := by decide +kernel
theorem dX3_work_112 : decode cX3_work 112 = .ok (.aload_n 0, 1) := by decide +kernel
theorem dX3_work_113 : decode cX3_work 113 = .ok (.getfield 46, 3) := by decide +kernel
theorem dX3_work_116 : decode cX3_work 116 = .ok (.aload_n 0, 1) := by decide +kernel
theorem dX3_work_117 : decode cX3_work 117 = .ok (.getfield 74, 3) := by decide +kernel
theorem dX3_work_120 : decode cX3_work 120 = .ok (.iconst 1, 1) := by decide +kernel
theorem dX3_work_121 : decode cX3_work 121 = .ok (.invokevirtual 135, 3) := by decide +kernel
theorem dX3_work_124 : decode cX3_work 124 = .ok (.ifCond .ge 11, 3) := by decide +kernel
theorem dX3_work_127 : decode cX3_work 127 = .ok (.aload_n 0, 1) := by decide +kernel
theorem dX3_work_128 : decode cX3_work 128 = .ok (.iconst 0, 1) := by decide +kernel
theorem dX3_work_129 : decode cX3_work 129 = .ok (.invokevirtual 131, 3) := by decide +kernel
theorem dX3_work_132 : decode cX3_work 132 = .ok (.goto 40, 3) := by decide +kernel
theorem dX3_work_135 : decode cX3_work 135 = .ok (.iload_n 1, 1) := by decide +kernel
theorem dX3_work_136 : decode cX3_work 136 = .ok (.iconst 5, 1) := by decide +kernel
theorem dX3_work_137 : decode cX3_work 137 = .ok (.if_icmp .ne 15, 3) := by decide +kernel
theorem dX3_work_140 : decode cX3_work 140 = .ok (.aload_n 0, 1) := by decide +kernel
theorem dX3_work_141 : decode cX3_work 141 = .ok (.aload_n 0, 1) := by decide +kernel
theorem dX3_work_142 : decode cX3_work 142 = .ok (.iload_n 2, 1) := by decide +kernel
theorem dX3_work_143 : decode cX3_work 143 = .ok (.invokevirtual 119, 3) := by decide +kernel
theorem dX3_work_146 : decode cX3_work 146 = .ok (.invokevirtual 139, 3) := by decide +kernel
theorem dX3_work_149 : decode cX3_work 149 = .ok (.goto 23, 3) := by decide +kernel
theorem dX3_work_152 : decode cX3_work 152 = .ok (.aload_n 0, 1) := by decide +kernel
theorem dX3_work_153 : decode cX3_work 153 = .ok (.iload_n 3, 1) := by decide +kernel
theorem dX3_work_154 : decode cX3_work 154 = .ok (.ifCond .eq 7, 3) := by decide +kernel
theorem dX3_work_157 : decode cX3_work 157 = .ok (.iconst 3, 1) := by decide +kernel
theorem dX3_work_158 : decode cX3_work 158 = .ok (.goto 4, 3) := by decide +kernel
theorem dX3_work_161 : decode cX3_work 161 = .ok (.iload_n 1, 1) := by decide +kernel
theorem dX3_work_162 : decode cX3_work 162 = .ok (.iconst 0, 1) := by decide +kernel
theorem dX3_work_163 : decode cX3_work 163 = .ok (.invokevirtual 142, 3) := by decide +kernel
theorem dX3_work_166 : decode cX3_work 166 = .ok (.pop, 1) := by decide +kernel
theorem dX3_work_167 : decode cX3_work 167 = .ok (.aload_n 0, 1) := by decide +kernel
theorem dX3_work_168 : decode cX3_work 168 = .ok (.iconst 0, 1) := by decide +kernel
theorem dX3_work_169 : decode cX3_work 169 = .ok (.invokevirtual 131, 3) := by decide +kernel
theorem dX3_work_172 : decode cX3_work 172 = .ok (.return_, 1) := by decide +kernel
theorem dX3_workToGo_0 : decode cX3_workToGo 0 = .ok (.lload_n 1, 1) := by decide +kernel
theorem dX3_workToGo_1 : decode cX3_workToGo 1 = .ok (.invokestatic 145, 3) := by decide +kernel
theorem dX3_workToGo_4 : decode cX3_workToGo 4 = .ok (.ifCond .eq 12, 3) := by decide +kernel
theorem dX3_workToGo_7 : decode cX3_workToGo 7 = .ok (.aload_n 0, 1) := by decide +kernel
theorem dX3_workToGo_8 : decode cX3_workToGo 8 = .ok (.getfield 12, 3) := by decide +kernel
theorem dX3_workToGo_11 : decode cX3_workToGo 11 = .ok (.iconst 2, 1) := by decide +kernel
theorem dX3_workToGo_12 : decode cX3_workToGo 12 = .ok (.putfield 86, 3) := by decide +kernel
theorem dX3_workToGo_15 : decode cX3_workToGo 15 = .ok (.return_, 1) := by decide +kernel
theorem dX3_workToGo_16 : decode cX3_workToGo 16 = .ok (.aload_n 0, 1) := by decide +kernel
theorem dX3_workToGo_17 : decode cX3_workToGo 17 = .ok (.getfield 28, 3) := by decide +kernel
theorem dX3_workToGo_20 : decode cX3_workToGo 20 = .ok (.aload_n 0, 1) := by decide +kernel
theorem dX3_workToGo_21 : decode cX3_workToGo 21 = .ok (.iconst 5, 1) := by decide +kernel
theorem dX3_workToGo_22 : decode cX3_workToGo 22 = .ok (.iconst 0, 1) := by decide +kernel
theorem dX3_workToGo_23 : decode cX3_workToGo 23 = .ok (.invokevirtual 142, 3) := by decide +kernel
theorem dX3_workToGo_26 : decode cX3_workToGo 26 = .ok (.lconst 0, 1) := by decide +kernel
theorem dX3_workToGo_27 : decode cX3_workToGo 27 = .ok (.lload_n 1, 1) := by decide +kernel
theorem dX3_workToGo_28 : decode cX3_workToGo 28 = .ok (.ldc2_w 149, 3) := by decide +kernel
theorem dX3_workToGo_31 : decode cX3_workToGo 31 = .ok (.lsub, 1) := by decide +kernel
theorem dX3_workToGo_32 : decode cX3_workToGo 32 = .ok (.l2i, 1) := by decide +kernel
theorem dX3_workToGo_33 : decode cX3_workToGo 33 = .ok (.invokevirtual 151, 3) := by decide +kernel
theorem dX3_workToGo_36 : decode cX3_workToGo 36 = .ok (.aload_n 0, 1) := by decide +kernel
theorem dX3_workToGo_37 : decode cX3_workToGo 37 = .ok (.iconst 0, 1) := by decide +kernel
theorem dX3_workToGo_38 : decode cX3_workToGo 38 = .ok (.invokevirtual 131, 3) := by decide +kernel
theorem dX3_workToGo_41 : decode cX3_workToGo 41 = .ok (.return_, 1) := by decide +kernel
theorem dX3_receive_0 : decode cX3_receive 0 = .ok (.aload_n 0, 1) := by decide +kernel
theorem dX3_receive_1 : decode cX3_receive 1 = .ok (.getfield 80, 3) := by decide +kernel
theorem dX3_receive_4 : decode cX3_receive 4 = .ok (.ifCond .ne 15, 3) := by decide +kernel
theorem dX3_receive_7 : decode cX3_receive 7 = .ok (.aload_n 0, 1) := by decide +kernel
theorem dX3_receive_8 : decode cX3_receive 8 = .ok (.getfield 12, 3) := by decide +kernel
theorem dX3_receive_11 : decode cX3_receive 11 = .ok (.aload_n 0, 1) := by decide +kernel
theorem dX3_receive_12 : decode cX3_receive 12 = .ok (.getfield 155, 3) := by decide +kernel
theorem dX3_receive_15 : decode cX3_receive 15 = .ok (.invokevirtual 159, 3) := by decide +kernel
theorem dX3_receive_18 : decode cX3_receive 18 = .ok (.return_, 1) := by decide +kernel
theorem dX3_receive_19 : decode cX3_receive 19 = .ok (.aload_n 0, 1) := by decide +kernel
theorem dX3_receive_20 : decode cX3_receive 20 = .ok (.getfield 80, 3) := by decide +kernel
theorem dX3_receive_23 : decode cX3_receive 23 = .ok (.istore_n 1, 1) := by decide +kernel
theorem dX3_receive_24 : decode cX3_receive 24 = .ok (.aload_n 0, 1) := by decide +kernel
theorem dX3_receive_25 : decode cX3_receive 25 = .ok (.getfield 28, 3) := by decide +kernel
theorem dX3_receive_28 : decode cX3_receive 28 = .ok (.iload_n 1, 1) := by decide +kernel
theorem dX3_receive_29 : decode cX3_receive 29 = .ok (.invokevirtual 106, 3) := by decide +kernel
theorem dX3_receive_32 : decode cX3_receive 32 = .ok (.istore_n 2, 1) := by decide +kernel
theorem dX3_receive_33 : decode cX3_receive 33 = .ok (.aload_n 0, 1) := by decide +kernel
theorem dX3_receive_34 : decode cX3_receive 34 = .ok (.aload_n 0, 1) := by decide +kernel
theorem dX3_receive_35 : decode cX3_receive 35 = .ok (.getfield 28, 3) := by decide +kernel
theorem dX3_receive_38 : decode cX3_receive 38 = .ok (.iload_n 1, 1) := by decide +kernel
theorem dX3_receive_39 : decode cX3_receive 39 = .ok (.invokevirtual 162, 3) := by decide +kernel
theorem dX3_receive_42 : decode cX3_receive 42 = .ok (.putfield 80, 3) := by decide +kernel
theorem dX3_receive_45 : decode cX3_receive 45 = .ok (.aload_n 0, 1) := by decide +kernel
theorem dX3_receive_46 : decode cX3_receive 46 = .ok (.aload_n 0, 1) := by decide +kernel
theorem dX3_receive_47 : decode cX3_receive 47 = .ok (.getfield 28, 3) := by decide +kernel
theorem dX3_receive_50 : decode cX3_receive 50 = .ok (.iload_n 1, 1) := by decide +kernel
theorem dX3_receive_51 : decode cX3_receive 51 = .ok (.invokevirtual 165, 3) := by decide +kernel
theorem dX3_receive_54 : decode cX3_receive 54 = .ok (.putfield 74, 3) := by decide +kernel
theorem dX3_receive_57 : decode cX3_receive 57 = .ok (.aload_n 0, 1) := by decide +kernel
theorem dX3_receive_58 : decode cX3_receive 58 = .ok (.aload_n 0, 1) := by decide +kernel
theorem dX3_receive_59 : decode cX3_receive 59 = .ok (.getfield 28, 3) := by decide +kernel
theorem dX3_receive_62 : decode cX3_receive 62 = .ok (.iload_n 1, 1) := by decide +kernel
theorem dX3_receive_63 : decode cX3_receive 63 = .ok (.invokevirtual 167, 3) := by decide +kernel
theorem dX3_receive_66 : decode cX3_receive 66 = .ok (.putfield 77, 3) := by decide +kernel
theorem dX3_receive_69 : decode cX3_receive 69 = .ok (.iload_n 2, 1) := by decide +kernel
theorem dX3_receive_70 : decode cX3_receive 70 = .ok (.iconst 1, 1) := by decide +kernel
theorem dX3_receive_71 : decode cX3_receive 71 = .ok (.if_icmp .eq 15, 3) := by decide +kernel
theorem dX3_receive_74 : decode cX3_receive 74 = .ok (.iload_n 2, 1) := by decide +kernel
theorem dX3_receive_75 : decode cX3_receive 75 = .ok (.bipush 6, 2) := by decide +kernel
theorem dX3_receive_77 : decode cX3_receive 77 = .ok (.if_icmp .eq 9, 3) := by decide +kernel
theorem dX3_receive_80 : decode cX3_receive 80 = .ok (.iload_n 2, 1) := by decide +kernel
theorem dX3_receive_81 : decode cX3_receive 81 = .ok (.bipush 7, 2) := by decide +kernel
theorem dX3_receive_83 : decode cX3_receive 83 = .ok (.if_icmp .ne 22, 3) := by decide +kernel
theorem dX3_receive_86 : decode cX3_receive 86 = .ok (.aload_n 0, 1) := by decide +kernel
theorem dX3_receive_87 : decode cX3_receive 87 = .ok (.getfield 155, 3) := by decide +kernel
theorem dX3_receive_90 : decode cX3_receive 90 = .ok (.invokestatic 145, 3) := by decide +kernel
theorem dX3_receive_93 : decode cX3_receive 93 = .ok (.ifCond .ne 12, 3) := by decide +kernel
theorem dX3_receive_96 : decode cX3_receive 96 = .ok (.aload_n 0, 1) := by decide +kernel
theorem dX3_receive_97 : decode cX3_receive 97 = .ok (.getfield 12, 3) := by decide +kernel
theorem dX3_receive_100 : decode cX3_receive 100 = .ok (.iconst 2, 1) := by decide +kernel
theorem dX3_receive_101 : decode cX3_receive 101 = .ok (.putfield 86, 3) := by decide +kernel
theorem dX3_receive_104 : decode cX3_receive 104 = .ok (.return_, 1) := by decide +kernel
theorem dX3_receive_105 : decode cX3_receive 105 = .ok (.iload_n 2, 1) := by decide +kernel
theorem dX3_receive_106 : decode cX3_receive 106 = .ok (.tableswitch 285 0 10 #[58, 66, 87, 125, 133, 161, 180, 195, 224, 285, 232], 58) := by decide +kernel
theorem dX3_receive_164 : decode cX3_receive 164 = .ok (.aload_n 0, 1) := by decide +kernel
theorem dX3_receive_165 : decode cX3_receive 165 = .ok (.iload_n 1, 1) := by decide +kernel
theorem dX3_receive_166 : decode cX3_receive 166 = .ok (.invokevirtual 169, 3) := by decide +kernel
theorem dX3_receive_169 : decode cX3_receive 169 = .ok (.goto 242, 3) := by decide +kernel
theorem dX3_receive_172 : decode cX3_receive 172 = .ok (.aload_n 0, 1) := by decide +kernel
theorem dX3_receive_173 : decode cX3_receive 173 = .ok (.aload_n 0, 1) := by decide +kernel
theorem dX3_receive_174 : decode cX3_receive 174 = .ok (.getfield 155, 3) := by decide +kernel
theorem dX3_receive_177 : decode cX3_receive 177 = .ok (.lconst 0, 1) := by decide +kernel
theorem dX3_receive_178 : decode cX3_receive 178 = .ok (.lcmp, 1) := by decide +kernel
theorem dX3_receive_179 : decode cX3_receive 179 = .ok (.ifCond .eq 7, 3) := by decide +kernel
theorem dX3_receive_182 : decode cX3_receive 182 = .ok (.iconst 1, 1) := by decide +kernel
theorem dX3_receive_183 : decode cX3_receive 183 = .ok (.goto 4, 3) := by decide +kernel
theorem dX3_receive_186 : decode cX3_receive 186 = .ok (.iconst 2, 1) := by decide +kernel
theorem dX3_receive_187 : decode cX3_receive 187 = .ok (.invokevirtual 131, 3) := by decide +kernel
theorem dX3_receive_190 : decode cX3_receive 190 = .ok (.goto 221, 3) := by decide +kernel
theorem dX3_receive_193 : decode cX3_receive 193 = .ok (.aload_n 0, 1) := by decide +kernel
theorem dX3_receive_194 : decode cX3_receive 194 = .ok (.aload_n 0, 1) := by decide +kernel
theorem dX3_receive_195 : decode cX3_receive 195 = .ok (.getfield 21, 3) := by decide +kernel
theorem dX3_receive_198 : decode cX3_receive 198 = .ok (.aload_n 0, 1) := by decide +kernel
theorem dX3_receive_199 : decode cX3_receive 199 = .ok (.getfield 77, 3) := by decide +kernel
theorem dX3_receive_202 : decode cX3_receive 202 = .ok (.aload_n 0, 1) := by decide +kernel
theorem dX3_receive_203 : decode cX3_receive 203 = .ok (.getfield 46, 3) := by decide +kernel
theorem dX3_receive_206 : decode cX3_receive 206 = .ok (.aload_n 0, 1) := by decide +kernel
theorem dX3_receive_207 : decode cX3_receive 207 = .ok (.getfield 74, 3) := by decide +kernel
theorem dX3_receive_210 : decode cX3_receive 210 = .ok (.invokevirtual 112, 3) := by decide +kernel
theorem dX3_receive_213 : decode cX3_receive 213 = .ok (.aload_n 0, 1) := by decide +kernel
theorem dX3_receive_214 : decode cX3_receive 214 = .ok (.getfield 155, 3) := by decide +kernel
theorem dX3_receive_217 : decode cX3_receive 217 = .ok (.invokevirtual 127, 3) := by decide +kernel
theorem dX3_receive_220 : decode cX3_receive 220 = .ok (.putfield 77, 3) := by decide +kernel
theorem dX3_receive_223 : decode cX3_receive 223 = .ok (.aload_n 0, 1) := by decide +kernel
theorem dX3_receive_224 : decode cX3_receive 224 = .ok (.iconst 1, 1) := by decide +kernel
theorem dX3_receive_225 : decode cX3_receive 225 = .ok (.invokevirtual 131, 3) := by decide +kernel
theorem dX3_receive_228 : decode cX3_receive 228 = .ok (.goto 183, 3) := by decide +kernel
theorem dX3_receive_231 : decode cX3_receive 231 = .ok (.aload_n 0, 1) := by decide +kernel
theorem dX3_receive_232 : decode cX3_receive 232 = .ok (.iconst 1, 1) := by decide +kernel
theorem dX3_receive_233 : decode cX3_receive 233 = .ok (.invokevirtual 131, 3) := by decide +kernel
theorem dX3_receive_236 : decode cX3_receive 236 = .ok (.goto 175, 3) := by decide +kernel
theorem dX3_receive_239 : decode cX3_receive 239 = .ok (.aload_n 0, 1) := by decide +kernel
theorem dX3_receive_240 : decode cX3_receive 240 = .ok (.aload_n 0, 1) := by decide +kernel
theorem dX3_receive_241 : decode cX3_receive 241 = .ok (.getfield 50, 3) := by decide +kernel
theorem dX3_receive_244 : decode cX3_receive 244 = .ok (.getfield 172, 3) := by decide +kernel
theorem dX3_receive_247 : decode cX3_receive 247 = .ok (.aload_n 0, 1) := by decide +kernel
theorem dX3_receive_248 : decode cX3_receive 248 = .ok (.getfield 46, 3) := by decide +kernel
theorem dX3_receive_251 : decode cX3_receive 251 = .ok (.aload_n 0, 1) := by decide +kernel
theorem dX3_receive_252 : decode cX3_receive 252 = .ok (.getfield 74, 3) := by decide +kernel
theorem dX3_receive_255 : decode cX3_receive 255 = .ok (.invokevirtual 112, 3) := by decide +kernel
theorem dX3_receive_258 : decode cX3_receive 258 = .ok (.invokestatic 177, 3) := by decide +kernel
theorem dX3_receive_261 : decode cX3_receive 261 = .ok (.invokevirtual 181, 3) := by decide +kernel
theorem dX3_receive_264 : decode cX3_receive 264 = .ok (.goto 147, 3) := by decide +kernel
theorem dX3_receive_267 : decode cX3_receive 267 = .ok (.aload_n 0, 1) := by decide +kernel
theorem dX3_receive_268 : decode cX3_receive 268 = .ok (.aload_n 0, 1) := by decide +kernel
theorem dX3_receive_269 : decode cX3_receive 269 = .ok (.getfield 28, 3) := by decide +kernel
theorem dX3_receive_272 : decode cX3_receive 272 = .ok (.iload_n 1, 1) := by decide +kernel
theorem dX3_receive_273 : decode cX3_receive 273 = .ok (.invokevirtual 184, 3) := by decide +kernel
theorem dX3_receive_276 : decode cX3_receive 276 = .ok (.aload_n 0, 1) := by decide +kernel
theorem dX3_receive_277 : decode cX3_receive 277 = .ok (.getfield 155, 3) := by decide +kernel
theorem dX3_receive_280 : decode cX3_receive 280 = .ok (.invokevirtual 187, 3) := by decide +kernel
theorem dX3_receive_283 : decode cX3_receive 283 = .ok (.goto 128, 3) := by decide +kernel
theorem dX3_receive_286 : decode cX3_receive 286 = .ok (.aload_n 0, 1) := by decide +kernel
theorem dX3_receive_287 : decode cX3_receive 287 = .ok (.getfield 12, 3) := by decide +kernel
theorem dX3_receive_290 : decode cX3_receive 290 = .ok (.aload_n 0, 1) := by decide +kernel
theorem dX3_receive_291 : decode cX3_receive 291 = .ok (.getfield 155, 3) := by decide +kernel
theorem dX3_receive_294 : decode cX3_receive 294 = .ok (.l2i, 1) := by decide +kernel
theorem dX3_receive_295 : decode cX3_receive 295 = .ok (.invokevirtual 191, 3) := by decide +kernel
theorem dX3_receive_298 : decode cX3_receive 298 = .ok (.goto 113, 3) := by decide +kernel
theorem dX3_receive_301 : decode cX3_receive 301 = .ok (.aload_n 0, 1) := by decide +kernel
theorem dX3_receive_302 : decode cX3_receive 302 = .ok (.getfield 50, 3) := by decide +kernel
theorem dX3_receive_305 : decode cX3_receive 305 = .ok (.getfield 194, 3) := by decide +kernel
theorem dX3_receive_308 : decode cX3_receive 308 = .ok (.aload_n 0, 1) := by decide +kernel
theorem dX3_receive_309 : decode cX3_receive 309 = .ok (.getfield 46, 3) := by decide +kernel
theorem dX3_receive_312 : decode cX3_receive 312 = .ok (.aload_n 0, 1) := by decide +kernel
theorem dX3_receive_313 : decode cX3_receive 313 = .ok (.getfield 74, 3) := by decide +kernel
theorem dX3_receive_316 : decode cX3_receive 316 = .ok (.invokevirtual 112, 3) := by decide +kernel
theorem dX3_receive_319 : decode cX3_receive 319 = .ok (.aload_n 0, 1) := by decide +kernel
theorem dX3_receive_320 : decode cX3_receive 320 = .ok (.getfield 155, 3) := by decide +kernel
theorem dX3_receive_323 : decode cX3_receive 323 = .ok (.l2i, 1) := by decide +kernel
theorem dX3_receive_324 : decode cX3_receive 324 = .ok (.invokestatic 197, 3) := by decide +kernel
theorem dX3_receive_327 : decode cX3_receive 327 = .ok (.goto 84, 3) := by decide +kernel
theorem dX3_receive_330 : decode cX3_receive 330 = .ok (.aload_n 0, 1) := by decide +kernel
theorem dX3_receive_331 : decode cX3_receive 331 = .ok (.iload_n 1, 1) := by decide +kernel
theorem dX3_receive_332 : decode cX3_receive 332 = .ok (.invokevirtual 201, 3) := by decide +kernel
theorem dX3_receive_335 : decode cX3_receive 335 = .ok (.goto 76, 3) := by decide +kernel
theorem dX3_receive_338 : decode cX3_receive 338 = .ok (.aload_n 0, 1) := by decide +kernel
theorem dX3_receive_339 : decode cX3_receive 339 = .ok (.aload_n 0, 1) := by decide +kernel
theorem dX3_receive_340 : decode cX3_receive 340 = .ok (.getfield 35, 3) := by decide +kernel
theorem dX3_receive_343 : decode cX3_receive 343 = .ok (.aload_n 0, 1) := by decide +kernel
theorem dX3_receive_344 : decode cX3_receive 344 = .ok (.getfield 83, 3) := by decide +kernel
theorem dX3_receive_347 : decode cX3_receive 347 = .ok (.aload_n 0, 1) := by decide +kernel
theorem dX3_receive_348 : decode cX3_receive 348 = .ok (.getfield 43, 3) := by decide +kernel
theorem dX3_receive_351 : decode cX3_receive 351 = .ok (.aload_n 0, 1) := by decide +kernel
theorem dX3_receive_352 : decode cX3_receive 352 = .ok (.getfield 28, 3) := by decide +kernel
theorem dX3_receive_355 : decode cX3_receive 355 = .ok (.iload_n 1, 1) := by decide +kernel
theorem dX3_receive_356 : decode cX3_receive 356 = .ok (.invokevirtual 184, 3) := by decide +kernel
theorem dX3_receive_359 : decode cX3_receive 359 = .ok (.invokestatic 177, 3) := by decide +kernel
theorem dX3_receive_362 : decode cX3_receive 362 = .ok (.invokevirtual 204, 3) := by decide +kernel
theorem dX3_receive_365 : decode cX3_receive 365 = .ok (.putfield 83, 3) := by decide +kernel
theorem dX3_receive_368 : decode cX3_receive 368 = .ok (.aload_n 0, 1) := by decide +kernel
theorem dX3_receive_369 : decode cX3_receive 369 = .ok (.aload_n 0, 1) := by decide +kernel
theorem dX3_receive_370 : decode cX3_receive 370 = .ok (.getfield 28, 3) := by decide +kernel
theorem dX3_receive_373 : decode cX3_receive 373 = .ok (.iload_n 1, 1) := by decide +kernel
theorem dX3_receive_374 : decode cX3_receive 374 = .ok (.invokevirtual 184, 3) := by decide +kernel
theorem dX3_receive_377 : decode cX3_receive 377 = .ok (.aload_n 0, 1) := by decide +kernel
theorem dX3_receive_378 : decode cX3_receive 378 = .ok (.getfield 28, 3) := by decide +kernel
theorem dX3_receive_381 : decode cX3_receive 381 = .ok (.iload_n 1, 1) := by decide +kernel
theorem dX3_receive_382 : decode cX3_receive 382 = .ok (.invokevirtual 207, 3) := by decide +kernel
theorem dX3_receive_385 : decode cX3_receive 385 = .ok (.invokevirtual 187, 3) := by decide +kernel
theorem dX3_receive_388 : decode cX3_receive 388 = .ok (.goto 23, 3) := by decide +kernel
theorem dX3_receive_391 : decode cX3_receive 391 = .ok (.aload_n 0, 1) := by decide +kernel
theorem dX3_receive_392 : decode cX3_receive 392 = .ok (.aload_n 0, 1) := by decide +kernel
theorem dX3_receive_393 : decode cX3_receive 393 = .ok (.getfield 28, 3) := by decide +kernel
theorem dX3_receive_396 : decode cX3_receive 396 = .ok (.iload_n 1, 1) := by decide +kernel
theorem dX3_receive_397 : decode cX3_receive 397 = .ok (.invokevirtual 184, 3) := by decide +kernel
theorem dX3_receive_400 : decode cX3_receive 400 = .ok (.aload_n 0, 1) := by decide +kernel
theorem dX3_receive_401 : decode cX3_receive 401 = .ok (.getfield 28, 3) := by decide +kernel
theorem dX3_receive_404 : decode cX3_receive 404 = .ok (.iload_n 1, 1) := by decide +kernel
theorem dX3_receive_405 : decode cX3_receive 405 = .ok (.invokevirtual 207, 3) := by decide +kernel
theorem dX3_receive_408 : decode cX3_receive 408 = .ok (.invokevirtual 187, 3) := by decide +kernel
theorem dX3_receive_411 : decode cX3_receive 411 = .ok (.return_, 1) := by decide +kernel
theorem dX3_receiveOp_0 : decode cX3_receiveOp 0 = .ok (.aload_n 0, 1) := by decide +kernel
theorem dX3_receiveOp_1 : decode cX3_receiveOp 1 = .ok (.getfield 28, 3) := by decide +kernel
theorem dX3_receiveOp_4 : decode cX3_receiveOp 4 = .ok (.iload_n 1, 1) := by decide +kernel
theorem dX3_receiveOp_5 : decode cX3_receiveOp 5 = .ok (.invokevirtual 210, 3) := by decide +kernel
theorem dX3_receiveOp_8 : decode cX3_receiveOp 8 = .ok (.ifCond .ne 27, 3) := by decide +kernel
theorem dX3_receiveOp_11 : decode cX3_receiveOp 11 = .ok (.aload_n 0, 1) := by decide +kernel
theorem dX3_receiveOp_12 : decode cX3_receiveOp 12 = .ok (.getfield 28, 3) := by decide +kernel
theorem dX3_receiveOp_15 : decode cX3_receiveOp 15 = .ok (.aload_n 0, 1) := by decide +kernel
theorem dX3_receiveOp_16 : decode cX3_receiveOp 16 = .ok (.iconst 0, 1) := by decide +kernel
theorem dX3_receiveOp_17 : decode cX3_receiveOp 17 = .ok (.iconst 1, 1) := by decide +kernel
theorem dX3_receiveOp_18 : decode cX3_receiveOp 18 = .ok (.invokevirtual 142, 3) := by decide +kernel
theorem dX3_receiveOp_21 : decode cX3_receiveOp 21 = .ok (.aload_n 0, 1) := by decide +kernel
theorem dX3_receiveOp_22 : decode cX3_receiveOp 22 = .ok (.getfield 155, 3) := by decide +kernel
theorem dX3_receiveOp_25 : decode cX3_receiveOp 25 = .ok (.iconst 0, 1) := by decide +kernel
theorem dX3_receiveOp_26 : decode cX3_receiveOp 26 = .ok (.invokevirtual 151, 3) := by decide +kernel
theorem dX3_receiveOp_29 : decode cX3_receiveOp 29 = .ok (.aload_n 0, 1) := by decide +kernel
theorem dX3_receiveOp_30 : decode cX3_receiveOp 30 = .ok (.iconst 1, 1) := by decide +kernel
theorem dX3_receiveOp_31 : decode cX3_receiveOp 31 = .ok (.invokevirtual 131, 3) := by decide +kernel
theorem dX3_receiveOp_34 : decode cX3_receiveOp 34 = .ok (.return_, 1) := by decide +kernel
theorem dX3_receiveOp_35 : decode cX3_receiveOp 35 = .ok (.aload_n 0, 1) := by decide +kernel
theorem dX3_receiveOp_36 : decode cX3_receiveOp 36 = .ok (.getfield 28, 3) := by decide +kernel
theorem dX3_receiveOp_39 : decode cX3_receiveOp 39 = .ok (.iload_n 1, 1) := by decide +kernel
theorem dX3_receiveOp_40 : decode cX3_receiveOp 40 = .ok (.invokevirtual 207, 3) := by decide +kernel
theorem dX3_receiveOp_43 : decode cX3_receiveOp 43 = .ok (.lstore_n 2, 1) := by decide +kernel
theorem dX3_receiveOp_44 : decode cX3_receiveOp 44 = .ok (.lload_n 2, 1) := by decide +kernel
theorem dX3_receiveOp_45 : decode cX3_receiveOp 45 = .ok (.invokestatic 145, 3) := by decide +kernel
theorem dX3_receiveOp_48 : decode cX3_receiveOp 48 = .ok (.ifCond .eq 13, 3) := by decide +kernel
theorem dX3_receiveOp_51 : decode cX3_receiveOp 51 = .ok (.aload_n 0, 1) := by decide +kernel
theorem dX3_receiveOp_52 : decode cX3_receiveOp 52 = .ok (.getfield 155, 3) := by decide +kernel
theorem dX3_receiveOp_55 : decode cX3_receiveOp 55 = .ok (.invokestatic 145, 3) := by decide +kernel
theorem dX3_receiveOp_58 : decode cX3_receiveOp 58 = .ok (.ifCond .ne 12, 3) := by decide +kernel
theorem dX3_receiveOp_61 : decode cX3_receiveOp 61 = .ok (.aload_n 0, 1) := by decide +kernel
theorem dX3_receiveOp_62 : decode cX3_receiveOp 62 = .ok (.getfield 12, 3) := by decide +kernel
theorem dX3_receiveOp_65 : decode cX3_receiveOp 65 = .ok (.iconst 2, 1) := by decide +kernel
theorem dX3_receiveOp_66 : decode cX3_receiveOp 66 = .ok (.putfield 86, 3) := by decide +kernel
theorem dX3_receiveOp_69 : decode cX3_receiveOp 69 = .ok (.return_, 1) := by decide +kernel
theorem dX3_receiveOp_70 : decode cX3_receiveOp 70 = .ok (.aload_n 0, 1) := by decide +kernel
theorem dX3_receiveOp_71 : decode cX3_receiveOp 71 = .ok (.aload_n 0, 1) := by decide +kernel
theorem dX3_receiveOp_72 : decode cX3_receiveOp 72 = .ok (.getfield 46, 3) := by decide +kernel
theorem dX3_receiveOp_75 : decode cX3_receiveOp 75 = .ok (.aload_n 0, 1) := by decide +kernel
theorem dX3_receiveOp_76 : decode cX3_receiveOp 76 = .ok (.getfield 74, 3) := by decide +kernel
theorem dX3_receiveOp_79 : decode cX3_receiveOp 79 = .ok (.invokevirtual 112, 3) := by decide +kernel
theorem dX3_receiveOp_82 : decode cX3_receiveOp 82 = .ok (.lload_n 2, 1) := by decide +kernel
theorem dX3_receiveOp_83 : decode cX3_receiveOp 83 = .ok (.l2i, 1) := by decide +kernel
theorem dX3_receiveOp_84 : decode cX3_receiveOp 84 = .ok (.aload_n 0, 1) := by decide +kernel
theorem dX3_receiveOp_85 : decode cX3_receiveOp 85 = .ok (.getfield 155, 3) := by decide +kernel
theorem dX3_receiveOp_88 : decode cX3_receiveOp 88 = .ok (.l2i, 1) := by decide +kernel
theorem dX3_receiveOp_89 : decode cX3_receiveOp 89 = .ok (.invokestatic 213, 3) := by decide +kernel
theorem dX3_receiveOp_92 : decode cX3_receiveOp 92 = .ok (.i2l, 1) := by decide +kernel
theorem dX3_receiveOp_93 : decode cX3_receiveOp 93 = .ok (.invokevirtual 115, 3) := by decide +kernel
theorem dX3_receiveOp_96 : decode cX3_receiveOp 96 = .ok (.return_, 1) := by decide +kernel
theorem dX3_made_0 : decode cX3_made 0 = .ok (.iload_n 0, 1) := by decide +kernel
theorem dX3_made_1 : decode cX3_made 1 = .ok (.tableswitch 43 42 45 #[39, 31, 43, 35], 31) := by decide +kernel
theorem dX3_made_32 : decode cX3_made 32 = .ok (.iload_n 1, 1) := by decide +kernel
theorem dX3_made_33 : decode cX3_made 33 = .ok (.iload_n 2, 1) := by decide +kernel
theorem dX3_made_34 : decode cX3_made 34 = .ok (.iadd, 1) := by decide +kernel
theorem dX3_made_35 : decode cX3_made 35 = .ok (.ireturn, 1) := by decide +kernel
theorem dX3_made_36 : decode cX3_made 36 = .ok (.iload_n 1, 1) := by decide +kernel
theorem dX3_made_37 : decode cX3_made 37 = .ok (.iload_n 2, 1) := by decide +kernel
theorem dX3_made_38 : decode cX3_made 38 = .ok (.isub, 1) := by decide +kernel
theorem dX3_made_39 : decode cX3_made 39 = .ok (.ireturn, 1) := by decide +kernel
theorem dX3_made_40 : decode cX3_made 40 = .ok (.iload_n 1, 1) := by decide +kernel
theorem dX3_made_41 : decode cX3_made 41 = .ok (.iload_n 2, 1) := by decide +kernel
theorem dX3_made_42 : decode cX3_made 42 = .ok (.imul, 1) := by decide +kernel
theorem dX3_made_43 : decode cX3_made 43 = .ok (.ireturn, 1) := by decide +kernel
theorem dX3_made_44 : decode cX3_made 44 = .ok (.iload_n 1, 1) := by decide +kernel
theorem dX3_made_45 : decode cX3_made 45 = .ok (.iload_n 2, 1) := by decide +kernel
theorem dX3_made_46 : decode cX3_made 46 = .ok (.if_icmp .ge 7, 3) := by decide +kernel
theorem dX3_made_49 : decode cX3_made 49 = .ok (.iconst 1, 1) := by decide +kernel
theorem dX3_made_50 : decode cX3_made 50 = .ok (.goto 4, 3) := by decide +kernel
theorem dX3_made_53 : decode cX3_made 53 = .ok (.iconst 0, 1) := by decide +kernel
theorem dX3_made_54 : decode cX3_made 54 = .ok (.ireturn, 1) := by decide +kernel
theorem dX3_receiveWind_0 : decode cX3_receiveWind 0 = .ok (.aload_n 0, 1) := by decide +kernel
theorem dX3_receiveWind_1 : decode cX3_receiveWind 1 = .ok (.getfield 28, 3) := by decide +kernel
theorem dX3_receiveWind_4 : decode cX3_receiveWind 4 = .ok (.iload_n 1, 1) := by decide +kernel
theorem dX3_receiveWind_5 : decode cX3_receiveWind 5 = .ok (.invokevirtual 210, 3) := by decide +kernel
theorem dX3_receiveWind_8 : decode cX3_receiveWind 8 = .ok (.lookupswitch 109 #[(0, 28), (1, 67)], 28) := by decide +kernel
theorem dX3_receiveWind_36 : decode cX3_receiveWind 36 = .ok (.aload_n 0, 1) := by decide +kernel
theorem dX3_receiveWind_37 : decode cX3_receiveWind 37 = .ok (.aload_n 0, 1) := by decide +kernel
theorem dX3_receiveWind_38 : decode cX3_receiveWind 38 = .ok (.getfield 35, 3) := by decide +kernel
theorem dX3_receiveWind_41 : decode cX3_receiveWind 41 = .ok (.aload_n 0, 1) := by decide +kernel
theorem dX3_receiveWind_42 : decode cX3_receiveWind 42 = .ok (.getfield 83, 3) := by decide +kernel
theorem dX3_receiveWind_45 : decode cX3_receiveWind 45 = .ok (.aload_n 0, 1) := by decide +kernel
theorem dX3_receiveWind_46 : decode cX3_receiveWind 46 = .ok (.getfield 74, 3) := by decide +kernel
theorem dX3_receiveWind_49 : decode cX3_receiveWind 49 = .ok (.aload_n 0, 1) := by decide +kernel
theorem dX3_receiveWind_50 : decode cX3_receiveWind 50 = .ok (.getfield 77, 3) := by decide +kernel
theorem dX3_receiveWind_53 : decode cX3_receiveWind 53 = .ok (.invokevirtual 217, 3) := by decide +kernel
theorem dX3_receiveWind_56 : decode cX3_receiveWind 56 = .ok (.putfield 83, 3) := by decide +kernel
theorem dX3_receiveWind_59 : decode cX3_receiveWind 59 = .ok (.aload_n 0, 1) := by decide +kernel
theorem dX3_receiveWind_60 : decode cX3_receiveWind 60 = .ok (.bipush 8, 2) := by decide +kernel
theorem dX3_receiveWind_62 : decode cX3_receiveWind 62 = .ok (.iconst 1, 1) := by decide +kernel
theorem dX3_receiveWind_63 : decode cX3_receiveWind 63 = .ok (.invokevirtual 142, 3) := by decide +kernel
theorem dX3_receiveWind_66 : decode cX3_receiveWind 66 = .ok (.pop, 1) := by decide +kernel
theorem dX3_receiveWind_67 : decode cX3_receiveWind 67 = .ok (.aload_n 0, 1) := by decide +kernel
theorem dX3_receiveWind_68 : decode cX3_receiveWind 68 = .ok (.iconst 1, 1) := by decide +kernel
theorem dX3_receiveWind_69 : decode cX3_receiveWind 69 = .ok (.invokevirtual 131, 3) := by decide +kernel
theorem dX3_receiveWind_72 : decode cX3_receiveWind 72 = .ok (.goto 57, 3) := by decide +kernel
theorem dX3_receiveWind_75 : decode cX3_receiveWind 75 = .ok (.aload_n 0, 1) := by decide +kernel
theorem dX3_receiveWind_76 : decode cX3_receiveWind 76 = .ok (.aload_n 0, 1) := by decide +kernel
theorem dX3_receiveWind_77 : decode cX3_receiveWind 77 = .ok (.getfield 35, 3) := by decide +kernel
theorem dX3_receiveWind_80 : decode cX3_receiveWind 80 = .ok (.aload_n 0, 1) := by decide +kernel
theorem dX3_receiveWind_81 : decode cX3_receiveWind 81 = .ok (.getfield 83, 3) := by decide +kernel
theorem dX3_receiveWind_84 : decode cX3_receiveWind 84 = .ok (.invokevirtual 220, 3) := by decide +kernel
theorem dX3_receiveWind_87 : decode cX3_receiveWind 87 = .ok (.putfield 83, 3) := by decide +kernel
theorem dX3_receiveWind_90 : decode cX3_receiveWind 90 = .ok (.aload_n 0, 1) := by decide +kernel
theorem dX3_receiveWind_91 : decode cX3_receiveWind 91 = .ok (.getfield 28, 3) := by decide +kernel
theorem dX3_receiveWind_94 : decode cX3_receiveWind 94 = .ok (.aload_n 0, 1) := by decide +kernel
theorem dX3_receiveWind_95 : decode cX3_receiveWind 95 = .ok (.bipush 8, 2) := by decide +kernel
theorem dX3_receiveWind_97 : decode cX3_receiveWind 97 = .ok (.iconst 2, 1) := by decide +kernel
theorem dX3_receiveWind_98 : decode cX3_receiveWind 98 = .ok (.invokevirtual 142, 3) := by decide +kernel
theorem dX3_receiveWind_101 : decode cX3_receiveWind 101 = .ok (.aload_n 0, 1) := by decide +kernel
theorem dX3_receiveWind_102 : decode cX3_receiveWind 102 = .ok (.getfield 155, 3) := by decide +kernel
theorem dX3_receiveWind_105 : decode cX3_receiveWind 105 = .ok (.iconst 0, 1) := by decide +kernel
theorem dX3_receiveWind_106 : decode cX3_receiveWind 106 = .ok (.invokevirtual 151, 3) := by decide +kernel
theorem dX3_receiveWind_109 : decode cX3_receiveWind 109 = .ok (.aload_n 0, 1) := by decide +kernel
theorem dX3_receiveWind_110 : decode cX3_receiveWind 110 = .ok (.iconst 2, 1) := by decide +kernel
theorem dX3_receiveWind_111 : decode cX3_receiveWind 111 = .ok (.invokevirtual 131, 3) := by decide +kernel
theorem dX3_receiveWind_114 : decode cX3_receiveWind 114 = .ok (.goto 15, 3) := by decide +kernel
theorem dX3_receiveWind_117 : decode cX3_receiveWind 117 = .ok (.aload_n 0, 1) := by decide +kernel
theorem dX3_receiveWind_118 : decode cX3_receiveWind 118 = .ok (.aload_n 0, 1) := by decide +kernel
theorem dX3_receiveWind_119 : decode cX3_receiveWind 119 = .ok (.getfield 28, 3) := by decide +kernel
theorem dX3_receiveWind_122 : decode cX3_receiveWind 122 = .ok (.iload_n 1, 1) := by decide +kernel
theorem dX3_receiveWind_123 : decode cX3_receiveWind 123 = .ok (.invokevirtual 207, 3) := by decide +kernel
theorem dX3_receiveWind_126 : decode cX3_receiveWind 126 = .ok (.invokevirtual 115, 3) := by decide +kernel
theorem dX3_receiveWind_129 : decode cX3_receiveWind 129 = .ok (.return_, 1) := by decide +kernel
theorem dX3_call_0 : decode cX3_call 0 = .ok (.aload_n 0, 1) := by decide +kernel
theorem dX3_call_1 : decode cX3_call 1 = .ok (.getfield 46, 3) := by decide +kernel
theorem dX3_call_4 : decode cX3_call 4 = .ok (.iload_n 1, 1) := by decide +kernel
theorem dX3_call_5 : decode cX3_call 5 = .ok (.invokevirtual 221, 3) := by decide +kernel
theorem dX3_call_8 : decode cX3_call 8 = .ok (.ifCond .ne 12, 3) := by decide +kernel
theorem dX3_call_11 : decode cX3_call 11 = .ok (.aload_n 0, 1) := by decide +kernel
theorem dX3_call_12 : decode cX3_call 12 = .ok (.getfield 12, 3) := by decide +kernel
theorem dX3_call_15 : decode cX3_call 15 = .ok (.iconst 3, 1) := by decide +kernel
theorem dX3_call_16 : decode cX3_call 16 = .ok (.putfield 86, 3) := by decide +kernel
theorem dX3_call_19 : decode cX3_call 19 = .ok (.return_, 1) := by decide +kernel
theorem dX3_call_20 : decode cX3_call 20 = .ok (.aload_n 0, 1) := by decide +kernel
theorem dX3_call_21 : decode cX3_call 21 = .ok (.aload_n 0, 1) := by decide +kernel
theorem dX3_call_22 : decode cX3_call 22 = .ok (.getfield 21, 3) := by decide +kernel
theorem dX3_call_25 : decode cX3_call 25 = .ok (.iconst 0, 1) := by decide +kernel
theorem dX3_call_26 : decode cX3_call 26 = .ok (.iconst 0, 1) := by decide +kernel
theorem dX3_call_27 : decode cX3_call 27 = .ok (.aload_n 0, 1) := by decide +kernel
theorem dX3_call_28 : decode cX3_call 28 = .ok (.getfield 155, 3) := by decide +kernel
theorem dX3_call_31 : decode cX3_call 31 = .ok (.invokevirtual 127, 3) := by decide +kernel
theorem dX3_call_34 : decode cX3_call 34 = .ok (.putfield 77, 3) := by decide +kernel
theorem dX3_call_37 : decode cX3_call 37 = .ok (.aload_n 0, 1) := by decide +kernel
theorem dX3_call_38 : decode cX3_call 38 = .ok (.aload_n 0, 1) := by decide +kernel
theorem dX3_call_39 : decode cX3_call 39 = .ok (.getfield 46, 3) := by decide +kernel
theorem dX3_call_42 : decode cX3_call 42 = .ok (.iload_n 1, 1) := by decide +kernel
theorem dX3_call_43 : decode cX3_call 43 = .ok (.invokevirtual 68, 3) := by decide +kernel
theorem dX3_call_46 : decode cX3_call 46 = .ok (.putfield 74, 3) := by decide +kernel
theorem dX3_call_49 : decode cX3_call 49 = .ok (.aload_n 0, 1) := by decide +kernel
theorem dX3_call_50 : decode cX3_call 50 = .ok (.iconst 0, 1) := by decide +kernel
theorem dX3_call_51 : decode cX3_call 51 = .ok (.putfield 64, 3) := by decide +kernel
theorem dX3_call_54 : decode cX3_call 54 = .ok (.return_, 1) := by decide +kernel
theorem dX3_go_0 : decode cX3_go 0 = .ok (.aload_n 0, 1) := by decide +kernel
theorem dX3_go_1 : decode cX3_go 1 = .ok (.getfield 43, 3) := by decide +kernel
theorem dX3_go_4 : decode cX3_go 4 = .ok (.iload_n 1, 1) := by decide +kernel
theorem dX3_go_5 : decode cX3_go 5 = .ok (.invokestatic 177, 3) := by decide +kernel
theorem dX3_go_8 : decode cX3_go 8 = .ok (.istore 4, 2) := by decide +kernel
theorem dX3_go_10 : decode cX3_go 10 = .ok (.iload 4, 2) := by decide +kernel
theorem dX3_go_12 : decode cX3_go 12 = .ok (.aload_n 0, 1) := by decide +kernel
theorem dX3_go_13 : decode cX3_go 13 = .ok (.getfield 83, 3) := by decide +kernel
theorem dX3_go_16 : decode cX3_go 16 = .ok (.if_icmp .ne 21, 3) := by decide +kernel
theorem dX3_go_19 : decode cX3_go 19 = .ok (.aload_n 0, 1) := by decide +kernel
theorem dX3_go_20 : decode cX3_go 20 = .ok (.aload_n 0, 1) := by decide +kernel
theorem dX3_go_21 : decode cX3_go 21 = .ok (.getfield 39, 3) := by decide +kernel
theorem dX3_go_24 : decode cX3_go 24 = .ok (.iload_n 1, 1) := by decide +kernel
theorem dX3_go_25 : decode cX3_go 25 = .ok (.invokestatic 177, 3) := by decide +kernel
theorem dX3_go_28 : decode cX3_go 28 = .ok (.putfield 80, 3) := by decide +kernel
theorem dX3_go_31 : decode cX3_go 31 = .ok (.aload_n 0, 1) := by decide +kernel
theorem dX3_go_32 : decode cX3_go 32 = .ok (.lload_n 2, 1) := by decide +kernel
theorem dX3_go_33 : decode cX3_go 33 = .ok (.invokevirtual 115, 3) := by decide +kernel
theorem dX3_go_36 : decode cX3_go 36 = .ok (.return_, 1) := by decide +kernel
theorem dX3_go_37 : decode cX3_go 37 = .ok (.aload_n 0, 1) := by decide +kernel
theorem dX3_go_38 : decode cX3_go 38 = .ok (.getfield 35, 3) := by decide +kernel
theorem dX3_go_41 : decode cX3_go 41 = .ok (.aload_n 0, 1) := by decide +kernel
theorem dX3_go_42 : decode cX3_go 42 = .ok (.getfield 83, 3) := by decide +kernel
theorem dX3_go_45 : decode cX3_go 45 = .ok (.iload 4, 2) := by decide +kernel
theorem dX3_go_47 : decode cX3_go 47 = .ok (.invokevirtual 204, 3) := by decide +kernel
theorem dX3_go_50 : decode cX3_go 50 = .ok (.istore 5, 2) := by decide +kernel
theorem dX3_go_52 : decode cX3_go 52 = .ok (.iload 5, 2) := by decide +kernel
theorem dX3_go_54 : decode cX3_go 54 = .ok (.ifCond .ne 7, 3) := by decide +kernel
theorem dX3_go_57 : decode cX3_go 57 = .ok (.iconst 1, 1) := by decide +kernel
theorem dX3_go_58 : decode cX3_go 58 = .ok (.goto 4, 3) := by decide +kernel
theorem dX3_go_61 : decode cX3_go 61 = .ok (.iconst 0, 1) := by decide +kernel
theorem dX3_go_62 : decode cX3_go 62 = .ok (.istore 6, 2) := by decide +kernel
theorem dX3_go_64 : decode cX3_go 64 = .ok (.iload 6, 2) := by decide +kernel
theorem dX3_go_66 : decode cX3_go 66 = .ok (.ifCond .eq 10, 3) := by decide +kernel
theorem dX3_go_69 : decode cX3_go 69 = .ok (.aload_n 0, 1) := by decide +kernel
theorem dX3_go_70 : decode cX3_go 70 = .ok (.getfield 83, 3) := by decide +kernel
theorem dX3_go_73 : decode cX3_go 73 = .ok (.goto 5, 3) := by decide +kernel
theorem dX3_go_76 : decode cX3_go 76 = .ok (.iload 5, 2) := by decide +kernel
theorem dX3_go_78 : decode cX3_go 78 = .ok (.istore 7, 2) := by decide +kernel
theorem dX3_go_80 : decode cX3_go 80 = .ok (.aload_n 0, 1) := by decide +kernel
theorem dX3_go_81 : decode cX3_go 81 = .ok (.iload 6, 2) := by decide +kernel
theorem dX3_go_83 : decode cX3_go 83 = .ok (.ifCond .eq 17, 3) := by decide +kernel
theorem dX3_go_86 : decode cX3_go 86 = .ok (.aload_n 0, 1) := by decide +kernel
theorem dX3_go_87 : decode cX3_go 87 = .ok (.getfield 35, 3) := by decide +kernel
theorem dX3_go_90 : decode cX3_go 90 = .ok (.aload_n 0, 1) := by decide +kernel
theorem dX3_go_91 : decode cX3_go 91 = .ok (.getfield 83, 3) := by decide +kernel
theorem dX3_go_94 : decode cX3_go 94 = .ok (.invokevirtual 220, 3) := by decide +kernel
theorem dX3_go_97 : decode cX3_go 97 = .ok (.goto 7, 3) := by decide +kernel
theorem dX3_go_100 : decode cX3_go 100 = .ok (.aload_n 0, 1) := by decide +kernel
theorem dX3_go_101 : decode cX3_go 101 = .ok (.getfield 83, 3) := by decide +kernel
theorem dX3_go_104 : decode cX3_go 104 = .ok (.putfield 83, 3) := by decide +kernel
theorem dX3_go_107 : decode cX3_go 107 = .ok (.aload_n 0, 1) := by decide +kernel
theorem dX3_go_108 : decode cX3_go 108 = .ok (.aload_n 0, 1) := by decide +kernel
theorem dX3_go_109 : decode cX3_go 109 = .ok (.getfield 35, 3) := by decide +kernel
theorem dX3_go_112 : decode cX3_go 112 = .ok (.iload 7, 2) := by decide +kernel
theorem dX3_go_114 : decode cX3_go 114 = .ok (.invokevirtual 225, 3) := by decide +kernel
theorem dX3_go_117 : decode cX3_go 117 = .ok (.putfield 74, 3) := by decide +kernel
theorem dX3_go_120 : decode cX3_go 120 = .ok (.aload_n 0, 1) := by decide +kernel
theorem dX3_go_121 : decode cX3_go 121 = .ok (.aload_n 0, 1) := by decide +kernel
theorem dX3_go_122 : decode cX3_go 122 = .ok (.getfield 35, 3) := by decide +kernel
theorem dX3_go_125 : decode cX3_go 125 = .ok (.iload 7, 2) := by decide +kernel
theorem dX3_go_127 : decode cX3_go 127 = .ok (.invokevirtual 226, 3) := by decide +kernel
theorem dX3_go_130 : decode cX3_go 130 = .ok (.putfield 77, 3) := by decide +kernel
theorem dX3_go_133 : decode cX3_go 133 = .ok (.aload_n 0, 1) := by decide +kernel
theorem dX3_go_134 : decode cX3_go 134 = .ok (.iconst 0, 1) := by decide +kernel
theorem dX3_go_135 : decode cX3_go 135 = .ok (.putfield 80, 3) := by decide +kernel
theorem dX3_go_138 : decode cX3_go 138 = .ok (.aload_n 0, 1) := by decide +kernel
theorem dX3_go_139 : decode cX3_go 139 = .ok (.getfield 28, 3) := by decide +kernel
theorem dX3_go_142 : decode cX3_go 142 = .ok (.aload_n 0, 1) := by decide +kernel
theorem dX3_go_143 : decode cX3_go 143 = .ok (.iload 6, 2) := by decide +kernel
theorem dX3_go_145 : decode cX3_go 145 = .ok (.ifCond .eq 8, 3) := by decide +kernel
theorem dX3_go_148 : decode cX3_go 148 = .ok (.bipush 9, 2) := by decide +kernel
theorem dX3_go_150 : decode cX3_go 150 = .ok (.goto 5, 3) := by decide +kernel
theorem dX3_go_153 : decode cX3_go 153 = .ok (.bipush 10, 2) := by decide +kernel
theorem dX3_go_155 : decode cX3_go 155 = .ok (.iconst 0, 1) := by decide +kernel
theorem dX3_go_156 : decode cX3_go 156 = .ok (.invokevirtual 142, 3) := by decide +kernel
theorem dX3_go_159 : decode cX3_go 159 = .ok (.lload_n 2, 1) := by decide +kernel
theorem dX3_go_160 : decode cX3_go 160 = .ok (.iload_n 1, 1) := by decide +kernel
theorem dX3_go_161 : decode cX3_go 161 = .ok (.invokevirtual 151, 3) := by decide +kernel
theorem dX3_go_164 : decode cX3_go 164 = .ok (.aload_n 0, 1) := by decide +kernel
theorem dX3_go_165 : decode cX3_go 165 = .ok (.iload 6, 2) := by decide +kernel
theorem dX3_go_167 : decode cX3_go 167 = .ok (.ifCond .eq 7, 3) := by decide +kernel
theorem dX3_go_170 : decode cX3_go 170 = .ok (.iconst 2, 1) := by decide +kernel
theorem dX3_go_171 : decode cX3_go 171 = .ok (.goto 4, 3) := by decide +kernel
theorem dX3_go_174 : decode cX3_go 174 = .ok (.iconst 0, 1) := by decide +kernel
theorem dX3_go_175 : decode cX3_go 175 = .ok (.invokevirtual 131, 3) := by decide +kernel
theorem dX3_go_178 : decode cX3_go 178 = .ok (.return_, 1) := by decide +kernel
theorem dX3_give_0 : decode cX3_give 0 = .ok (.aload_n 0, 1) := by decide +kernel
theorem dX3_give_1 : decode cX3_give 1 = .ok (.lload_n 1, 1) := by decide +kernel
theorem dX3_give_2 : decode cX3_give 2 = .ok (.putfield 155, 3) := by decide +kernel
theorem dX3_give_5 : decode cX3_give 5 = .ok (.aload_n 0, 1) := by decide +kernel
theorem dX3_give_6 : decode cX3_give 6 = .ok (.iconst 1, 1) := by decide +kernel
theorem dX3_give_7 : decode cX3_give 7 = .ok (.putfield 64, 3) := by decide +kernel
theorem dX3_give_10 : decode cX3_give 10 = .ok (.return_, 1) := by decide +kernel
theorem dX3_workOn_0 : decode cX3_workOn 0 = .ok (.aload_n 0, 1) := by decide +kernel
theorem dX3_workOn_1 : decode cX3_workOn 1 = .ok (.aload_n 0, 1) := by decide +kernel
theorem dX3_workOn_2 : decode cX3_workOn 2 = .ok (.getfield 46, 3) := by decide +kernel
theorem dX3_workOn_5 : decode cX3_workOn 5 = .ok (.aload_n 0, 1) := by decide +kernel
theorem dX3_workOn_6 : decode cX3_workOn 6 = .ok (.getfield 74, 3) := by decide +kernel
theorem dX3_workOn_9 : decode cX3_workOn 9 = .ok (.iload_n 1, 1) := by decide +kernel
theorem dX3_workOn_10 : decode cX3_workOn 10 = .ok (.invokevirtual 135, 3) := by decide +kernel
theorem dX3_workOn_13 : decode cX3_workOn 13 = .ok (.putfield 74, 3) := by decide +kernel
theorem dX3_workOn_16 : decode cX3_workOn 16 = .ok (.aload_n 0, 1) := by decide +kernel
theorem dX3_workOn_17 : decode cX3_workOn 17 = .ok (.iconst 0, 1) := by decide +kernel
theorem dX3_workOn_18 : decode cX3_workOn 18 = .ok (.putfield 64, 3) := by decide +kernel
theorem dX3_workOn_21 : decode cX3_workOn 21 = .ok (.return_, 1) := by decide +kernel
theorem dX3_lookUp_0 : decode cX3_lookUp 0 = .ok (.aload_n 0, 1) := by decide +kernel
theorem dX3_lookUp_1 : decode cX3_lookUp 1 = .ok (.getfield 21, 3) := by decide +kernel
theorem dX3_lookUp_4 : decode cX3_lookUp 4 = .ok (.aload_n 0, 1) := by decide +kernel
theorem dX3_lookUp_5 : decode cX3_lookUp 5 = .ok (.getfield 77, 3) := by decide +kernel
theorem dX3_lookUp_8 : decode cX3_lookUp 8 = .ok (.iload_n 1, 1) := by decide +kernel
theorem dX3_lookUp_9 : decode cX3_lookUp 9 = .ok (.invokevirtual 227, 3) := by decide +kernel
theorem dX3_lookUp_12 : decode cX3_lookUp 12 = .ok (.lstore_n 2, 1) := by decide +kernel
theorem dX3_lookUp_13 : decode cX3_lookUp 13 = .ok (.lload_n 2, 1) := by decide +kernel
theorem dX3_lookUp_14 : decode cX3_lookUp 14 = .ok (.ldc2_w 98, 3) := by decide +kernel
theorem dX3_lookUp_17 : decode cX3_lookUp 17 = .ok (.lcmp, 1) := by decide +kernel
theorem dX3_lookUp_18 : decode cX3_lookUp 18 = .ok (.ifCond .ne 18, 3) := by decide +kernel
theorem dX3_lookUp_21 : decode cX3_lookUp 21 = .ok (.aload_n 0, 1) := by decide +kernel
theorem dX3_lookUp_22 : decode cX3_lookUp 22 = .ok (.getfield 50, 3) := by decide +kernel
theorem dX3_lookUp_25 : decode cX3_lookUp 25 = .ok (.getfield 194, 3) := by decide +kernel
theorem dX3_lookUp_28 : decode cX3_lookUp 28 = .ok (.iload_n 1, 1) := by decide +kernel
theorem dX3_lookUp_29 : decode cX3_lookUp 29 = .ok (.invokestatic 177, 3) := by decide +kernel
theorem dX3_lookUp_32 : decode cX3_lookUp 32 = .ok (.i2l, 1) := by decide +kernel
theorem dX3_lookUp_33 : decode cX3_lookUp 33 = .ok (.goto 4, 3) := by decide +kernel
theorem dX3_lookUp_36 : decode cX3_lookUp 36 = .ok (.lload_n 2, 1) := by decide +kernel
theorem dX3_lookUp_37 : decode cX3_lookUp 37 = .ok (.lreturn, 1) := by decide +kernel
theorem dX3_caught_0 : decode cX3_caught 0 = .ok (.aload_n 0, 1) := by decide +kernel
theorem dX3_caught_1 : decode cX3_caught 1 = .ok (.getfield 60, 3) := by decide +kernel
theorem dX3_caught_4 : decode cX3_caught 4 = .ok (.istore_n 1, 1) := by decide +kernel
theorem dX3_caught_5 : decode cX3_caught 5 = .ok (.aload_n 0, 1) := by decide +kernel
theorem dX3_caught_6 : decode cX3_caught 6 = .ok (.dup, 1) := by decide +kernel
theorem dX3_caught_7 : decode cX3_caught 7 = .ok (.getfield 60, 3) := by decide +kernel
theorem dX3_caught_10 : decode cX3_caught 10 = .ok (.iconst 1, 1) := by decide +kernel
theorem dX3_caught_11 : decode cX3_caught 11 = .ok (.iadd, 1) := by decide +kernel
theorem dX3_caught_12 : decode cX3_caught 12 = .ok (.putfield 60, 3) := by decide +kernel
theorem dX3_caught_15 : decode cX3_caught 15 = .ok (.aload_n 0, 1) := by decide +kernel
theorem dX3_caught_16 : decode cX3_caught 16 = .ok (.getfield 39, 3) := by decide +kernel
theorem dX3_caught_19 : decode cX3_caught 19 = .ok (.iload_n 1, 1) := by decide +kernel
theorem dX3_caught_20 : decode cX3_caught 20 = .ok (.aload_n 0, 1) := by decide +kernel
theorem dX3_caught_21 : decode cX3_caught 21 = .ok (.getfield 80, 3) := by decide +kernel
theorem dX3_caught_24 : decode cX3_caught 24 = .ok (.invokestatic 197, 3) := by decide +kernel
theorem dX3_caught_27 : decode cX3_caught 27 = .ok (.aload_n 0, 1) := by decide +kernel
theorem dX3_caught_28 : decode cX3_caught 28 = .ok (.getfield 43, 3) := by decide +kernel
theorem dX3_caught_31 : decode cX3_caught 31 = .ok (.iload_n 1, 1) := by decide +kernel
theorem dX3_caught_32 : decode cX3_caught 32 = .ok (.aload_n 0, 1) := by decide +kernel
theorem dX3_caught_33 : decode cX3_caught 33 = .ok (.getfield 83, 3) := by decide +kernel
theorem dX3_caught_36 : decode cX3_caught 36 = .ok (.invokestatic 197, 3) := by decide +kernel
theorem dX3_caught_39 : decode cX3_caught 39 = .ok (.ldc2_w 149, 3) := by decide +kernel
theorem dX3_caught_42 : decode cX3_caught 42 = .ok (.iload_n 1, 1) := by decide +kernel
theorem dX3_caught_43 : decode cX3_caught 43 = .ok (.i2l, 1) := by decide +kernel
theorem dX3_caught_44 : decode cX3_caught 44 = .ok (.ladd, 1) := by decide +kernel
theorem dX3_caught_45 : decode cX3_caught 45 = .ok (.lreturn, 1) := by decide +kernel
theorem dX3_comes_0 : decode cX3_comes 0 = .ok (.aload_n 0, 1) := by decide +kernel
theorem dX3_comes_1 : decode cX3_comes 1 = .ok (.getfield 28, 3) := by decide +kernel
theorem dX3_comes_4 : decode cX3_comes 4 = .ok (.aload_n 0, 1) := by decide +kernel
theorem dX3_comes_5 : decode cX3_comes 5 = .ok (.getfield 80, 3) := by decide +kernel
theorem dX3_comes_8 : decode cX3_comes 8 = .ok (.iload_n 1, 1) := by decide +kernel
theorem dX3_comes_9 : decode cX3_comes 9 = .ok (.iload_n 2, 1) := by decide +kernel
theorem dX3_comes_10 : decode cX3_comes 10 = .ok (.aload_n 0, 1) := by decide +kernel
theorem dX3_comes_11 : decode cX3_comes 11 = .ok (.getfield 74, 3) := by decide +kernel
theorem dX3_comes_14 : decode cX3_comes 14 = .ok (.aload_n 0, 1) := by decide +kernel
theorem dX3_comes_15 : decode cX3_comes 15 = .ok (.getfield 77, 3) := by decide +kernel
theorem dX3_comes_18 : decode cX3_comes 18 = .ok (.invokevirtual 230, 3) := by decide +kernel
theorem dX3_comes_21 : decode cX3_comes 21 = .ok (.istore_n 3, 1) := by decide +kernel
theorem dX3_comes_22 : decode cX3_comes 22 = .ok (.iload_n 3, 1) := by decide +kernel
theorem dX3_comes_23 : decode cX3_comes 23 = .ok (.ifCond .ne 13, 3) := by decide +kernel
theorem dX3_comes_26 : decode cX3_comes 26 = .ok (.aload_n 0, 1) := by decide +kernel
theorem dX3_comes_27 : decode cX3_comes 27 = .ok (.getfield 12, 3) := by decide +kernel
theorem dX3_comes_30 : decode cX3_comes 30 = .ok (.iconst 4, 1) := by decide +kernel
theorem dX3_comes_31 : decode cX3_comes 31 = .ok (.putfield 86, 3) := by decide +kernel
theorem dX3_comes_34 : decode cX3_comes 34 = .ok (.iconst 0, 1) := by decide +kernel
theorem dX3_comes_35 : decode cX3_comes 35 = .ok (.ireturn, 1) := by decide +kernel
theorem dX3_comes_36 : decode cX3_comes 36 = .ok (.aload_n 0, 1) := by decide +kernel
theorem dX3_comes_37 : decode cX3_comes 37 = .ok (.iload_n 3, 1) := by decide +kernel
theorem dX3_comes_38 : decode cX3_comes 38 = .ok (.putfield 80, 3) := by decide +kernel
theorem dX3_comes_41 : decode cX3_comes 41 = .ok (.aload_n 0, 1) := by decide +kernel
theorem dX3_comes_42 : decode cX3_comes 42 = .ok (.getfield 12, 3) := by decide +kernel
theorem dX3_comes_45 : decode cX3_comes 45 = .ok (.aload_n 0, 1) := by decide +kernel
theorem dX3_comes_46 : decode cX3_comes 46 = .ok (.getfield 12, 3) := by decide +kernel
theorem dX3_comes_49 : decode cX3_comes 49 = .ok (.getfield 233, 3) := by decide +kernel
theorem dX3_comes_52 : decode cX3_comes 52 = .ok (.aload_n 0, 1) := by decide +kernel
theorem dX3_comes_53 : decode cX3_comes 53 = .ok (.getfield 28, 3) := by decide +kernel
theorem dX3_comes_56 : decode cX3_comes 56 = .ok (.iload_n 3, 1) := by decide +kernel
theorem dX3_comes_57 : decode cX3_comes 57 = .ok (.invokevirtual 100, 3) := by decide +kernel
theorem dX3_comes_60 : decode cX3_comes 60 = .ok (.invokestatic 236, 3) := by decide +kernel
theorem dX3_comes_63 : decode cX3_comes 63 = .ok (.putfield 233, 3) := by decide +kernel
theorem dX3_comes_66 : decode cX3_comes 66 = .ok (.iload_n 3, 1) := by decide +kernel
theorem dX3_comes_67 : decode cX3_comes 67 = .ok (.ireturn, 1) := by decide +kernel
theorem dX3_copyFrom_0 : decode cX3_copyFrom 0 = .ok (.aload_n 0, 1) := by decide +kernel
theorem dX3_copyFrom_1 : decode cX3_copyFrom 1 = .ok (.getfield 12, 3) := by decide +kernel
theorem dX3_copyFrom_4 : decode cX3_copyFrom 4 = .ok (.aload_n 1, 1) := by decide +kernel
theorem dX3_copyFrom_5 : decode cX3_copyFrom 5 = .ok (.getfield 12, 3) := by decide +kernel
theorem dX3_copyFrom_8 : decode cX3_copyFrom 8 = .ok (.invokevirtual 241, 3) := by decide +kernel
theorem dX3_copyFrom_11 : decode cX3_copyFrom 11 = .ok (.aload_n 0, 1) := by decide +kernel
theorem dX3_copyFrom_12 : decode cX3_copyFrom 12 = .ok (.getfield 21, 3) := by decide +kernel
theorem dX3_copyFrom_15 : decode cX3_copyFrom 15 = .ok (.aload_n 1, 1) := by decide +kernel
theorem dX3_copyFrom_16 : decode cX3_copyFrom 16 = .ok (.getfield 21, 3) := by decide +kernel
theorem dX3_copyFrom_19 : decode cX3_copyFrom 19 = .ok (.invokevirtual 245, 3) := by decide +kernel
theorem dX3_copyFrom_22 : decode cX3_copyFrom 22 = .ok (.aload_n 0, 1) := by decide +kernel
theorem dX3_copyFrom_23 : decode cX3_copyFrom 23 = .ok (.getfield 28, 3) := by decide +kernel
theorem dX3_copyFrom_26 : decode cX3_copyFrom 26 = .ok (.aload_n 1, 1) := by decide +kernel
theorem dX3_copyFrom_27 : decode cX3_copyFrom 27 = .ok (.getfield 28, 3) := by decide +kernel
theorem dX3_copyFrom_30 : decode cX3_copyFrom 30 = .ok (.invokevirtual 248, 3) := by decide +kernel
theorem dX3_copyFrom_33 : decode cX3_copyFrom 33 = .ok (.aload_n 0, 1) := by decide +kernel
theorem dX3_copyFrom_34 : decode cX3_copyFrom 34 = .ok (.getfield 35, 3) := by decide +kernel
theorem dX3_copyFrom_37 : decode cX3_copyFrom 37 = .ok (.aload_n 1, 1) := by decide +kernel
theorem dX3_copyFrom_38 : decode cX3_copyFrom 38 = .ok (.getfield 35, 3) := by decide +kernel
theorem dX3_copyFrom_41 : decode cX3_copyFrom 41 = .ok (.invokevirtual 251, 3) := by decide +kernel
theorem dX3_copyFrom_44 : decode cX3_copyFrom 44 = .ok (.aload_n 1, 1) := by decide +kernel
theorem dX3_copyFrom_45 : decode cX3_copyFrom 45 = .ok (.getfield 39, 3) := by decide +kernel
theorem dX3_copyFrom_48 : decode cX3_copyFrom 48 = .ok (.aload_n 0, 1) := by decide +kernel
theorem dX3_copyFrom_49 : decode cX3_copyFrom 49 = .ok (.getfield 39, 3) := by decide +kernel
theorem dX3_copyFrom_52 : decode cX3_copyFrom 52 = .ok (.invokestatic 254, 3) := by decide +kernel
theorem dX3_copyFrom_55 : decode cX3_copyFrom 55 = .ok (.aload_n 1, 1) := by decide +kernel
theorem dX3_copyFrom_56 : decode cX3_copyFrom 56 = .ok (.getfield 43, 3) := by decide +kernel
theorem dX3_copyFrom_59 : decode cX3_copyFrom 59 = .ok (.aload_n 0, 1) := by decide +kernel
theorem dX3_copyFrom_60 : decode cX3_copyFrom 60 = .ok (.getfield 43, 3) := by decide +kernel
theorem dX3_copyFrom_63 : decode cX3_copyFrom 63 = .ok (.invokestatic 254, 3) := by decide +kernel
theorem dX3_copyFrom_66 : decode cX3_copyFrom 66 = .ok (.aload_n 0, 1) := by decide +kernel
theorem dX3_copyFrom_67 : decode cX3_copyFrom 67 = .ok (.aload_n 1, 1) := by decide +kernel
theorem dX3_copyFrom_68 : decode cX3_copyFrom 68 = .ok (.getfield 60, 3) := by decide +kernel
theorem dX3_copyFrom_71 : decode cX3_copyFrom 71 = .ok (.putfield 60, 3) := by decide +kernel
theorem dX3_copyFrom_74 : decode cX3_copyFrom 74 = .ok (.aload_n 0, 1) := by decide +kernel
theorem dX3_copyFrom_75 : decode cX3_copyFrom 75 = .ok (.aload_n 1, 1) := by decide +kernel
theorem dX3_copyFrom_76 : decode cX3_copyFrom 76 = .ok (.getfield 64, 3) := by decide +kernel
theorem dX3_copyFrom_79 : decode cX3_copyFrom 79 = .ok (.putfield 64, 3) := by decide +kernel
theorem dX3_copyFrom_82 : decode cX3_copyFrom 82 = .ok (.aload_n 0, 1) := by decide +kernel
theorem dX3_copyFrom_83 : decode cX3_copyFrom 83 = .ok (.aload_n 1, 1) := by decide +kernel
theorem dX3_copyFrom_84 : decode cX3_copyFrom 84 = .ok (.getfield 74, 3) := by decide +kernel
theorem dX3_copyFrom_87 : decode cX3_copyFrom 87 = .ok (.putfield 74, 3) := by decide +kernel
theorem dX3_copyFrom_90 : decode cX3_copyFrom 90 = .ok (.aload_n 0, 1) := by decide +kernel
theorem dX3_copyFrom_91 : decode cX3_copyFrom 91 = .ok (.aload_n 1, 1) := by decide +kernel
theorem dX3_copyFrom_92 : decode cX3_copyFrom 92 = .ok (.getfield 77, 3) := by decide +kernel
theorem dX3_copyFrom_95 : decode cX3_copyFrom 95 = .ok (.putfield 77, 3) := by decide +kernel
theorem dX3_copyFrom_98 : decode cX3_copyFrom 98 = .ok (.aload_n 0, 1) := by decide +kernel
theorem dX3_copyFrom_99 : decode cX3_copyFrom 99 = .ok (.aload_n 1, 1) := by decide +kernel
theorem dX3_copyFrom_100 : decode cX3_copyFrom 100 = .ok (.getfield 155, 3) := by decide +kernel
theorem dX3_copyFrom_103 : decode cX3_copyFrom 103 = .ok (.putfield 155, 3) := by decide +kernel
theorem dX3_copyFrom_106 : decode cX3_copyFrom 106 = .ok (.aload_n 0, 1) := by decide +kernel
theorem dX3_copyFrom_107 : decode cX3_copyFrom 107 = .ok (.aload_n 1, 1) := by decide +kernel
theorem dX3_copyFrom_108 : decode cX3_copyFrom 108 = .ok (.getfield 80, 3) := by decide +kernel
theorem dX3_copyFrom_111 : decode cX3_copyFrom 111 = .ok (.putfield 80, 3) := by decide +kernel
theorem dX3_copyFrom_114 : decode cX3_copyFrom 114 = .ok (.aload_n 0, 1) := by decide +kernel
theorem dX3_copyFrom_115 : decode cX3_copyFrom 115 = .ok (.aload_n 1, 1) := by decide +kernel
theorem dX3_copyFrom_116 : decode cX3_copyFrom 116 = .ok (.getfield 83, 3) := by decide +kernel
theorem dX3_copyFrom_119 : decode cX3_copyFrom 119 = .ok (.putfield 83, 3) := by decide +kernel
theorem dX3_copyFrom_122 : decode cX3_copyFrom 122 = .ok (.return_, 1) := by decide +kernel
theorem dX4_init_0 : decode cX4_init 0 = .ok (.aload_n 0, 1) := by decide +kernel
theorem dX4_init_1 : decode cX4_init 1 = .ok (.invokespecial 3, 3) := by decide +kernel
theorem dX4_init_4 : decode cX4_init 4 = .ok (.aload_n 0, 1) := by decide +kernel
theorem dX4_init_5 : decode cX4_init 5 = .ok (.bipush (-9), 2) := by decide +kernel
theorem dX4_init_7 : decode cX4_init 7 = .ok (.putfield 9, 3) := by decide +kernel
theorem dX4_init_10 : decode cX4_init 10 = .ok (.aload_n 0, 1) := by decide +kernel
theorem dX4_init_11 : decode cX4_init 11 = .ok (.bipush 40, 2) := by decide +kernel
theorem dX4_init_13 : decode cX4_init 13 = .ok (.newarray .int, 2) := by decide +kernel
theorem dX4_init_15 : decode cX4_init 15 = .ok (.putfield 15, 3) := by decide +kernel
theorem dX4_init_18 : decode cX4_init 18 = .ok (.return_, 1) := by decide +kernel
theorem dX4_clear_0 : decode cX4_clear 0 = .ok (.aload_n 0, 1) := by decide +kernel
theorem dX4_clear_1 : decode cX4_clear 1 = .ok (.bipush (-5), 2) := by decide +kernel
theorem dX4_clear_3 : decode cX4_clear 3 = .ok (.putfield 9, 3) := by decide +kernel
theorem dX4_clear_6 : decode cX4_clear 6 = .ok (.aload_n 0, 1) := by decide +kernel
theorem dX4_clear_7 : decode cX4_clear 7 = .ok (.iconst 0, 1) := by decide +kernel
theorem dX4_clear_8 : decode cX4_clear 8 = .ok (.putfield 19, 3) := by decide +kernel
theorem dX4_clear_11 : decode cX4_clear 11 = .ok (.aload_n 0, 1) := by decide +kernel
theorem dX4_clear_12 : decode cX4_clear 12 = .ok (.iconst 0, 1) := by decide +kernel
theorem dX4_clear_13 : decode cX4_clear 13 = .ok (.putfield 22, 3) := by decide +kernel
theorem dX4_clear_16 : decode cX4_clear 16 = .ok (.aload_n 0, 1) := by decide +kernel
theorem dX4_clear_17 : decode cX4_clear 17 = .ok (.iconst 0, 1) := by decide +kernel
theorem dX4_clear_18 : decode cX4_clear 18 = .ok (.putfield 25, 3) := by decide +kernel
theorem dX4_clear_21 : decode cX4_clear 21 = .ok (.aload_n 0, 1) := by decide +kernel
theorem dX4_clear_22 : decode cX4_clear 22 = .ok (.lconst 0, 1) := by decide +kernel
theorem dX4_clear_23 : decode cX4_clear 23 = .ok (.putfield 28, 3) := by decide +kernel
theorem dX4_clear_26 : decode cX4_clear 26 = .ok (.return_, 1) := by decide +kernel
theorem dX4_over_0 : decode cX4_over 0 = .ok (.aload_n 0, 1) := by decide +kernel
theorem dX4_over_1 : decode cX4_over 1 = .ok (.iconst 0, 1) := by decide +kernel
theorem dX4_over_2 : decode cX4_over 2 = .ok (.putfield 9, 3) := by decide +kernel
theorem dX4_over_5 : decode cX4_over 5 = .ok (.aload_n 0, 1) := by decide +kernel
theorem dX4_over_6 : decode cX4_over 6 = .ok (.lload_n 1, 1) := by decide +kernel
theorem dX4_over_7 : decode cX4_over 7 = .ok (.putfield 28, 3) := by decide +kernel
theorem dX4_over_10 : decode cX4_over 10 = .ok (.return_, 1) := by decide +kernel
theorem dX4_write_0 : decode cX4_write 0 = .ok (.aload_n 0, 1) := by decide +kernel
theorem dX4_write_1 : decode cX4_write 1 = .ok (.getfield 25, 3) := by decide +kernel
theorem dX4_write_4 : decode cX4_write 4 = .ok (.bipush 40, 2) := by decide +kernel
theorem dX4_write_6 : decode cX4_write 6 = .ok (.if_icmp .ge 25, 3) := by decide +kernel
theorem dX4_write_9 : decode cX4_write 9 = .ok (.aload_n 0, 1) := by decide +kernel
theorem dX4_write_10 : decode cX4_write 10 = .ok (.getfield 15, 3) := by decide +kernel
theorem dX4_write_13 : decode cX4_write 13 = .ok (.aload_n 0, 1) := by decide +kernel
theorem dX4_write_14 : decode cX4_write 14 = .ok (.getfield 25, 3) := by decide +kernel
theorem dX4_write_17 : decode cX4_write 17 = .ok (.iload_n 1, 1) := by decide +kernel
theorem dX4_write_18 : decode cX4_write 18 = .ok (.invokestatic 32, 3) := by decide +kernel
theorem dX4_write_21 : decode cX4_write 21 = .ok (.aload_n 0, 1) := by decide +kernel
theorem dX4_write_22 : decode cX4_write 22 = .ok (.dup, 1) := by decide +kernel
theorem dX4_write_23 : decode cX4_write 23 = .ok (.getfield 25, 3) := by decide +kernel
theorem dX4_write_26 : decode cX4_write 26 = .ok (.iconst 1, 1) := by decide +kernel
theorem dX4_write_27 : decode cX4_write 27 = .ok (.iadd, 1) := by decide +kernel
theorem dX4_write_28 : decode cX4_write 28 = .ok (.putfield 25, 3) := by decide +kernel
theorem dX4_write_31 : decode cX4_write 31 = .ok (.return_, 1) := by decide +kernel
theorem dX4_answer_0 : decode cX4_answer 0 = .ok (.iload_n 1, 1) := by decide +kernel
theorem dX4_answer_1 : decode cX4_answer 1 = .ok (.tableswitch 87 0 4 #[35, 41, 69, 75, 81], 35) := by decide +kernel
theorem dX4_answer_36 : decode cX4_answer 36 = .ok (.aload_n 0, 1) := by decide +kernel
theorem dX4_answer_37 : decode cX4_answer 37 = .ok (.getfield 9, 3) := by decide +kernel
theorem dX4_answer_40 : decode cX4_answer 40 = .ok (.i2l, 1) := by decide +kernel
theorem dX4_answer_41 : decode cX4_answer 41 = .ok (.lreturn, 1) := by decide +kernel
theorem dX4_answer_42 : decode cX4_answer 42 = .ok (.aload_n 0, 1) := by decide +kernel
theorem dX4_answer_43 : decode cX4_answer 43 = .ok (.getfield 9, 3) := by decide +kernel
theorem dX4_answer_46 : decode cX4_answer 46 = .ok (.ifCond .ne 20, 3) := by decide +kernel
theorem dX4_answer_49 : decode cX4_answer 49 = .ok (.aload_n 0, 1) := by decide +kernel
theorem dX4_answer_50 : decode cX4_answer 50 = .ok (.getfield 28, 3) := by decide +kernel
theorem dX4_answer_53 : decode cX4_answer 53 = .ok (.invokestatic 36, 3) := by decide +kernel
theorem dX4_answer_56 : decode cX4_answer 56 = .ok (.ifCond .eq 10, 3) := by decide +kernel
theorem dX4_answer_59 : decode cX4_answer 59 = .ok (.aload_n 0, 1) := by decide +kernel
theorem dX4_answer_60 : decode cX4_answer 60 = .ok (.getfield 28, 3) := by decide +kernel
theorem dX4_answer_63 : decode cX4_answer 63 = .ok (.goto 6, 3) := by decide +kernel
theorem dX4_answer_66 : decode cX4_answer 66 = .ok (.ldc2_w 40, 3) := by decide +kernel
theorem dX4_answer_69 : decode cX4_answer 69 = .ok (.lreturn, 1) := by decide +kernel
theorem dX4_answer_70 : decode cX4_answer 70 = .ok (.aload_n 0, 1) := by decide +kernel
theorem dX4_answer_71 : decode cX4_answer 71 = .ok (.getfield 19, 3) := by decide +kernel
theorem dX4_answer_74 : decode cX4_answer 74 = .ok (.i2l, 1) := by decide +kernel
theorem dX4_answer_75 : decode cX4_answer 75 = .ok (.lreturn, 1) := by decide +kernel
theorem dX4_answer_76 : decode cX4_answer 76 = .ok (.aload_n 0, 1) := by decide +kernel
theorem dX4_answer_77 : decode cX4_answer 77 = .ok (.getfield 22, 3) := by decide +kernel
theorem dX4_answer_80 : decode cX4_answer 80 = .ok (.i2l, 1) := by decide +kernel
theorem dX4_answer_81 : decode cX4_answer 81 = .ok (.lreturn, 1) := by decide +kernel
theorem dX4_answer_82 : decode cX4_answer 82 = .ok (.aload_n 0, 1) := by decide +kernel
theorem dX4_answer_83 : decode cX4_answer 83 = .ok (.getfield 25, 3) := by decide +kernel
theorem dX4_answer_86 : decode cX4_answer 86 = .ok (.i2l, 1) := by decide +kernel
theorem dX4_answer_87 : decode cX4_answer 87 = .ok (.lreturn, 1) := by decide +kernel
theorem dX4_answer_88 : decode cX4_answer 88 = .ok (.iload_n 1, 1) := by decide +kernel
theorem dX4_answer_89 : decode cX4_answer 89 = .ok (.bipush 40, 2) := by decide +kernel
theorem dX4_answer_91 : decode cX4_answer 91 = .ok (.if_icmp .lt 29, 3) := by decide +kernel
theorem dX4_answer_94 : decode cX4_answer 94 = .ok (.iload_n 1, 1) := by decide +kernel
theorem dX4_answer_95 : decode cX4_answer 95 = .ok (.bipush 40, 2) := by decide +kernel
theorem dX4_answer_97 : decode cX4_answer 97 = .ok (.isub, 1) := by decide +kernel
theorem dX4_answer_98 : decode cX4_answer 98 = .ok (.aload_n 0, 1) := by decide +kernel
theorem dX4_answer_99 : decode cX4_answer 99 = .ok (.getfield 25, 3) := by decide +kernel
theorem dX4_answer_102 : decode cX4_answer 102 = .ok (.if_icmp .ge 18, 3) := by decide +kernel
theorem dX4_answer_105 : decode cX4_answer 105 = .ok (.aload_n 0, 1) := by decide +kernel
theorem dX4_answer_106 : decode cX4_answer 106 = .ok (.getfield 15, 3) := by decide +kernel
theorem dX4_answer_109 : decode cX4_answer 109 = .ok (.iload_n 1, 1) := by decide +kernel
theorem dX4_answer_110 : decode cX4_answer 110 = .ok (.bipush 40, 2) := by decide +kernel
theorem dX4_answer_112 : decode cX4_answer 112 = .ok (.isub, 1) := by decide +kernel
theorem dX4_answer_113 : decode cX4_answer 113 = .ok (.invokestatic 42, 3) := by decide +kernel
theorem dX4_answer_116 : decode cX4_answer 116 = .ok (.i2l, 1) := by decide +kernel
theorem dX4_answer_117 : decode cX4_answer 117 = .ok (.goto 6, 3) := by decide +kernel
theorem dX4_answer_120 : decode cX4_answer 120 = .ok (.ldc2_w 40, 3) := by decide +kernel
theorem dX4_answer_123 : decode cX4_answer 123 = .ok (.lreturn, 1) := by decide +kernel
theorem dX4_shows_0 : decode cX4_shows 0 = .ok (.iconst 0, 1) := by decide +kernel
theorem dX4_shows_1 : decode cX4_shows 1 = .ok (.istore_n 2, 1) := by decide +kernel
theorem dX4_shows_2 : decode cX4_shows 2 = .ok (.iload_n 2, 1) := by decide +kernel
theorem dX4_shows_3 : decode cX4_shows 3 = .ok (.aload_n 1, 1) := by decide +kernel
theorem dX4_shows_4 : decode cX4_shows 4 = .ok (.getfield 46, 3) := by decide +kernel
theorem dX4_shows_7 : decode cX4_shows 7 = .ok (.if_icmp .ge 47, 3) := by decide +kernel
theorem dX4_shows_10 : decode cX4_shows 10 = .ok (.aload_n 1, 1) := by decide +kernel
theorem dX4_shows_11 : decode cX4_shows 11 = .ok (.getfield 49, 3) := by decide +kernel
theorem dX4_shows_14 : decode cX4_shows 14 = .ok (.iload_n 2, 1) := by decide +kernel
theorem dX4_shows_15 : decode cX4_shows 15 = .ok (.invokestatic 42, 3) := by decide +kernel
theorem dX4_shows_18 : decode cX4_shows 18 = .ok (.istore_n 3, 1) := by decide +kernel
theorem dX4_shows_19 : decode cX4_shows 19 = .ok (.iload_n 3, 1) := by decide +kernel
theorem dX4_shows_20 : decode cX4_shows 20 = .ok (.aload_n 0, 1) := by decide +kernel
theorem dX4_shows_21 : decode cX4_shows 21 = .ok (.getfield 25, 3) := by decide +kernel
theorem dX4_shows_24 : decode cX4_shows 24 = .ok (.if_icmp .ge 22, 3) := by decide +kernel
theorem dX4_shows_27 : decode cX4_shows 27 = .ok (.aload_n 0, 1) := by decide +kernel
theorem dX4_shows_28 : decode cX4_shows 28 = .ok (.getfield 15, 3) := by decide +kernel
theorem dX4_shows_31 : decode cX4_shows 31 = .ok (.iload_n 3, 1) := by decide +kernel
theorem dX4_shows_32 : decode cX4_shows 32 = .ok (.invokestatic 42, 3) := by decide +kernel
theorem dX4_shows_35 : decode cX4_shows 35 = .ok (.aload_n 1, 1) := by decide +kernel
theorem dX4_shows_36 : decode cX4_shows 36 = .ok (.getfield 52, 3) := by decide +kernel
theorem dX4_shows_39 : decode cX4_shows 39 = .ok (.iload_n 2, 1) := by decide +kernel
theorem dX4_shows_40 : decode cX4_shows 40 = .ok (.invokestatic 42, 3) := by decide +kernel
theorem dX4_shows_43 : decode cX4_shows 43 = .ok (.if_icmp .eq 5, 3) := by decide +kernel
theorem dX4_shows_46 : decode cX4_shows 46 = .ok (.iconst 0, 1) := by decide +kernel
theorem dX4_shows_47 : decode cX4_shows 47 = .ok (.ireturn, 1) := by decide +kernel
theorem dX4_shows_48 : decode cX4_shows 48 = .ok (.iinc 2 1, 3) := by decide +kernel
theorem dX4_shows_51 : decode cX4_shows 51 = .ok (.goto (-49), 3) := by decide +kernel
theorem dX4_shows_54 : decode cX4_shows 54 = .ok (.iconst 1, 1) := by decide +kernel
theorem dX4_shows_55 : decode cX4_shows 55 = .ok (.ireturn, 1) := by decide +kernel
theorem dX4_sameAs_0 : decode cX4_sameAs 0 = .ok (.aload_n 0, 1) := by decide +kernel
theorem dX4_sameAs_1 : decode cX4_sameAs 1 = .ok (.getfield 9, 3) := by decide +kernel
theorem dX4_sameAs_4 : decode cX4_sameAs 4 = .ok (.aload_n 1, 1) := by decide +kernel
theorem dX4_sameAs_5 : decode cX4_sameAs 5 = .ok (.getfield 9, 3) := by decide +kernel
theorem dX4_sameAs_8 : decode cX4_sameAs 8 = .ok (.if_icmp .ne 32, 3) := by decide +kernel
theorem dX4_sameAs_11 : decode cX4_sameAs 11 = .ok (.aload_n 0, 1) := by decide +kernel
theorem dX4_sameAs_12 : decode cX4_sameAs 12 = .ok (.getfield 25, 3) := by decide +kernel
theorem dX4_sameAs_15 : decode cX4_sameAs 15 = .ok (.aload_n 1, 1) := by decide +kernel
theorem dX4_sameAs_16 : decode cX4_sameAs 16 = .ok (.getfield 25, 3) := by decide +kernel
theorem dX4_sameAs_19 : decode cX4_sameAs 19 = .ok (.if_icmp .ne 21, 3) := by decide +kernel
theorem dX4_sameAs_22 : decode cX4_sameAs 22 = .ok (.aload_n 0, 1) := by decide +kernel
theorem dX4_sameAs_23 : decode cX4_sameAs 23 = .ok (.iconst 1, 1) := by decide +kernel
theorem dX4_sameAs_24 : decode cX4_sameAs 24 = .ok (.invokevirtual 55, 3) := by decide +kernel
theorem dX4_sameAs_27 : decode cX4_sameAs 27 = .ok (.aload_n 1, 1) := by decide +kernel
theorem dX4_sameAs_28 : decode cX4_sameAs 28 = .ok (.iconst 1, 1) := by decide +kernel
theorem dX4_sameAs_29 : decode cX4_sameAs 29 = .ok (.invokevirtual 55, 3) := by decide +kernel
theorem dX4_sameAs_32 : decode cX4_sameAs 32 = .ok (.lcmp, 1) := by decide +kernel
theorem dX4_sameAs_33 : decode cX4_sameAs 33 = .ok (.ifCond .ne 7, 3) := by decide +kernel
theorem dX4_sameAs_36 : decode cX4_sameAs 36 = .ok (.iconst 1, 1) := by decide +kernel
theorem dX4_sameAs_37 : decode cX4_sameAs 37 = .ok (.goto 4, 3) := by decide +kernel
theorem dX4_sameAs_40 : decode cX4_sameAs 40 = .ok (.iconst 0, 1) := by decide +kernel
theorem dX4_sameAs_41 : decode cX4_sameAs 41 = .ok (.istore_n 2, 1) := by decide +kernel
theorem dX4_sameAs_42 : decode cX4_sameAs 42 = .ok (.iconst 0, 1) := by decide +kernel
theorem dX4_sameAs_43 : decode cX4_sameAs 43 = .ok (.istore_n 3, 1) := by decide +kernel
theorem dX4_sameAs_44 : decode cX4_sameAs 44 = .ok (.iload_n 3, 1) := by decide +kernel
theorem dX4_sameAs_45 : decode cX4_sameAs 45 = .ok (.aload_n 0, 1) := by decide +kernel
theorem dX4_sameAs_46 : decode cX4_sameAs 46 = .ok (.getfield 25, 3) := by decide +kernel
theorem dX4_sameAs_49 : decode cX4_sameAs 49 = .ok (.if_icmp .ge 38, 3) := by decide +kernel
theorem dX4_sameAs_52 : decode cX4_sameAs 52 = .ok (.iload_n 2, 1) := by decide +kernel
theorem dX4_sameAs_53 : decode cX4_sameAs 53 = .ok (.ifCond .eq 34, 3) := by decide +kernel
theorem dX4_sameAs_56 : decode cX4_sameAs 56 = .ok (.aload_n 0, 1) := by decide +kernel
theorem dX4_sameAs_57 : decode cX4_sameAs 57 = .ok (.getfield 15, 3) := by decide +kernel
theorem dX4_sameAs_60 : decode cX4_sameAs 60 = .ok (.iload_n 3, 1) := by decide +kernel
theorem dX4_sameAs_61 : decode cX4_sameAs 61 = .ok (.invokestatic 42, 3) := by decide +kernel
theorem dX4_sameAs_64 : decode cX4_sameAs 64 = .ok (.aload_n 1, 1) := by decide +kernel
theorem dX4_sameAs_65 : decode cX4_sameAs 65 = .ok (.getfield 15, 3) := by decide +kernel
theorem dX4_sameAs_68 : decode cX4_sameAs 68 = .ok (.iload_n 3, 1) := by decide +kernel
theorem dX4_sameAs_69 : decode cX4_sameAs 69 = .ok (.invokestatic 42, 3) := by decide +kernel
theorem dX4_sameAs_72 : decode cX4_sameAs 72 = .ok (.if_icmp .ne 7, 3) := by decide +kernel
theorem dX4_sameAs_75 : decode cX4_sameAs 75 = .ok (.iconst 1, 1) := by decide +kernel
theorem dX4_sameAs_76 : decode cX4_sameAs 76 = .ok (.goto 4, 3) := by decide +kernel
theorem dX4_sameAs_79 : decode cX4_sameAs 79 = .ok (.iconst 0, 1) := by decide +kernel
theorem dX4_sameAs_80 : decode cX4_sameAs 80 = .ok (.istore_n 2, 1) := by decide +kernel
theorem dX4_sameAs_81 : decode cX4_sameAs 81 = .ok (.iinc 3 1, 3) := by decide +kernel
theorem dX4_sameAs_84 : decode cX4_sameAs 84 = .ok (.goto (-40), 3) := by decide +kernel
theorem dX4_sameAs_87 : decode cX4_sameAs 87 = .ok (.iload_n 2, 1) := by decide +kernel
theorem dX4_sameAs_88 : decode cX4_sameAs 88 = .ok (.ireturn, 1) := by decide +kernel
theorem dX4_sum_0 : decode cX4_sum 0 = .ok (.lconst 0, 1) := by decide +kernel
theorem dX4_sum_1 : decode cX4_sum 1 = .ok (.lstore_n 1, 1) := by decide +kernel
theorem dX4_sum_2 : decode cX4_sum 2 = .ok (.iconst 0, 1) := by decide +kernel
theorem dX4_sum_3 : decode cX4_sum 3 = .ok (.istore_n 3, 1) := by decide +kernel
theorem dX4_sum_4 : decode cX4_sum 4 = .ok (.iload_n 3, 1) := by decide +kernel
theorem dX4_sum_5 : decode cX4_sum 5 = .ok (.aload_n 0, 1) := by decide +kernel
theorem dX4_sum_6 : decode cX4_sum 6 = .ok (.getfield 25, 3) := by decide +kernel
theorem dX4_sum_9 : decode cX4_sum 9 = .ok (.if_icmp .ge 21, 3) := by decide +kernel
theorem dX4_sum_12 : decode cX4_sum 12 = .ok (.lload_n 1, 1) := by decide +kernel
theorem dX4_sum_13 : decode cX4_sum 13 = .ok (.aload_n 0, 1) := by decide +kernel
theorem dX4_sum_14 : decode cX4_sum 14 = .ok (.getfield 15, 3) := by decide +kernel
theorem dX4_sum_17 : decode cX4_sum 17 = .ok (.iload_n 3, 1) := by decide +kernel
theorem dX4_sum_18 : decode cX4_sum 18 = .ok (.invokestatic 42, 3) := by decide +kernel
theorem dX4_sum_21 : decode cX4_sum 21 = .ok (.i2l, 1) := by decide +kernel
theorem dX4_sum_22 : decode cX4_sum 22 = .ok (.ladd, 1) := by decide +kernel
theorem dX4_sum_23 : decode cX4_sum 23 = .ok (.lstore_n 1, 1) := by decide +kernel
theorem dX4_sum_24 : decode cX4_sum 24 = .ok (.iinc 3 1, 3) := by decide +kernel
theorem dX4_sum_27 : decode cX4_sum 27 = .ok (.goto (-23), 3) := by decide +kernel
theorem dX4_sum_30 : decode cX4_sum 30 = .ok (.lload_n 1, 1) := by decide +kernel
theorem dX4_sum_31 : decode cX4_sum 31 = .ok (.lreturn, 1) := by decide +kernel
theorem dX4_copyFrom_0 : decode cX4_copyFrom 0 = .ok (.aload_n 0, 1) := by decide +kernel
theorem dX4_copyFrom_1 : decode cX4_copyFrom 1 = .ok (.aload_n 1, 1) := by decide +kernel
theorem dX4_copyFrom_2 : decode cX4_copyFrom 2 = .ok (.getfield 9, 3) := by decide +kernel
theorem dX4_copyFrom_5 : decode cX4_copyFrom 5 = .ok (.putfield 9, 3) := by decide +kernel
theorem dX4_copyFrom_8 : decode cX4_copyFrom 8 = .ok (.aload_n 0, 1) := by decide +kernel
theorem dX4_copyFrom_9 : decode cX4_copyFrom 9 = .ok (.aload_n 1, 1) := by decide +kernel
theorem dX4_copyFrom_10 : decode cX4_copyFrom 10 = .ok (.getfield 19, 3) := by decide +kernel
theorem dX4_copyFrom_13 : decode cX4_copyFrom 13 = .ok (.putfield 19, 3) := by decide +kernel
theorem dX4_copyFrom_16 : decode cX4_copyFrom 16 = .ok (.aload_n 0, 1) := by decide +kernel
theorem dX4_copyFrom_17 : decode cX4_copyFrom 17 = .ok (.aload_n 1, 1) := by decide +kernel
theorem dX4_copyFrom_18 : decode cX4_copyFrom 18 = .ok (.getfield 22, 3) := by decide +kernel
theorem dX4_copyFrom_21 : decode cX4_copyFrom 21 = .ok (.putfield 22, 3) := by decide +kernel
theorem dX4_copyFrom_24 : decode cX4_copyFrom 24 = .ok (.aload_n 0, 1) := by decide +kernel
theorem dX4_copyFrom_25 : decode cX4_copyFrom 25 = .ok (.aload_n 1, 1) := by decide +kernel
theorem dX4_copyFrom_26 : decode cX4_copyFrom 26 = .ok (.getfield 25, 3) := by decide +kernel
theorem dX4_copyFrom_29 : decode cX4_copyFrom 29 = .ok (.putfield 25, 3) := by decide +kernel
theorem dX4_copyFrom_32 : decode cX4_copyFrom 32 = .ok (.aload_n 0, 1) := by decide +kernel
theorem dX4_copyFrom_33 : decode cX4_copyFrom 33 = .ok (.aload_n 1, 1) := by decide +kernel
theorem dX4_copyFrom_34 : decode cX4_copyFrom 34 = .ok (.getfield 28, 3) := by decide +kernel
theorem dX4_copyFrom_37 : decode cX4_copyFrom 37 = .ok (.putfield 28, 3) := by decide +kernel
theorem dX4_copyFrom_40 : decode cX4_copyFrom 40 = .ok (.aload_n 1, 1) := by decide +kernel
theorem dX4_copyFrom_41 : decode cX4_copyFrom 41 = .ok (.getfield 15, 3) := by decide +kernel
theorem dX4_copyFrom_44 : decode cX4_copyFrom 44 = .ok (.aload_n 0, 1) := by decide +kernel
theorem dX4_copyFrom_45 : decode cX4_copyFrom 45 = .ok (.getfield 15, 3) := by decide +kernel
theorem dX4_copyFrom_48 : decode cX4_copyFrom 48 = .ok (.invokestatic 59, 3) := by decide +kernel
theorem dX4_copyFrom_51 : decode cX4_copyFrom 51 = .ok (.return_, 1) := by decide +kernel
theorem dX5_init_0 : decode cX5_init 0 = .ok (.aload_n 0, 1) := by decide +kernel
theorem dX5_init_1 : decode cX5_init 1 = .ok (.invokespecial 3, 3) := by decide +kernel
theorem dX5_init_4 : decode cX5_init 4 = .ok (.aload_n 0, 1) := by decide +kernel
theorem dX5_init_5 : decode cX5_init 5 = .ok (.bipush 100, 2) := by decide +kernel
theorem dX5_init_7 : decode cX5_init 7 = .ok (.newarray .int, 2) := by decide +kernel
theorem dX5_init_9 : decode cX5_init 9 = .ok (.putfield 9, 3) := by decide +kernel
theorem dX5_init_12 : decode cX5_init 12 = .ok (.aload_n 0, 1) := by decide +kernel
theorem dX5_init_13 : decode cX5_init 13 = .ok (.aload_n 1, 1) := by decide +kernel
theorem dX5_init_14 : decode cX5_init 14 = .ok (.putfield 15, 3) := by decide +kernel
theorem dX5_init_17 : decode cX5_init 17 = .ok (.return_, 1) := by decide +kernel
theorem dX5_append_0 : decode cX5_append 0 = .ok (.aload_n 0, 1) := by decide +kernel
theorem dX5_append_1 : decode cX5_append 1 = .ok (.getfield 19, 3) := by decide +kernel
theorem dX5_append_4 : decode cX5_append 4 = .ok (.aload_n 0, 1) := by decide +kernel
theorem dX5_append_5 : decode cX5_append 5 = .ok (.getfield 9, 3) := by decide +kernel
theorem dX5_append_8 : decode cX5_append 8 = .ok (.arraylength, 1) := by decide +kernel
theorem dX5_append_9 : decode cX5_append 9 = .ok (.if_icmp .lt 6, 3) := by decide +kernel
theorem dX5_append_12 : decode cX5_append 12 = .ok (.bipush (-4), 2) := by decide +kernel
theorem dX5_append_14 : decode cX5_append 14 = .ok (.ireturn, 1) := by decide +kernel
theorem dX5_append_15 : decode cX5_append 15 = .ok (.aload_n 0, 1) := by decide +kernel
theorem dX5_append_16 : decode cX5_append 16 = .ok (.getfield 9, 3) := by decide +kernel
theorem dX5_append_19 : decode cX5_append 19 = .ok (.aload_n 0, 1) := by decide +kernel
theorem dX5_append_20 : decode cX5_append 20 = .ok (.getfield 19, 3) := by decide +kernel
theorem dX5_append_23 : decode cX5_append 23 = .ok (.iload_n 1, 1) := by decide +kernel
theorem dX5_append_24 : decode cX5_append 24 = .ok (.invokestatic 23, 3) := by decide +kernel
theorem dX5_append_27 : decode cX5_append 27 = .ok (.aload_n 0, 1) := by decide +kernel
theorem dX5_append_28 : decode cX5_append 28 = .ok (.dup, 1) := by decide +kernel
theorem dX5_append_29 : decode cX5_append 29 = .ok (.getfield 19, 3) := by decide +kernel
theorem dX5_append_32 : decode cX5_append 32 = .ok (.iconst 1, 1) := by decide +kernel
theorem dX5_append_33 : decode cX5_append 33 = .ok (.iadd, 1) := by decide +kernel
theorem dX5_append_34 : decode cX5_append 34 = .ok (.putfield 19, 3) := by decide +kernel
theorem dX5_append_37 : decode cX5_append 37 = .ok (.aload_n 0, 1) := by decide +kernel
theorem dX5_append_38 : decode cX5_append 38 = .ok (.getfield 19, 3) := by decide +kernel
theorem dX5_append_41 : decode cX5_append 41 = .ok (.ireturn, 1) := by decide +kernel
theorem dX5_take_0 : decode cX5_take 0 = .ok (.aload_n 0, 1) := by decide +kernel
theorem dX5_take_1 : decode cX5_take 1 = .ok (.getfield 15, 3) := by decide +kernel
theorem dX5_take_4 : decode cX5_take 4 = .ok (.getfield 27, 3) := by decide +kernel
theorem dX5_take_7 : decode cX5_take 7 = .ok (.istore_n 1, 1) := by decide +kernel
theorem dX5_take_8 : decode cX5_take 8 = .ok (.aload_n 0, 1) := by decide +kernel
theorem dX5_take_9 : decode cX5_take 9 = .ok (.iconst 0, 1) := by decide +kernel
theorem dX5_take_10 : decode cX5_take 10 = .ok (.putfield 32, 3) := by decide +kernel
theorem dX5_take_13 : decode cX5_take 13 = .ok (.aload_n 0, 1) := by decide +kernel
theorem dX5_take_14 : decode cX5_take 14 = .ok (.iconst 0, 1) := by decide +kernel
theorem dX5_take_15 : decode cX5_take 15 = .ok (.invokevirtual 35, 3) := by decide +kernel
theorem dX5_take_18 : decode cX5_take 18 = .ok (.iload_n 1, 1) := by decide +kernel
theorem dX5_take_19 : decode cX5_take 19 = .ok (.if_icmp .ne 18, 3) := by decide +kernel
theorem dX5_take_22 : decode cX5_take 22 = .ok (.aload_n 0, 1) := by decide +kernel
theorem dX5_take_23 : decode cX5_take 23 = .ok (.getfield 32, 3) := by decide +kernel
theorem dX5_take_26 : decode cX5_take 26 = .ok (.aload_n 0, 1) := by decide +kernel
theorem dX5_take_27 : decode cX5_take 27 = .ok (.getfield 19, 3) := by decide +kernel
theorem dX5_take_30 : decode cX5_take 30 = .ok (.if_icmp .ne 7, 3) := by decide +kernel
theorem dX5_take_33 : decode cX5_take 33 = .ok (.iconst 1, 1) := by decide +kernel
theorem dX5_take_34 : decode cX5_take 34 = .ok (.goto 4, 3) := by decide +kernel
theorem dX5_take_37 : decode cX5_take 37 = .ok (.iconst 0, 1) := by decide +kernel
theorem dX5_take_38 : decode cX5_take 38 = .ok (.istore_n 2, 1) := by decide +kernel
theorem dX5_take_39 : decode cX5_take 39 = .ok (.aload_n 0, 1) := by decide +kernel
theorem dX5_take_40 : decode cX5_take 40 = .ok (.iconst 0, 1) := by decide +kernel
theorem dX5_take_41 : decode cX5_take 41 = .ok (.putfield 19, 3) := by decide +kernel
theorem dX5_take_44 : decode cX5_take 44 = .ok (.iload_n 2, 1) := by decide +kernel
theorem dX5_take_45 : decode cX5_take 45 = .ok (.ifCond .eq 12, 3) := by decide +kernel
theorem dX5_take_48 : decode cX5_take 48 = .ok (.aload_n 0, 1) := by decide +kernel
theorem dX5_take_49 : decode cX5_take 49 = .ok (.getfield 15, 3) := by decide +kernel
theorem dX5_take_52 : decode cX5_take 52 = .ok (.iload_n 1, 1) := by decide +kernel
theorem dX5_take_53 : decode cX5_take 53 = .ok (.invokevirtual 39, 3) := by decide +kernel
theorem dX5_take_56 : decode cX5_take 56 = .ok (.ireturn, 1) := by decide +kernel
theorem dX5_take_57 : decode cX5_take 57 = .ok (.aload_n 0, 1) := by decide +kernel
theorem dX5_take_58 : decode cX5_take 58 = .ok (.getfield 15, 3) := by decide +kernel
theorem dX5_take_61 : decode cX5_take 61 = .ok (.iload_n 1, 1) := by decide +kernel
theorem dX5_take_62 : decode cX5_take 62 = .ok (.putfield 27, 3) := by decide +kernel
theorem dX5_take_65 : decode cX5_take 65 = .ok (.bipush (-10), 2) := by decide +kernel
theorem dX5_take_67 : decode cX5_take 67 = .ok (.aload_n 0, 1) := by decide +kernel
theorem dX5_take_68 : decode cX5_take 68 = .ok (.getfield 32, 3) := by decide +kernel
theorem dX5_take_71 : decode cX5_take 71 = .ok (.isub, 1) := by decide +kernel
theorem dX5_take_72 : decode cX5_take 72 = .ok (.ireturn, 1) := by decide +kernel
theorem dX5_sign_0 : decode cX5_sign 0 = .ok (.aload_n 0, 1) := by decide +kernel
theorem dX5_sign_1 : decode cX5_sign 1 = .ok (.getfield 32, 3) := by decide +kernel
theorem dX5_sign_4 : decode cX5_sign 4 = .ok (.aload_n 0, 1) := by decide +kernel
theorem dX5_sign_5 : decode cX5_sign 5 = .ok (.getfield 19, 3) := by decide +kernel
theorem dX5_sign_8 : decode cX5_sign 8 = .ok (.if_icmp .ge 17, 3) := by decide +kernel
theorem dX5_sign_11 : decode cX5_sign 11 = .ok (.aload_n 0, 1) := by decide +kernel
theorem dX5_sign_12 : decode cX5_sign 12 = .ok (.getfield 9, 3) := by decide +kernel
theorem dX5_sign_15 : decode cX5_sign 15 = .ok (.aload_n 0, 1) := by decide +kernel
theorem dX5_sign_16 : decode cX5_sign 16 = .ok (.getfield 32, 3) := by decide +kernel
theorem dX5_sign_19 : decode cX5_sign 19 = .ok (.invokestatic 42, 3) := by decide +kernel
theorem dX5_sign_22 : decode cX5_sign 22 = .ok (.goto 4, 3) := by decide +kernel
theorem dX5_sign_25 : decode cX5_sign 25 = .ok (.iconst (-1), 1) := by decide +kernel
theorem dX5_sign_26 : decode cX5_sign 26 = .ok (.ireturn, 1) := by decide +kernel
theorem dX5_passed_0 : decode cX5_passed 0 = .ok (.aload_n 0, 1) := by decide +kernel
theorem dX5_passed_1 : decode cX5_passed 1 = .ok (.invokevirtual 46, 3) := by decide +kernel
theorem dX5_passed_4 : decode cX5_passed 4 = .ok (.iload_n 1, 1) := by decide +kernel
theorem dX5_passed_5 : decode cX5_passed 5 = .ok (.if_icmp .eq 5, 3) := by decide +kernel
theorem dX5_passed_8 : decode cX5_passed 8 = .ok (.iconst 0, 1) := by decide +kernel
theorem dX5_passed_9 : decode cX5_passed 9 = .ok (.ireturn, 1) := by decide +kernel
theorem dX5_passed_10 : decode cX5_passed 10 = .ok (.aload_n 0, 1) := by decide +kernel
theorem dX5_passed_11 : decode cX5_passed 11 = .ok (.dup, 1) := by decide +kernel
theorem dX5_passed_12 : decode cX5_passed 12 = .ok (.getfield 32, 3) := by decide +kernel
theorem dX5_passed_15 : decode cX5_passed 15 = .ok (.iconst 1, 1) := by decide +kernel
theorem dX5_passed_16 : decode cX5_passed 16 = .ok (.iadd, 1) := by decide +kernel
theorem dX5_passed_17 : decode cX5_passed 17 = .ok (.putfield 32, 3) := by decide +kernel
theorem dX5_passed_20 : decode cX5_passed 20 = .ok (.iconst 1, 1) := by decide +kernel
theorem dX5_passed_21 : decode cX5_passed 21 = .ok (.ireturn, 1) := by decide +kernel
theorem dX5_expression_0 : decode cX5_expression 0 = .ok (.aload_n 0, 1) := by decide +kernel
theorem dX5_expression_1 : decode cX5_expression 1 = .ok (.invokevirtual 46, 3) := by decide +kernel
theorem dX5_expression_4 : decode cX5_expression 4 = .ok (.istore_n 2, 1) := by decide +kernel
theorem dX5_expression_5 : decode cX5_expression 5 = .ok (.iload_n 2, 1) := by decide +kernel
theorem dX5_expression_6 : decode cX5_expression 6 = .ok (.invokestatic 50, 3) := by decide +kernel
theorem dX5_expression_9 : decode cX5_expression 9 = .ok (.ifCond .eq 8, 3) := by decide +kernel
theorem dX5_expression_12 : decode cX5_expression 12 = .ok (.aload_n 0, 1) := by decide +kernel
theorem dX5_expression_13 : decode cX5_expression 13 = .ok (.invokevirtual 54, 3) := by decide +kernel
theorem dX5_expression_16 : decode cX5_expression 16 = .ok (.ireturn, 1) := by decide +kernel
theorem dX5_expression_17 : decode cX5_expression 17 = .ok (.iload_n 2, 1) := by decide +kernel
theorem dX5_expression_18 : decode cX5_expression 18 = .ok (.invokestatic 57, 3) := by decide +kernel
theorem dX5_expression_21 : decode cX5_expression 21 = .ok (.ifCond .eq 27, 3) := by decide +kernel
theorem dX5_expression_24 : decode cX5_expression 24 = .ok (.aload_n 0, 1) := by decide +kernel
theorem dX5_expression_25 : decode cX5_expression 25 = .ok (.dup, 1) := by decide +kernel
theorem dX5_expression_26 : decode cX5_expression 26 = .ok (.getfield 32, 3) := by decide +kernel
theorem dX5_expression_29 : decode cX5_expression 29 = .ok (.iconst 1, 1) := by decide +kernel
theorem dX5_expression_30 : decode cX5_expression 30 = .ok (.iadd, 1) := by decide +kernel
theorem dX5_expression_31 : decode cX5_expression 31 = .ok (.putfield 32, 3) := by decide +kernel
theorem dX5_expression_34 : decode cX5_expression 34 = .ok (.aload_n 0, 1) := by decide +kernel
theorem dX5_expression_35 : decode cX5_expression 35 = .ok (.getfield 15, 3) := by decide +kernel
theorem dX5_expression_38 : decode cX5_expression 38 = .ok (.bipush 12, 2) := by decide +kernel
theorem dX5_expression_40 : decode cX5_expression 40 = .ok (.iload_n 2, 1) := by decide +kernel
theorem dX5_expression_41 : decode cX5_expression 41 = .ok (.bipush 97, 2) := by decide +kernel
theorem dX5_expression_43 : decode cX5_expression 43 = .ok (.isub, 1) := by decide +kernel
theorem dX5_expression_44 : decode cX5_expression 44 = .ok (.invokevirtual 60, 3) := by decide +kernel
theorem dX5_expression_47 : decode cX5_expression 47 = .ok (.ireturn, 1) := by decide +kernel
theorem dX5_expression_48 : decode cX5_expression 48 = .ok (.iload_n 1, 1) := by decide +kernel
theorem dX5_expression_49 : decode cX5_expression 49 = .ok (.bipush 7, 2) := by decide +kernel
theorem dX5_expression_51 : decode cX5_expression 51 = .ok (.if_icmp .ge 10, 3) := by decide +kernel
theorem dX5_expression_54 : decode cX5_expression 54 = .ok (.iload_n 2, 1) := by decide +kernel
theorem dX5_expression_55 : decode cX5_expression 55 = .ok (.invokestatic 64, 3) := by decide +kernel
theorem dX5_expression_58 : decode cX5_expression 58 = .ok (.goto 4, 3) := by decide +kernel
theorem dX5_expression_61 : decode cX5_expression 61 = .ok (.iconst (-1), 1) := by decide +kernel
theorem dX5_expression_62 : decode cX5_expression 62 = .ok (.istore_n 3, 1) := by decide +kernel
theorem dX5_expression_63 : decode cX5_expression 63 = .ok (.iload_n 3, 1) := by decide +kernel
theorem dX5_expression_64 : decode cX5_expression 64 = .ok (.ifCond .ge 5, 3) := by decide +kernel
theorem dX5_expression_67 : decode cX5_expression 67 = .ok (.iconst (-1), 1) := by decide +kernel
theorem dX5_expression_68 : decode cX5_expression 68 = .ok (.ireturn, 1) := by decide +kernel
theorem dX5_expression_69 : decode cX5_expression 69 = .ok (.aload_n 0, 1) := by decide +kernel
theorem dX5_expression_70 : decode cX5_expression 70 = .ok (.dup, 1) := by decide +kernel
theorem dX5_expression_71 : decode cX5_expression 71 = .ok (.getfield 32, 3) := by decide +kernel
theorem dX5_expression_74 : decode cX5_expression 74 = .ok (.iconst 1, 1) := by decide +kernel
theorem dX5_expression_75 : decode cX5_expression 75 = .ok (.iadd, 1) := by decide +kernel
theorem dX5_expression_76 : decode cX5_expression 76 = .ok (.putfield 32, 3) := by decide +kernel
theorem dX5_expression_79 : decode cX5_expression 79 = .ok (.iload_n 3, 1) := by decide +kernel
theorem dX5_expression_80 : decode cX5_expression 80 = .ok (.iconst 3, 1) := by decide +kernel
theorem dX5_expression_81 : decode cX5_expression 81 = .ok (.if_icmp .ne 11, 3) := by decide +kernel
theorem dX5_expression_84 : decode cX5_expression 84 = .ok (.aload_n 0, 1) := by decide +kernel
theorem dX5_expression_85 : decode cX5_expression 85 = .ok (.iload_n 1, 1) := by decide +kernel
theorem dX5_expression_86 : decode cX5_expression 86 = .ok (.iconst 1, 1) := by decide +kernel
theorem dX5_expression_87 : decode cX5_expression 87 = .ok (.iadd, 1) := by decide +kernel
theorem dX5_expression_88 : decode cX5_expression 88 = .ok (.invokevirtual 67, 3) := by decide +kernel
theorem dX5_expression_91 : decode cX5_expression 91 = .ok (.ireturn, 1) := by decide +kernel
theorem dX5_expression_92 : decode cX5_expression 92 = .ok (.iload_n 3, 1) := by decide +kernel
theorem dX5_expression_93 : decode cX5_expression 93 = .ok (.iconst 4, 1) := by decide +kernel
theorem dX5_expression_94 : decode cX5_expression 94 = .ok (.if_icmp .ne 10, 3) := by decide +kernel
theorem dX5_expression_97 : decode cX5_expression 97 = .ok (.iload_n 2, 1) := by decide +kernel
theorem dX5_expression_98 : decode cX5_expression 98 = .ok (.bipush 70, 2) := by decide +kernel
theorem dX5_expression_100 : decode cX5_expression 100 = .ok (.isub, 1) := by decide +kernel
theorem dX5_expression_101 : decode cX5_expression 101 = .ok (.goto 4, 3) := by decide +kernel
theorem dX5_expression_104 : decode cX5_expression 104 = .ok (.iload_n 2, 1) := by decide +kernel
theorem dX5_expression_105 : decode cX5_expression 105 = .ok (.istore 4, 2) := by decide +kernel
theorem dX5_expression_107 : decode cX5_expression 107 = .ok (.iload_n 3, 1) := by decide +kernel
theorem dX5_expression_108 : decode cX5_expression 108 = .ok (.iconst 2, 1) := by decide +kernel
theorem dX5_expression_109 : decode cX5_expression 109 = .ok (.if_icmp .eq 20, 3) := by decide +kernel
theorem dX5_expression_112 : decode cX5_expression 112 = .ok (.iload_n 3, 1) := by decide +kernel
theorem dX5_expression_113 : decode cX5_expression 113 = .ok (.bipush 13, 2) := by decide +kernel
theorem dX5_expression_115 : decode cX5_expression 115 = .ok (.if_icmp .eq 14, 3) := by decide +kernel
theorem dX5_expression_118 : decode cX5_expression 118 = .ok (.iload_n 3, 1) := by decide +kernel
theorem dX5_expression_119 : decode cX5_expression 119 = .ok (.iconst 5, 1) := by decide +kernel
theorem dX5_expression_120 : decode cX5_expression 120 = .ok (.if_icmp .eq 9, 3) := by decide +kernel
theorem dX5_expression_123 : decode cX5_expression 123 = .ok (.iload_n 3, 1) := by decide +kernel
theorem dX5_expression_124 : decode cX5_expression 124 = .ok (.bipush 7, 2) := by decide +kernel
theorem dX5_expression_126 : decode cX5_expression 126 = .ok (.if_icmp .ne 34, 3) := by decide +kernel
theorem dX5_expression_129 : decode cX5_expression 129 = .ok (.aload_n 0, 1) := by decide +kernel
theorem dX5_expression_130 : decode cX5_expression 130 = .ok (.invokevirtual 46, 3) := by decide +kernel
theorem dX5_expression_133 : decode cX5_expression 133 = .ok (.invokestatic 57, 3) := by decide +kernel
theorem dX5_expression_136 : decode cX5_expression 136 = .ok (.ifCond .ne 5, 3) := by decide +kernel
theorem dX5_expression_139 : decode cX5_expression 139 = .ok (.iconst (-1), 1) := by decide +kernel
theorem dX5_expression_140 : decode cX5_expression 140 = .ok (.ireturn, 1) := by decide +kernel
theorem dX5_expression_141 : decode cX5_expression 141 = .ok (.aload_n 0, 1) := by decide +kernel
theorem dX5_expression_142 : decode cX5_expression 142 = .ok (.invokevirtual 46, 3) := by decide +kernel
theorem dX5_expression_145 : decode cX5_expression 145 = .ok (.bipush 97, 2) := by decide +kernel
theorem dX5_expression_147 : decode cX5_expression 147 = .ok (.isub, 1) := by decide +kernel
theorem dX5_expression_148 : decode cX5_expression 148 = .ok (.istore 4, 2) := by decide +kernel
theorem dX5_expression_150 : decode cX5_expression 150 = .ok (.aload_n 0, 1) := by decide +kernel
theorem dX5_expression_151 : decode cX5_expression 151 = .ok (.dup, 1) := by decide +kernel
theorem dX5_expression_152 : decode cX5_expression 152 = .ok (.getfield 32, 3) := by decide +kernel
theorem dX5_expression_155 : decode cX5_expression 155 = .ok (.iconst 1, 1) := by decide +kernel
theorem dX5_expression_156 : decode cX5_expression 156 = .ok (.iadd, 1) := by decide +kernel
theorem dX5_expression_157 : decode cX5_expression 157 = .ok (.putfield 32, 3) := by decide +kernel
theorem dX5_expression_160 : decode cX5_expression 160 = .ok (.aload_n 0, 1) := by decide +kernel
theorem dX5_expression_161 : decode cX5_expression 161 = .ok (.aload_n 0, 1) := by decide +kernel
theorem dX5_expression_162 : decode cX5_expression 162 = .ok (.getfield 15, 3) := by decide +kernel
theorem dX5_expression_165 : decode cX5_expression 165 = .ok (.iload_n 3, 1) := by decide +kernel
theorem dX5_expression_166 : decode cX5_expression 166 = .ok (.iload 4, 2) := by decide +kernel
theorem dX5_expression_168 : decode cX5_expression 168 = .ok (.invokevirtual 60, 3) := by decide +kernel
theorem dX5_expression_171 : decode cX5_expression 171 = .ok (.iload_n 3, 1) := by decide +kernel
theorem dX5_expression_172 : decode cX5_expression 172 = .ok (.invokestatic 70, 3) := by decide +kernel
theorem dX5_expression_175 : decode cX5_expression 175 = .ok (.iload_n 1, 1) := by decide +kernel
theorem dX5_expression_176 : decode cX5_expression 176 = .ok (.iconst 1, 1) := by decide +kernel
theorem dX5_expression_177 : decode cX5_expression 177 = .ok (.iadd, 1) := by decide +kernel
theorem dX5_expression_178 : decode cX5_expression 178 = .ok (.invokevirtual 73, 3) := by decide +kernel
theorem dX5_expression_181 : decode cX5_expression 181 = .ok (.ireturn, 1) := by decide +kernel
theorem dX5_digits_0 : decode cX5_digits 0 = .ok (.iconst 0, 1) := by decide +kernel
theorem dX5_digits_1 : decode cX5_digits 1 = .ok (.istore_n 1, 1) := by decide +kernel
theorem dX5_digits_2 : decode cX5_digits 2 = .ok (.iconst 0, 1) := by decide +kernel
theorem dX5_digits_3 : decode cX5_digits 3 = .ok (.istore_n 2, 1) := by decide +kernel
theorem dX5_digits_4 : decode cX5_digits 4 = .ok (.iload_n 2, 1) := by decide +kernel
theorem dX5_digits_5 : decode cX5_digits 5 = .ok (.iconst 3, 1) := by decide +kernel
theorem dX5_digits_6 : decode cX5_digits 6 = .ok (.if_icmp .ge 42, 3) := by decide +kernel
theorem dX5_digits_9 : decode cX5_digits 9 = .ok (.aload_n 0, 1) := by decide +kernel
theorem dX5_digits_10 : decode cX5_digits 10 = .ok (.invokevirtual 46, 3) := by decide +kernel
theorem dX5_digits_13 : decode cX5_digits 13 = .ok (.invokestatic 50, 3) := by decide +kernel
theorem dX5_digits_16 : decode cX5_digits 16 = .ok (.ifCond .eq 32, 3) := by decide +kernel
theorem dX5_digits_19 : decode cX5_digits 19 = .ok (.iload_n 1, 1) := by decide +kernel
theorem dX5_digits_20 : decode cX5_digits 20 = .ok (.bipush 10, 2) := by decide +kernel
theorem dX5_digits_22 : decode cX5_digits 22 = .ok (.imul, 1) := by decide +kernel
theorem dX5_digits_23 : decode cX5_digits 23 = .ok (.aload_n 0, 1) := by decide +kernel
theorem dX5_digits_24 : decode cX5_digits 24 = .ok (.invokevirtual 46, 3) := by decide +kernel
theorem dX5_digits_27 : decode cX5_digits 27 = .ok (.iadd, 1) := by decide +kernel
theorem dX5_digits_28 : decode cX5_digits 28 = .ok (.bipush 48, 2) := by decide +kernel
theorem dX5_digits_30 : decode cX5_digits 30 = .ok (.isub, 1) := by decide +kernel
theorem dX5_digits_31 : decode cX5_digits 31 = .ok (.istore_n 1, 1) := by decide +kernel
theorem dX5_digits_32 : decode cX5_digits 32 = .ok (.aload_n 0, 1) := by decide +kernel
theorem dX5_digits_33 : decode cX5_digits 33 = .ok (.dup, 1) := by decide +kernel
theorem dX5_digits_34 : decode cX5_digits 34 = .ok (.getfield 32, 3) := by decide +kernel
theorem dX5_digits_37 : decode cX5_digits 37 = .ok (.iconst 1, 1) := by decide +kernel
theorem dX5_digits_38 : decode cX5_digits 38 = .ok (.iadd, 1) := by decide +kernel
theorem dX5_digits_39 : decode cX5_digits 39 = .ok (.putfield 32, 3) := by decide +kernel
theorem dX5_digits_42 : decode cX5_digits 42 = .ok (.iinc 2 1, 3) := by decide +kernel
theorem dX5_digits_45 : decode cX5_digits 45 = .ok (.goto (-41), 3) := by decide +kernel
theorem dX5_digits_48 : decode cX5_digits 48 = .ok (.aload_n 0, 1) := by decide +kernel
theorem dX5_digits_49 : decode cX5_digits 49 = .ok (.getfield 15, 3) := by decide +kernel
theorem dX5_digits_52 : decode cX5_digits 52 = .ok (.bipush 11, 2) := by decide +kernel
theorem dX5_digits_54 : decode cX5_digits 54 = .ok (.iload_n 1, 1) := by decide +kernel
theorem dX5_digits_55 : decode cX5_digits 55 = .ok (.invokevirtual 60, 3) := by decide +kernel
theorem dX5_digits_58 : decode cX5_digits 58 = .ok (.ireturn, 1) := by decide +kernel
theorem dX5_parts_0 : decode cX5_parts 0 = .ok (.iconst 0, 1) := by decide +kernel
theorem dX5_parts_1 : decode cX5_parts 1 = .ok (.istore 4, 2) := by decide +kernel
theorem dX5_parts_3 : decode cX5_parts 3 = .ok (.iload 4, 2) := by decide +kernel
theorem dX5_parts_5 : decode cX5_parts 5 = .ok (.iload_n 2, 1) := by decide +kernel
theorem dX5_parts_6 : decode cX5_parts 6 = .ok (.if_icmp .ge 58, 3) := by decide +kernel
theorem dX5_parts_9 : decode cX5_parts 9 = .ok (.aload_n 0, 1) := by decide +kernel
theorem dX5_parts_10 : decode cX5_parts 10 = .ok (.iload 4, 2) := by decide +kernel
theorem dX5_parts_12 : decode cX5_parts 12 = .ok (.ifCond .ne 8, 3) := by decide +kernel
theorem dX5_parts_15 : decode cX5_parts 15 = .ok (.bipush 40, 2) := by decide +kernel
theorem dX5_parts_17 : decode cX5_parts 17 = .ok (.goto 5, 3) := by decide +kernel
theorem dX5_parts_20 : decode cX5_parts 20 = .ok (.bipush 44, 2) := by decide +kernel
theorem dX5_parts_22 : decode cX5_parts 22 = .ok (.invokevirtual 77, 3) := by decide +kernel
theorem dX5_parts_25 : decode cX5_parts 25 = .ok (.ifCond .eq 11, 3) := by decide +kernel
theorem dX5_parts_28 : decode cX5_parts 28 = .ok (.aload_n 0, 1) := by decide +kernel
theorem dX5_parts_29 : decode cX5_parts 29 = .ok (.iload_n 3, 1) := by decide +kernel
theorem dX5_parts_30 : decode cX5_parts 30 = .ok (.invokevirtual 35, 3) := by decide +kernel
theorem dX5_parts_33 : decode cX5_parts 33 = .ok (.goto 4, 3) := by decide +kernel
theorem dX5_parts_36 : decode cX5_parts 36 = .ok (.iconst (-1), 1) := by decide +kernel
theorem dX5_parts_37 : decode cX5_parts 37 = .ok (.istore 5, 2) := by decide +kernel
theorem dX5_parts_39 : decode cX5_parts 39 = .ok (.iload 5, 2) := by decide +kernel
theorem dX5_parts_41 : decode cX5_parts 41 = .ok (.ifCond .ge 5, 3) := by decide +kernel
theorem dX5_parts_44 : decode cX5_parts 44 = .ok (.iconst (-1), 1) := by decide +kernel
theorem dX5_parts_45 : decode cX5_parts 45 = .ok (.ireturn, 1) := by decide +kernel
theorem dX5_parts_46 : decode cX5_parts 46 = .ok (.aload_n 0, 1) := by decide +kernel
theorem dX5_parts_47 : decode cX5_parts 47 = .ok (.getfield 15, 3) := by decide +kernel
theorem dX5_parts_50 : decode cX5_parts 50 = .ok (.iload_n 1, 1) := by decide +kernel
theorem dX5_parts_51 : decode cX5_parts 51 = .ok (.iload 4, 2) := by decide +kernel
theorem dX5_parts_53 : decode cX5_parts 53 = .ok (.iload 5, 2) := by decide +kernel
theorem dX5_parts_55 : decode cX5_parts 55 = .ok (.invokevirtual 81, 3) := by decide +kernel
theorem dX5_parts_58 : decode cX5_parts 58 = .ok (.iinc 4 1, 3) := by decide +kernel
theorem dX5_parts_61 : decode cX5_parts 61 = .ok (.goto (-58), 3) := by decide +kernel
theorem dX5_parts_64 : decode cX5_parts 64 = .ok (.aload_n 0, 1) := by decide +kernel
theorem dX5_parts_65 : decode cX5_parts 65 = .ok (.bipush 41, 2) := by decide +kernel
theorem dX5_parts_67 : decode cX5_parts 67 = .ok (.invokevirtual 77, 3) := by decide +kernel
theorem dX5_parts_70 : decode cX5_parts 70 = .ok (.ifCond .eq 7, 3) := by decide +kernel
theorem dX5_parts_73 : decode cX5_parts 73 = .ok (.iload_n 1, 1) := by decide +kernel
theorem dX5_parts_74 : decode cX5_parts 74 = .ok (.goto 4, 3) := by decide +kernel
theorem dX5_parts_77 : decode cX5_parts 77 = .ok (.iconst (-1), 1) := by decide +kernel
theorem dX5_parts_78 : decode cX5_parts 78 = .ok (.ireturn, 1) := by decide +kernel
theorem dX5_list_0 : decode cX5_list 0 = .ok (.aload_n 0, 1) := by decide +kernel
theorem dX5_list_1 : decode cX5_list 1 = .ok (.getfield 15, 3) := by decide +kernel
theorem dX5_list_4 : decode cX5_list 4 = .ok (.iconst 3, 1) := by decide +kernel
theorem dX5_list_5 : decode cX5_list 5 = .ok (.iconst 0, 1) := by decide +kernel
theorem dX5_list_6 : decode cX5_list 6 = .ok (.invokevirtual 60, 3) := by decide +kernel
theorem dX5_list_9 : decode cX5_list 9 = .ok (.istore_n 2, 1) := by decide +kernel
theorem dX5_list_10 : decode cX5_list 10 = .ok (.iload_n 2, 1) := by decide +kernel
theorem dX5_list_11 : decode cX5_list 11 = .ok (.istore_n 3, 1) := by decide +kernel
theorem dX5_list_12 : decode cX5_list 12 = .ok (.iconst 1, 1) := by decide +kernel
theorem dX5_list_13 : decode cX5_list 13 = .ok (.istore 4, 2) := by decide +kernel
theorem dX5_list_15 : decode cX5_list 15 = .ok (.iload 4, 2) := by decide +kernel
theorem dX5_list_17 : decode cX5_list 17 = .ok (.iconst 5, 1) := by decide +kernel
theorem dX5_list_18 : decode cX5_list 18 = .ok (.if_icmp .gt 88, 3) := by decide +kernel
theorem dX5_list_21 : decode cX5_list 21 = .ok (.aload_n 0, 1) := by decide +kernel
theorem dX5_list_22 : decode cX5_list 22 = .ok (.iload_n 1, 1) := by decide +kernel
theorem dX5_list_23 : decode cX5_list 23 = .ok (.invokevirtual 35, 3) := by decide +kernel
theorem dX5_list_26 : decode cX5_list 26 = .ok (.istore 5, 2) := by decide +kernel
theorem dX5_list_28 : decode cX5_list 28 = .ok (.iload 5, 2) := by decide +kernel
theorem dX5_list_30 : decode cX5_list 30 = .ok (.ifCond .ge 5, 3) := by decide +kernel
theorem dX5_list_33 : decode cX5_list 33 = .ok (.iconst (-1), 1) := by decide +kernel
theorem dX5_list_34 : decode cX5_list 34 = .ok (.ireturn, 1) := by decide +kernel
theorem dX5_list_35 : decode cX5_list 35 = .ok (.aload_n 0, 1) := by decide +kernel
theorem dX5_list_36 : decode cX5_list 36 = .ok (.getfield 15, 3) := by decide +kernel
theorem dX5_list_39 : decode cX5_list 39 = .ok (.iload_n 3, 1) := by decide +kernel
theorem dX5_list_40 : decode cX5_list 40 = .ok (.iconst 0, 1) := by decide +kernel
theorem dX5_list_41 : decode cX5_list 41 = .ok (.iload 5, 2) := by decide +kernel
theorem dX5_list_43 : decode cX5_list 43 = .ok (.invokevirtual 81, 3) := by decide +kernel
theorem dX5_list_46 : decode cX5_list 46 = .ok (.aload_n 0, 1) := by decide +kernel
theorem dX5_list_47 : decode cX5_list 47 = .ok (.bipush 93, 2) := by decide +kernel
theorem dX5_list_49 : decode cX5_list 49 = .ok (.invokevirtual 77, 3) := by decide +kernel
theorem dX5_list_52 : decode cX5_list 52 = .ok (.ifCond .eq 5, 3) := by decide +kernel
theorem dX5_list_55 : decode cX5_list 55 = .ok (.iload_n 2, 1) := by decide +kernel
theorem dX5_list_56 : decode cX5_list 56 = .ok (.ireturn, 1) := by decide +kernel
theorem dX5_list_57 : decode cX5_list 57 = .ok (.iload 4, 2) := by decide +kernel
theorem dX5_list_59 : decode cX5_list 59 = .ok (.iconst 5, 1) := by decide +kernel
theorem dX5_list_60 : decode cX5_list 60 = .ok (.if_icmp .eq 12, 3) := by decide +kernel
theorem dX5_list_63 : decode cX5_list 63 = .ok (.aload_n 0, 1) := by decide +kernel
theorem dX5_list_64 : decode cX5_list 64 = .ok (.bipush 44, 2) := by decide +kernel
theorem dX5_list_66 : decode cX5_list 66 = .ok (.invokevirtual 77, 3) := by decide +kernel
theorem dX5_list_69 : decode cX5_list 69 = .ok (.ifCond .ne 5, 3) := by decide +kernel
theorem dX5_list_72 : decode cX5_list 72 = .ok (.iconst (-1), 1) := by decide +kernel
theorem dX5_list_73 : decode cX5_list 73 = .ok (.ireturn, 1) := by decide +kernel
theorem dX5_list_74 : decode cX5_list 74 = .ok (.aload_n 0, 1) := by decide +kernel
theorem dX5_list_75 : decode cX5_list 75 = .ok (.getfield 15, 3) := by decide +kernel
theorem dX5_list_78 : decode cX5_list 78 = .ok (.bipush 14, 2) := by decide +kernel
theorem dX5_list_80 : decode cX5_list 80 = .ok (.iconst 0, 1) := by decide +kernel
theorem dX5_list_81 : decode cX5_list 81 = .ok (.invokevirtual 60, 3) := by decide +kernel
theorem dX5_list_84 : decode cX5_list 84 = .ok (.istore 6, 2) := by decide +kernel
theorem dX5_list_86 : decode cX5_list 86 = .ok (.aload_n 0, 1) := by decide +kernel
theorem dX5_list_87 : decode cX5_list 87 = .ok (.getfield 15, 3) := by decide +kernel
theorem dX5_list_90 : decode cX5_list 90 = .ok (.iload_n 3, 1) := by decide +kernel
theorem dX5_list_91 : decode cX5_list 91 = .ok (.iconst 1, 1) := by decide +kernel
theorem dX5_list_92 : decode cX5_list 92 = .ok (.iload 6, 2) := by decide +kernel
theorem dX5_list_94 : decode cX5_list 94 = .ok (.invokevirtual 81, 3) := by decide +kernel
theorem dX5_list_97 : decode cX5_list 97 = .ok (.iload 6, 2) := by decide +kernel
theorem dX5_list_99 : decode cX5_list 99 = .ok (.istore_n 3, 1) := by decide +kernel
theorem dX5_list_100 : decode cX5_list 100 = .ok (.iinc 4 1, 3) := by decide +kernel
theorem dX5_list_103 : decode cX5_list 103 = .ok (.goto (-88), 3) := by decide +kernel
theorem dX5_list_106 : decode cX5_list 106 = .ok (.iconst (-1), 1) := by decide +kernel
theorem dX5_list_107 : decode cX5_list 107 = .ok (.ireturn, 1) := by decide +kernel
theorem dX5_isDigit_0 : decode cX5_isDigit 0 = .ok (.iload_n 0, 1) := by decide +kernel
theorem dX5_isDigit_1 : decode cX5_isDigit 1 = .ok (.bipush 48, 2) := by decide +kernel
