theorem dX12_list_23 : decode cX12_list 23 = .ok (.iload_n 1, 1) := by decide +kernel
theorem dX12_list_24 : decode cX12_list 24 = .ok (.iaload, 1) := by decide +kernel
theorem dX12_list_25 : decode cX12_list 25 = .ok (.iconst 5, 1) := by decide +kernel
theorem dX12_list_26 : decode cX12_list 26 = .ok (.if_icmp .eq 16, 3) := by decide +kernel
theorem dX12_list_29 : decode cX12_list 29 = .ok (.aload_n 0, 1) := by decide +kernel
theorem dX12_list_30 : decode cX12_list 30 = .ok (.aload_n 0, 1) := by decide +kernel
theorem dX12_list_31 : decode cX12_list 31 = .ok (.getfield 62, 3) := by decide +kernel
theorem dX12_list_34 : decode cX12_list 34 = .ok (.invokevirtual 68, 3) := by decide +kernel
theorem dX12_list_37 : decode cX12_list 37 = .ok (.bipush 44, 2) := by decide +kernel
theorem dX12_list_39 : decode cX12_list 39 = .ok (.if_icmp .eq 21, 3) := by decide +kernel
theorem dX12_list_42 : decode cX12_list 42 = .ok (.aload_n 0, 1) := by decide +kernel
theorem dX12_list_43 : decode cX12_list 43 = .ok (.bipush 93, 2) := by decide +kernel
theorem dX12_list_45 : decode cX12_list 45 = .ok (.invokevirtual 101, 3) := by decide +kernel
theorem dX12_list_48 : decode cX12_list 48 = .ok (.ifCond .eq 7, 3) := by decide +kernel
theorem dX12_list_51 : decode cX12_list 51 = .ok (.iload_n 1, 1) := by decide +kernel
theorem dX12_list_52 : decode cX12_list 52 = .ok (.goto 7, 3) := by decide +kernel
theorem dX12_list_55 : decode cX12_list 55 = .ok (.aload_n 0, 1) := by decide +kernel
theorem dX12_list_56 : decode cX12_list 56 = .ok (.invokevirtual 86, 3) := by decide +kernel
theorem dX12_list_59 : decode cX12_list 59 = .ok (.ireturn, 1) := by decide +kernel
theorem dX12_list_60 : decode cX12_list 60 = .ok (.aload_n 0, 1) := by decide +kernel
theorem dX12_list_61 : decode cX12_list 61 = .ok (.dup, 1) := by decide +kernel
theorem dX12_list_62 : decode cX12_list 62 = .ok (.getfield 62, 3) := by decide +kernel
theorem dX12_list_65 : decode cX12_list 65 = .ok (.iconst 1, 1) := by decide +kernel
theorem dX12_list_66 : decode cX12_list 66 = .ok (.iadd, 1) := by decide +kernel
theorem dX12_list_67 : decode cX12_list 67 = .ok (.putfield 62, 3) := by decide +kernel
theorem dX12_list_70 : decode cX12_list 70 = .ok (.goto (-60), 3) := by decide +kernel
theorem dX12_list_73 : decode cX12_list 73 = .ok (.iconst (-1), 1) := by decide +kernel
theorem dX12_list_74 : decode cX12_list 74 = .ok (.ireturn, 1) := by decide +kernel
theorem dX12_line_0 : decode cX12_line 0 = .ok (.aload_n 0, 1) := by decide +kernel
theorem dX12_line_1 : decode cX12_line 1 = .ok (.getfield 72, 3) := by decide +kernel
theorem dX12_line_4 : decode cX12_line 4 = .ok (.bipush 8, 2) := by decide +kernel
theorem dX12_line_6 : decode cX12_line 6 = .ok (.if_icmp .ne 6, 3) := by decide +kernel
theorem dX12_line_9 : decode cX12_line 9 = .ok (.bipush (-4), 2) := by decide +kernel
theorem dX12_line_11 : decode cX12_line 11 = .ok (.ireturn, 1) := by decide +kernel
theorem dX12_line_12 : decode cX12_line 12 = .ok (.aload_n 0, 1) := by decide +kernel
theorem dX12_line_13 : decode cX12_line 13 = .ok (.iconst 0, 1) := by decide +kernel
theorem dX12_line_14 : decode cX12_line 14 = .ok (.putfield 62, 3) := by decide +kernel
theorem dX12_line_17 : decode cX12_line 17 = .ok (.aload_n 0, 1) := by decide +kernel
theorem dX12_line_18 : decode cX12_line 18 = .ok (.iconst 0, 1) := by decide +kernel
theorem dX12_line_19 : decode cX12_line 19 = .ok (.putfield 75, 3) := by decide +kernel
theorem dX12_line_22 : decode cX12_line 22 = .ok (.aload_n 0, 1) := by decide +kernel
theorem dX12_line_23 : decode cX12_line 23 = .ok (.iconst (-1), 1) := by decide +kernel
theorem dX12_line_24 : decode cX12_line 24 = .ok (.putfield 65, 3) := by decide +kernel
theorem dX12_line_27 : decode cX12_line 27 = .ok (.aload_n 0, 1) := by decide +kernel
theorem dX12_line_28 : decode cX12_line 28 = .ok (.iconst 0, 1) := by decide +kernel
theorem dX12_line_29 : decode cX12_line 29 = .ok (.invokevirtual 107, 3) := by decide +kernel
theorem dX12_line_32 : decode cX12_line 32 = .ok (.istore_n 1, 1) := by decide +kernel
theorem dX12_line_33 : decode cX12_line 33 = .ok (.iload_n 1, 1) := by decide +kernel
theorem dX12_line_34 : decode cX12_line 34 = .ok (.ifCond .lt 19, 3) := by decide +kernel
theorem dX12_line_37 : decode cX12_line 37 = .ok (.aload_n 0, 1) := by decide +kernel
theorem dX12_line_38 : decode cX12_line 38 = .ok (.getfield 62, 3) := by decide +kernel
theorem dX12_line_41 : decode cX12_line 41 = .ok (.aload_n 0, 1) := by decide +kernel
theorem dX12_line_42 : decode cX12_line 42 = .ok (.getfield 58, 3) := by decide +kernel
theorem dX12_line_45 : decode cX12_line 45 = .ok (.if_icmp .ge 8, 3) := by decide +kernel
theorem dX12_line_48 : decode cX12_line 48 = .ok (.aload_n 0, 1) := by decide +kernel
theorem dX12_line_49 : decode cX12_line 49 = .ok (.invokevirtual 86, 3) := by decide +kernel
theorem dX12_line_52 : decode cX12_line 52 = .ok (.istore_n 1, 1) := by decide +kernel
theorem dX12_line_53 : decode cX12_line 53 = .ok (.aload_n 0, 1) := by decide +kernel
theorem dX12_line_54 : decode cX12_line 54 = .ok (.iconst 0, 1) := by decide +kernel
theorem dX12_line_55 : decode cX12_line 55 = .ok (.putfield 58, 3) := by decide +kernel
theorem dX12_line_58 : decode cX12_line 58 = .ok (.iload_n 1, 1) := by decide +kernel
theorem dX12_line_59 : decode cX12_line 59 = .ok (.ifCond .ge 11, 3) := by decide +kernel
theorem dX12_line_62 : decode cX12_line 62 = .ok (.bipush (-10), 2) := by decide +kernel
theorem dX12_line_64 : decode cX12_line 64 = .ok (.aload_n 0, 1) := by decide +kernel
theorem dX12_line_65 : decode cX12_line 65 = .ok (.getfield 65, 3) := by decide +kernel
theorem dX12_line_68 : decode cX12_line 68 = .ok (.isub, 1) := by decide +kernel
theorem dX12_line_69 : decode cX12_line 69 = .ok (.ireturn, 1) := by decide +kernel
theorem dX12_line_70 : decode cX12_line 70 = .ok (.aload_n 0, 1) := by decide +kernel
theorem dX12_line_71 : decode cX12_line 71 = .ok (.getfield 33, 3) := by decide +kernel
theorem dX12_line_74 : decode cX12_line 74 = .ok (.aload_n 0, 1) := by decide +kernel
theorem dX12_line_75 : decode cX12_line 75 = .ok (.getfield 72, 3) := by decide +kernel
theorem dX12_line_78 : decode cX12_line 78 = .ok (.aload_n 0, 1) := by decide +kernel
theorem dX12_line_79 : decode cX12_line 79 = .ok (.getfield 75, 3) := by decide +kernel
theorem dX12_line_82 : decode cX12_line 82 = .ok (.iastore, 1) := by decide +kernel
theorem dX12_line_83 : decode cX12_line 83 = .ok (.aload_n 0, 1) := by decide +kernel
theorem dX12_line_84 : decode cX12_line 84 = .ok (.dup, 1) := by decide +kernel
theorem dX12_line_85 : decode cX12_line 85 = .ok (.getfield 72, 3) := by decide +kernel
theorem dX12_line_88 : decode cX12_line 88 = .ok (.iconst 1, 1) := by decide +kernel
theorem dX12_line_89 : decode cX12_line 89 = .ok (.iadd, 1) := by decide +kernel
theorem dX12_line_90 : decode cX12_line 90 = .ok (.putfield 72, 3) := by decide +kernel
theorem dX12_line_93 : decode cX12_line 93 = .ok (.aload_n 0, 1) := by decide +kernel
theorem dX12_line_94 : decode cX12_line 94 = .ok (.getfield 72, 3) := by decide +kernel
theorem dX12_line_97 : decode cX12_line 97 = .ok (.iconst 1, 1) := by decide +kernel
theorem dX12_line_98 : decode cX12_line 98 = .ok (.isub, 1) := by decide +kernel
theorem dX12_line_99 : decode cX12_line 99 = .ok (.ireturn, 1) := by decide +kernel
theorem dX12_isLine_0 : decode cX12_isLine 0 = .ok (.iload_n 1, 1) := by decide +kernel
theorem dX12_isLine_1 : decode cX12_isLine 1 = .ok (.i2l, 1) := by decide +kernel
theorem dX12_isLine_2 : decode cX12_isLine 2 = .ok (.lconst 0, 1) := by decide +kernel
theorem dX12_isLine_3 : decode cX12_isLine 3 = .ok (.aload_n 0, 1) := by decide +kernel
theorem dX12_isLine_4 : decode cX12_isLine 4 = .ok (.getfield 72, 3) := by decide +kernel
theorem dX12_isLine_7 : decode cX12_isLine 7 = .ok (.iconst 1, 1) := by decide +kernel
theorem dX12_isLine_8 : decode cX12_isLine 8 = .ok (.isub, 1) := by decide +kernel
theorem dX12_isLine_9 : decode cX12_isLine 9 = .ok (.i2l, 1) := by decide +kernel
theorem dX12_isLine_10 : decode cX12_isLine 10 = .ok (.invokestatic 54, 3) := by decide +kernel
theorem dX12_isLine_13 : decode cX12_isLine 13 = .ok (.ireturn, 1) := by decide +kernel
theorem dX12_deepest_0 : decode cX12_deepest 0 = .ok (.iconst 0, 1) := by decide +kernel
theorem dX12_deepest_1 : decode cX12_deepest 1 = .ok (.istore_n 2, 1) := by decide +kernel
theorem dX12_deepest_2 : decode cX12_deepest 2 = .ok (.iconst 0, 1) := by decide +kernel
theorem dX12_deepest_3 : decode cX12_deepest 3 = .ok (.istore_n 3, 1) := by decide +kernel
theorem dX12_deepest_4 : decode cX12_deepest 4 = .ok (.iload_n 3, 1) := by decide +kernel
theorem dX12_deepest_5 : decode cX12_deepest 5 = .ok (.aload_n 0, 1) := by decide +kernel
theorem dX12_deepest_6 : decode cX12_deepest 6 = .ok (.getfield 27, 3) := by decide +kernel
theorem dX12_deepest_9 : decode cX12_deepest 9 = .ok (.iload_n 1, 1) := by decide +kernel
theorem dX12_deepest_10 : decode cX12_deepest 10 = .ok (.iaload, 1) := by decide +kernel
theorem dX12_deepest_11 : decode cX12_deepest 11 = .ok (.if_icmp .ge 28, 3) := by decide +kernel
theorem dX12_deepest_14 : decode cX12_deepest 14 = .ok (.iload_n 2, 1) := by decide +kernel
theorem dX12_deepest_15 : decode cX12_deepest 15 = .ok (.aload_n 0, 1) := by decide +kernel
theorem dX12_deepest_16 : decode cX12_deepest 16 = .ok (.aload_n 0, 1) := by decide +kernel
theorem dX12_deepest_17 : decode cX12_deepest 17 = .ok (.getfield 30, 3) := by decide +kernel
theorem dX12_deepest_20 : decode cX12_deepest 20 = .ok (.iconst 5, 1) := by decide +kernel
theorem dX12_deepest_21 : decode cX12_deepest 21 = .ok (.iload_n 1, 1) := by decide +kernel
theorem dX12_deepest_22 : decode cX12_deepest 22 = .ok (.imul, 1) := by decide +kernel
theorem dX12_deepest_23 : decode cX12_deepest 23 = .ok (.iload_n 3, 1) := by decide +kernel
theorem dX12_deepest_24 : decode cX12_deepest 24 = .ok (.iadd, 1) := by decide +kernel
theorem dX12_deepest_25 : decode cX12_deepest 25 = .ok (.iaload, 1) := by decide +kernel
theorem dX12_deepest_26 : decode cX12_deepest 26 = .ok (.invokevirtual 110, 3) := by decide +kernel
theorem dX12_deepest_29 : decode cX12_deepest 29 = .ok (.invokestatic 113, 3) := by decide +kernel
theorem dX12_deepest_32 : decode cX12_deepest 32 = .ok (.istore_n 2, 1) := by decide +kernel
theorem dX12_deepest_33 : decode cX12_deepest 33 = .ok (.iinc 3 1, 3) := by decide +kernel
theorem dX12_deepest_36 : decode cX12_deepest 36 = .ok (.goto (-32), 3) := by decide +kernel
theorem dX12_deepest_39 : decode cX12_deepest 39 = .ok (.iconst 1, 1) := by decide +kernel
theorem dX12_deepest_40 : decode cX12_deepest 40 = .ok (.iload_n 2, 1) := by decide +kernel
theorem dX12_deepest_41 : decode cX12_deepest 41 = .ok (.iadd, 1) := by decide +kernel
theorem dX12_deepest_42 : decode cX12_deepest 42 = .ok (.ireturn, 1) := by decide +kernel
theorem dX12_isCall_0 : decode cX12_isCall 0 = .ok (.iload_n 0, 1) := by decide +kernel
theorem dX12_isCall_1 : decode cX12_isCall 1 = .ok (.bipush 70, 2) := by decide +kernel
theorem dX12_isCall_3 : decode cX12_isCall 3 = .ok (.if_icmp .eq 15, 3) := by decide +kernel
theorem dX12_isCall_6 : decode cX12_isCall 6 = .ok (.iload_n 0, 1) := by decide +kernel
theorem dX12_isCall_7 : decode cX12_isCall 7 = .ok (.bipush 71, 2) := by decide +kernel
theorem dX12_isCall_9 : decode cX12_isCall 9 = .ok (.if_icmp .eq 9, 3) := by decide +kernel
theorem dX12_isCall_12 : decode cX12_isCall 12 = .ok (.iload_n 0, 1) := by decide +kernel
theorem dX12_isCall_13 : decode cX12_isCall 13 = .ok (.bipush 72, 2) := by decide +kernel
theorem dX12_isCall_15 : decode cX12_isCall 15 = .ok (.if_icmp .ne 7, 3) := by decide +kernel
theorem dX12_isCall_18 : decode cX12_isCall 18 = .ok (.iconst 1, 1) := by decide +kernel
theorem dX12_isCall_19 : decode cX12_isCall 19 = .ok (.goto 4, 3) := by decide +kernel
theorem dX12_isCall_22 : decode cX12_isCall 22 = .ok (.iconst 0, 1) := by decide +kernel
theorem dX12_isCall_23 : decode cX12_isCall 23 = .ok (.ireturn, 1) := by decide +kernel
theorem dX12_lastCalls_0 : decode cX12_lastCalls 0 = .ok (.aload_n 0, 1) := by decide +kernel
theorem dX12_lastCalls_1 : decode cX12_lastCalls 1 = .ok (.getfield 21, 3) := by decide +kernel
theorem dX12_lastCalls_4 : decode cX12_lastCalls 4 = .ok (.iload_n 1, 1) := by decide +kernel
theorem dX12_lastCalls_5 : decode cX12_lastCalls 5 = .ok (.iaload, 1) := by decide +kernel
theorem dX12_lastCalls_6 : decode cX12_lastCalls 6 = .ok (.istore_n 2, 1) := by decide +kernel
theorem dX12_lastCalls_7 : decode cX12_lastCalls 7 = .ok (.iload_n 2, 1) := by decide +kernel
theorem dX12_lastCalls_8 : decode cX12_lastCalls 8 = .ok (.invokestatic 118, 3) := by decide +kernel
theorem dX12_lastCalls_11 : decode cX12_lastCalls 11 = .ok (.ifCond .eq 5, 3) := by decide +kernel
theorem dX12_lastCalls_14 : decode cX12_lastCalls 14 = .ok (.iconst 1, 1) := by decide +kernel
theorem dX12_lastCalls_15 : decode cX12_lastCalls 15 = .ok (.ireturn, 1) := by decide +kernel
theorem dX12_lastCalls_16 : decode cX12_lastCalls 16 = .ok (.iload_n 2, 1) := by decide +kernel
theorem dX12_lastCalls_17 : decode cX12_lastCalls 17 = .ok (.bipush 63, 2) := by decide +kernel
theorem dX12_lastCalls_19 : decode cX12_lastCalls 19 = .ok (.if_icmp .ne 33, 3) := by decide +kernel
theorem dX12_lastCalls_22 : decode cX12_lastCalls 22 = .ok (.aload_n 0, 1) := by decide +kernel
theorem dX12_lastCalls_23 : decode cX12_lastCalls 23 = .ok (.aload_n 0, 1) := by decide +kernel
theorem dX12_lastCalls_24 : decode cX12_lastCalls 24 = .ok (.getfield 30, 3) := by decide +kernel
theorem dX12_lastCalls_27 : decode cX12_lastCalls 27 = .ok (.iconst 5, 1) := by decide +kernel
theorem dX12_lastCalls_28 : decode cX12_lastCalls 28 = .ok (.iload_n 1, 1) := by decide +kernel
theorem dX12_lastCalls_29 : decode cX12_lastCalls 29 = .ok (.imul, 1) := by decide +kernel
theorem dX12_lastCalls_30 : decode cX12_lastCalls 30 = .ok (.iconst 1, 1) := by decide +kernel
theorem dX12_lastCalls_31 : decode cX12_lastCalls 31 = .ok (.iadd, 1) := by decide +kernel
theorem dX12_lastCalls_32 : decode cX12_lastCalls 32 = .ok (.iaload, 1) := by decide +kernel
theorem dX12_lastCalls_33 : decode cX12_lastCalls 33 = .ok (.invokevirtual 121, 3) := by decide +kernel
theorem dX12_lastCalls_36 : decode cX12_lastCalls 36 = .ok (.aload_n 0, 1) := by decide +kernel
theorem dX12_lastCalls_37 : decode cX12_lastCalls 37 = .ok (.aload_n 0, 1) := by decide +kernel
theorem dX12_lastCalls_38 : decode cX12_lastCalls 38 = .ok (.getfield 30, 3) := by decide +kernel
theorem dX12_lastCalls_41 : decode cX12_lastCalls 41 = .ok (.iconst 5, 1) := by decide +kernel
theorem dX12_lastCalls_42 : decode cX12_lastCalls 42 = .ok (.iload_n 1, 1) := by decide +kernel
theorem dX12_lastCalls_43 : decode cX12_lastCalls 43 = .ok (.imul, 1) := by decide +kernel
theorem dX12_lastCalls_44 : decode cX12_lastCalls 44 = .ok (.iconst 2, 1) := by decide +kernel
theorem dX12_lastCalls_45 : decode cX12_lastCalls 45 = .ok (.iadd, 1) := by decide +kernel
theorem dX12_lastCalls_46 : decode cX12_lastCalls 46 = .ok (.iaload, 1) := by decide +kernel
theorem dX12_lastCalls_47 : decode cX12_lastCalls 47 = .ok (.invokevirtual 121, 3) := by decide +kernel
theorem dX12_lastCalls_50 : decode cX12_lastCalls 50 = .ok (.iadd, 1) := by decide +kernel
theorem dX12_lastCalls_51 : decode cX12_lastCalls 51 = .ok (.ireturn, 1) := by decide +kernel
theorem dX12_lastCalls_52 : decode cX12_lastCalls 52 = .ok (.iload_n 2, 1) := by decide +kernel
theorem dX12_lastCalls_53 : decode cX12_lastCalls 53 = .ok (.bipush 61, 2) := by decide +kernel
theorem dX12_lastCalls_55 : decode cX12_lastCalls 55 = .ok (.if_icmp .eq 15, 3) := by decide +kernel
theorem dX12_lastCalls_58 : decode cX12_lastCalls 58 = .ok (.iload_n 2, 1) := by decide +kernel
theorem dX12_lastCalls_59 : decode cX12_lastCalls 59 = .ok (.bipush 91, 2) := by decide +kernel
theorem dX12_lastCalls_61 : decode cX12_lastCalls 61 = .ok (.if_icmp .eq 9, 3) := by decide +kernel
theorem dX12_lastCalls_64 : decode cX12_lastCalls 64 = .ok (.iload_n 2, 1) := by decide +kernel
theorem dX12_lastCalls_65 : decode cX12_lastCalls 65 = .ok (.bipush 64, 2) := by decide +kernel
theorem dX12_lastCalls_67 : decode cX12_lastCalls 67 = .ok (.if_icmp .ne 27, 3) := by decide +kernel
theorem dX12_lastCalls_70 : decode cX12_lastCalls 70 = .ok (.aload_n 0, 1) := by decide +kernel
theorem dX12_lastCalls_71 : decode cX12_lastCalls 71 = .ok (.aload_n 0, 1) := by decide +kernel
theorem dX12_lastCalls_72 : decode cX12_lastCalls 72 = .ok (.getfield 30, 3) := by decide +kernel
theorem dX12_lastCalls_75 : decode cX12_lastCalls 75 = .ok (.iconst 5, 1) := by decide +kernel
theorem dX12_lastCalls_76 : decode cX12_lastCalls 76 = .ok (.iload_n 1, 1) := by decide +kernel
theorem dX12_lastCalls_77 : decode cX12_lastCalls 77 = .ok (.imul, 1) := by decide +kernel
theorem dX12_lastCalls_78 : decode cX12_lastCalls 78 = .ok (.aload_n 0, 1) := by decide +kernel
theorem dX12_lastCalls_79 : decode cX12_lastCalls 79 = .ok (.getfield 27, 3) := by decide +kernel
theorem dX12_lastCalls_82 : decode cX12_lastCalls 82 = .ok (.iload_n 1, 1) := by decide +kernel
theorem dX12_lastCalls_83 : decode cX12_lastCalls 83 = .ok (.iaload, 1) := by decide +kernel
theorem dX12_lastCalls_84 : decode cX12_lastCalls 84 = .ok (.iadd, 1) := by decide +kernel
theorem dX12_lastCalls_85 : decode cX12_lastCalls 85 = .ok (.iconst 1, 1) := by decide +kernel
theorem dX12_lastCalls_86 : decode cX12_lastCalls 86 = .ok (.isub, 1) := by decide +kernel
theorem dX12_lastCalls_87 : decode cX12_lastCalls 87 = .ok (.iaload, 1) := by decide +kernel
theorem dX12_lastCalls_88 : decode cX12_lastCalls 88 = .ok (.invokevirtual 121, 3) := by decide +kernel
theorem dX12_lastCalls_91 : decode cX12_lastCalls 91 = .ok (.goto 4, 3) := by decide +kernel
theorem dX12_lastCalls_94 : decode cX12_lastCalls 94 = .ok (.iconst 0, 1) := by decide +kernel
theorem dX12_lastCalls_95 : decode cX12_lastCalls 95 = .ok (.ireturn, 1) := by decide +kernel
theorem dX12_of_0 : decode cX12_of 0 = .ok (.aload_n 0, 1) := by decide +kernel
theorem dX12_of_1 : decode cX12_of 1 = .ok (.iload_n 1, 1) := by decide +kernel
theorem dX12_of_2 : decode cX12_of 2 = .ok (.invokevirtual 124, 3) := by decide +kernel
theorem dX12_of_5 : decode cX12_of 5 = .ok (.ifCond .eq 15, 3) := by decide +kernel
theorem dX12_of_8 : decode cX12_of 8 = .ok (.iload_n 2, 1) := by decide +kernel
theorem dX12_of_9 : decode cX12_of 9 = .ok (.i2l, 1) := by decide +kernel
theorem dX12_of_10 : decode cX12_of 10 = .ok (.lconst 0, 1) := by decide +kernel
theorem dX12_of_11 : decode cX12_of 11 = .ok (.ldc2_w 127, 3) := by decide +kernel
theorem dX12_of_14 : decode cX12_of 14 = .ok (.invokestatic 54, 3) := by decide +kernel
theorem dX12_of_17 : decode cX12_of 17 = .ok (.ifCond .ne 5, 3) := by decide +kernel
theorem dX12_of_20 : decode cX12_of 20 = .ok (.iconst (-1), 1) := by decide +kernel
theorem dX12_of_21 : decode cX12_of 21 = .ok (.ireturn, 1) := by decide +kernel
theorem dX12_of_22 : decode cX12_of 22 = .ok (.iload_n 2, 1) := by decide +kernel
theorem dX12_of_23 : decode cX12_of 23 = .ok (.ifCond .ne 10, 3) := by decide +kernel
theorem dX12_of_26 : decode cX12_of 26 = .ok (.aload_n 0, 1) := by decide +kernel
theorem dX12_of_27 : decode cX12_of 27 = .ok (.getfield 33, 3) := by decide +kernel
theorem dX12_of_30 : decode cX12_of 30 = .ok (.iload_n 1, 1) := by decide +kernel
theorem dX12_of_31 : decode cX12_of 31 = .ok (.iaload, 1) := by decide +kernel
theorem dX12_of_32 : decode cX12_of 32 = .ok (.ireturn, 1) := by decide +kernel
theorem dX12_of_33 : decode cX12_of 33 = .ok (.iload_n 2, 1) := by decide +kernel
theorem dX12_of_34 : decode cX12_of 34 = .ok (.iconst 1, 1) := by decide +kernel
theorem dX12_of_35 : decode cX12_of 35 = .ok (.if_icmp .ne 12, 3) := by decide +kernel
theorem dX12_of_38 : decode cX12_of 38 = .ok (.aload_n 0, 1) := by decide +kernel
theorem dX12_of_39 : decode cX12_of 39 = .ok (.bipush 101, 2) := by decide +kernel
theorem dX12_of_41 : decode cX12_of 41 = .ok (.iload_n 1, 1) := by decide +kernel
theorem dX12_of_42 : decode cX12_of 42 = .ok (.imul, 1) := by decide +kernel
theorem dX12_of_43 : decode cX12_of 43 = .ok (.invokevirtual 110, 3) := by decide +kernel
theorem dX12_of_46 : decode cX12_of 46 = .ok (.ireturn, 1) := by decide +kernel
theorem dX12_of_47 : decode cX12_of 47 = .ok (.iload_n 2, 1) := by decide +kernel
theorem dX12_of_48 : decode cX12_of 48 = .ok (.iconst 3, 1) := by decide +kernel
theorem dX12_of_49 : decode cX12_of 49 = .ok (.if_icmp .ne 12, 3) := by decide +kernel
theorem dX12_of_52 : decode cX12_of 52 = .ok (.aload_n 0, 1) := by decide +kernel
theorem dX12_of_53 : decode cX12_of 53 = .ok (.bipush 101, 2) := by decide +kernel
theorem dX12_of_55 : decode cX12_of 55 = .ok (.iload_n 1, 1) := by decide +kernel
theorem dX12_of_56 : decode cX12_of 56 = .ok (.imul, 1) := by decide +kernel
theorem dX12_of_57 : decode cX12_of 57 = .ok (.invokevirtual 121, 3) := by decide +kernel
theorem dX12_of_60 : decode cX12_of 60 = .ok (.ireturn, 1) := by decide +kernel
theorem dX12_of_61 : decode cX12_of 61 = .ok (.iconst 0, 1) := by decide +kernel
theorem dX12_of_62 : decode cX12_of 62 = .ok (.istore_n 3, 1) := by decide +kernel
theorem dX12_of_63 : decode cX12_of 63 = .ok (.iconst 0, 1) := by decide +kernel
theorem dX12_of_64 : decode cX12_of 64 = .ok (.istore 4, 2) := by decide +kernel
theorem dX12_of_66 : decode cX12_of 66 = .ok (.iload 4, 2) := by decide +kernel
theorem dX12_of_68 : decode cX12_of 68 = .ok (.aload_n 0, 1) := by decide +kernel
theorem dX12_of_69 : decode cX12_of 69 = .ok (.getfield 33, 3) := by decide +kernel
theorem dX12_of_72 : decode cX12_of 72 = .ok (.iload_n 1, 1) := by decide +kernel
theorem dX12_of_73 : decode cX12_of 73 = .ok (.iaload, 1) := by decide +kernel
theorem dX12_of_74 : decode cX12_of 74 = .ok (.if_icmp .ge 34, 3) := by decide +kernel
theorem dX12_of_77 : decode cX12_of 77 = .ok (.iload_n 3, 1) := by decide +kernel
theorem dX12_of_78 : decode cX12_of 78 = .ok (.aload_n 0, 1) := by decide +kernel
theorem dX12_of_79 : decode cX12_of 79 = .ok (.getfield 21, 3) := by decide +kernel
theorem dX12_of_82 : decode cX12_of 82 = .ok (.bipush 101, 2) := by decide +kernel
theorem dX12_of_84 : decode cX12_of 84 = .ok (.iload_n 1, 1) := by decide +kernel
theorem dX12_of_85 : decode cX12_of 85 = .ok (.imul, 1) := by decide +kernel
theorem dX12_of_86 : decode cX12_of 86 = .ok (.iload 4, 2) := by decide +kernel
theorem dX12_of_88 : decode cX12_of 88 = .ok (.iadd, 1) := by decide +kernel
theorem dX12_of_89 : decode cX12_of 89 = .ok (.iaload, 1) := by decide +kernel
theorem dX12_of_90 : decode cX12_of 90 = .ok (.bipush 64, 2) := by decide +kernel
theorem dX12_of_92 : decode cX12_of 92 = .ok (.if_icmp .ne 7, 3) := by decide +kernel
theorem dX12_of_95 : decode cX12_of 95 = .ok (.iconst 1, 1) := by decide +kernel
theorem dX12_of_96 : decode cX12_of 96 = .ok (.goto 4, 3) := by decide +kernel
theorem dX12_of_99 : decode cX12_of 99 = .ok (.iconst 0, 1) := by decide +kernel
theorem dX12_of_100 : decode cX12_of 100 = .ok (.iadd, 1) := by decide +kernel
theorem dX12_of_101 : decode cX12_of 101 = .ok (.istore_n 3, 1) := by decide +kernel
theorem dX12_of_102 : decode cX12_of 102 = .ok (.iinc 4 1, 3) := by decide +kernel
theorem dX12_of_105 : decode cX12_of 105 = .ok (.goto (-39), 3) := by decide +kernel
theorem dX12_of_108 : decode cX12_of 108 = .ok (.iload_n 3, 1) := by decide +kernel
theorem dX12_of_109 : decode cX12_of 109 = .ok (.ireturn, 1) := by decide +kernel
theorem dX12_define_0 : decode cX12_define 0 = .ok (.iload_n 1, 1) := by decide +kernel
theorem dX12_define_1 : decode cX12_define 1 = .ok (.i2l, 1) := by decide +kernel
theorem dX12_define_2 : decode cX12_define 2 = .ok (.lconst 0, 1) := by decide +kernel
theorem dX12_define_3 : decode cX12_define 3 = .ok (.ldc2_w 129, 3) := by decide +kernel
theorem dX12_define_6 : decode cX12_define 6 = .ok (.invokestatic 54, 3) := by decide +kernel
theorem dX12_define_9 : decode cX12_define 9 = .ok (.ifCond .eq 16, 3) := by decide +kernel
theorem dX12_define_12 : decode cX12_define 12 = .ok (.iload_n 2, 1) := by decide +kernel
theorem dX12_define_13 : decode cX12_define 13 = .ok (.iconst (-1), 1) := by decide +kernel
theorem dX12_define_14 : decode cX12_define 14 = .ok (.if_icmp .eq 13, 3) := by decide +kernel
theorem dX12_define_17 : decode cX12_define 17 = .ok (.aload_n 0, 1) := by decide +kernel
theorem dX12_define_18 : decode cX12_define 18 = .ok (.iload_n 2, 1) := by decide +kernel
theorem dX12_define_19 : decode cX12_define 19 = .ok (.invokevirtual 124, 3) := by decide +kernel
theorem dX12_define_22 : decode cX12_define 22 = .ok (.ifCond .ne 5, 3) := by decide +kernel
theorem dX12_define_25 : decode cX12_define 25 = .ok (.iconst (-1), 1) := by decide +kernel
theorem dX12_define_26 : decode cX12_define 26 = .ok (.ireturn, 1) := by decide +kernel
theorem dX12_define_27 : decode cX12_define 27 = .ok (.aload_n 0, 1) := by decide +kernel
theorem dX12_define_28 : decode cX12_define 28 = .ok (.getfield 11, 3) := by decide +kernel
theorem dX12_define_31 : decode cX12_define 31 = .ok (.iconst 4, 1) := by decide +kernel
theorem dX12_define_32 : decode cX12_define 32 = .ok (.iload_n 1, 1) := by decide +kernel
theorem dX12_define_33 : decode cX12_define 33 = .ok (.iadd, 1) := by decide +kernel
theorem dX12_define_34 : decode cX12_define 34 = .ok (.iaload, 1) := by decide +kernel
theorem dX12_define_35 : decode cX12_define 35 = .ok (.istore_n 3, 1) := by decide +kernel
theorem dX12_define_36 : decode cX12_define 36 = .ok (.aload_n 0, 1) := by decide +kernel
theorem dX12_define_37 : decode cX12_define 37 = .ok (.getfield 11, 3) := by decide +kernel
theorem dX12_define_40 : decode cX12_define 40 = .ok (.iconst 4, 1) := by decide +kernel
theorem dX12_define_41 : decode cX12_define 41 = .ok (.iload_n 1, 1) := by decide +kernel
theorem dX12_define_42 : decode cX12_define 42 = .ok (.iadd, 1) := by decide +kernel
theorem dX12_define_43 : decode cX12_define 43 = .ok (.iload_n 2, 1) := by decide +kernel
theorem dX12_define_44 : decode cX12_define 44 = .ok (.iconst (-1), 1) := by decide +kernel
theorem dX12_define_45 : decode cX12_define 45 = .ok (.if_icmp .ne 8, 3) := by decide +kernel
theorem dX12_define_48 : decode cX12_define 48 = .ok (.bipush (-5), 2) := by decide +kernel
theorem dX12_define_50 : decode cX12_define 50 = .ok (.goto 4, 3) := by decide +kernel
theorem dX12_define_53 : decode cX12_define 53 = .ok (.iload_n 2, 1) := by decide +kernel
theorem dX12_define_54 : decode cX12_define 54 = .ok (.iastore, 1) := by decide +kernel
theorem dX12_define_55 : decode cX12_define 55 = .ok (.iload_n 3, 1) := by decide +kernel
theorem dX12_define_56 : decode cX12_define 56 = .ok (.ireturn, 1) := by decide +kernel
theorem dX12_isName_0 : decode cX12_isName 0 = .ok (.iload_n 0, 1) := by decide +kernel
theorem dX12_isName_1 : decode cX12_isName 1 = .ok (.i2l, 1) := by decide +kernel
theorem dX12_isName_2 : decode cX12_isName 2 = .ok (.lconst 0, 1) := by decide +kernel
theorem dX12_isName_3 : decode cX12_isName 3 = .ok (.ldc2_w 127, 3) := by decide +kernel
theorem dX12_isName_6 : decode cX12_isName 6 = .ok (.invokestatic 54, 3) := by decide +kernel
theorem dX12_isName_9 : decode cX12_isName 9 = .ok (.ireturn, 1) := by decide +kernel
theorem dX12_value_0 : decode cX12_value 0 = .ok (.iload_n 1, 1) := by decide +kernel
theorem dX12_value_1 : decode cX12_value 1 = .ok (.invokestatic 131, 3) := by decide +kernel
theorem dX12_value_4 : decode cX12_value 4 = .ok (.ifCond .ne 7, 3) := by decide +kernel
theorem dX12_value_7 : decode cX12_value 7 = .ok (.ldc2_w 134, 3) := by decide +kernel
theorem dX12_value_10 : decode cX12_value 10 = .ok (.lreturn, 1) := by decide +kernel
theorem dX12_value_11 : decode cX12_value 11 = .ok (.aload_n 0, 1) := by decide +kernel
theorem dX12_value_12 : decode cX12_value 12 = .ok (.getfield 11, 3) := by decide +kernel
theorem dX12_value_15 : decode cX12_value 15 = .ok (.iconst 0, 1) := by decide +kernel
theorem dX12_value_16 : decode cX12_value 16 = .ok (.iload_n 1, 1) := by decide +kernel
theorem dX12_value_17 : decode cX12_value 17 = .ok (.iadd, 1) := by decide +kernel
theorem dX12_value_18 : decode cX12_value 18 = .ok (.iaload, 1) := by decide +kernel
theorem dX12_value_19 : decode cX12_value 19 = .ok (.i2l, 1) := by decide +kernel
theorem dX12_value_20 : decode cX12_value 20 = .ok (.lstore_n 3, 1) := by decide +kernel
theorem dX12_value_21 : decode cX12_value 21 = .ok (.aload_n 0, 1) := by decide +kernel
theorem dX12_value_22 : decode cX12_value 22 = .ok (.getfield 11, 3) := by decide +kernel
theorem dX12_value_25 : decode cX12_value 25 = .ok (.iconst 0, 1) := by decide +kernel
theorem dX12_value_26 : decode cX12_value 26 = .ok (.iload_n 1, 1) := by decide +kernel
theorem dX12_value_27 : decode cX12_value 27 = .ok (.iadd, 1) := by decide +kernel
theorem dX12_value_28 : decode cX12_value 28 = .ok (.iload_n 2, 1) := by decide +kernel
theorem dX12_value_29 : decode cX12_value 29 = .ok (.iastore, 1) := by decide +kernel
theorem dX12_value_30 : decode cX12_value 30 = .ok (.lload_n 3, 1) := by decide +kernel
theorem dX12_value_31 : decode cX12_value 31 = .ok (.lreturn, 1) := by decide +kernel
theorem dX12_frames_0 : decode cX12_frames 0 = .ok (.iload_n 1, 1) := by decide +kernel
theorem dX12_frames_1 : decode cX12_frames 1 = .ok (.ifCond .ge 7, 3) := by decide +kernel
theorem dX12_frames_4 : decode cX12_frames 4 = .ok (.iconst 0, 1) := by decide +kernel
theorem dX12_frames_5 : decode cX12_frames 5 = .ok (.goto 18, 3) := by decide +kernel
theorem dX12_frames_8 : decode cX12_frames 8 = .ok (.aload_n 0, 1) := by decide +kernel
theorem dX12_frames_9 : decode cX12_frames 9 = .ok (.getfield 11, 3) := by decide +kernel
theorem dX12_frames_12 : decode cX12_frames 12 = .ok (.bipush 120, 2) := by decide +kernel
theorem dX12_frames_14 : decode cX12_frames 14 = .ok (.bipush 8, 2) := by decide +kernel
theorem dX12_frames_16 : decode cX12_frames 16 = .ok (.iload_n 1, 1) := by decide +kernel
theorem dX12_frames_17 : decode cX12_frames 17 = .ok (.imul, 1) := by decide +kernel
theorem dX12_frames_18 : decode cX12_frames 18 = .ok (.iadd, 1) := by decide +kernel
theorem dX12_frames_19 : decode cX12_frames 19 = .ok (.bipush 6, 2) := by decide +kernel
theorem dX12_frames_21 : decode cX12_frames 21 = .ok (.iadd, 1) := by decide +kernel
theorem dX12_frames_22 : decode cX12_frames 22 = .ok (.iaload, 1) := by decide +kernel
theorem dX12_frames_23 : decode cX12_frames 23 = .ok (.ireturn, 1) := by decide +kernel
theorem dX12_stands_0 : decode cX12_stands 0 = .ok (.aload_n 0, 1) := by decide +kernel
theorem dX12_stands_1 : decode cX12_stands 1 = .ok (.getfield 11, 3) := by decide +kernel
theorem dX12_stands_4 : decode cX12_stands 4 = .ok (.bipush 7, 2) := by decide +kernel
theorem dX12_stands_6 : decode cX12_stands 6 = .ok (.iload_n 1, 1) := by decide +kernel
theorem dX12_stands_7 : decode cX12_stands 7 = .ok (.iastore, 1) := by decide +kernel
theorem dX12_stands_8 : decode cX12_stands 8 = .ok (.return_, 1) := by decide +kernel
theorem dX12_works_0 : decode cX12_works 0 = .ok (.aload_n 0, 1) := by decide +kernel
theorem dX12_works_1 : decode cX12_works 1 = .ok (.getfield 11, 3) := by decide +kernel
theorem dX12_works_4 : decode cX12_works 4 = .ok (.bipush 13, 2) := by decide +kernel
theorem dX12_works_6 : decode cX12_works 6 = .ok (.iconst 0, 1) := by decide +kernel
theorem dX12_works_7 : decode cX12_works 7 = .ok (.iastore, 1) := by decide +kernel
theorem dX12_works_8 : decode cX12_works 8 = .ok (.aload_n 0, 1) := by decide +kernel
theorem dX12_works_9 : decode cX12_works 9 = .ok (.getfield 11, 3) := by decide +kernel
theorem dX12_works_12 : decode cX12_works 12 = .ok (.bipush 14, 2) := by decide +kernel
theorem dX12_works_14 : decode cX12_works 14 = .ok (.iload_n 1, 1) := by decide +kernel
theorem dX12_works_15 : decode cX12_works 15 = .ok (.iastore, 1) := by decide +kernel
theorem dX12_works_16 : decode cX12_works 16 = .ok (.aload_n 0, 1) := by decide +kernel
theorem dX12_works_17 : decode cX12_works 17 = .ok (.getfield 11, 3) := by decide +kernel
theorem dX12_works_20 : decode cX12_works 20 = .ok (.bipush 15, 2) := by decide +kernel
theorem dX12_works_22 : decode cX12_works 22 = .ok (.iload_n 2, 1) := by decide +kernel
theorem dX12_works_23 : decode cX12_works 23 = .ok (.iastore, 1) := by decide +kernel
theorem dX12_works_24 : decode cX12_works 24 = .ok (.aload_n 0, 1) := by decide +kernel
theorem dX12_works_25 : decode cX12_works 25 = .ok (.getfield 11, 3) := by decide +kernel
theorem dX12_works_28 : decode cX12_works 28 = .ok (.bipush 16, 2) := by decide +kernel
theorem dX12_works_30 : decode cX12_works 30 = .ok (.iload_n 3, 1) := by decide +kernel
theorem dX12_works_31 : decode cX12_works 31 = .ok (.iastore, 1) := by decide +kernel
theorem dX12_works_32 : decode cX12_works 32 = .ok (.return_, 1) := by decide +kernel
theorem dX12_gives_0 : decode cX12_gives 0 = .ok (.aload_n 0, 1) := by decide +kernel
theorem dX12_gives_1 : decode cX12_gives 1 = .ok (.getfield 11, 3) := by decide +kernel
theorem dX12_gives_4 : decode cX12_gives 4 = .ok (.bipush 13, 2) := by decide +kernel
theorem dX12_gives_6 : decode cX12_gives 6 = .ok (.iconst 1, 1) := by decide +kernel
theorem dX12_gives_7 : decode cX12_gives 7 = .ok (.iastore, 1) := by decide +kernel
theorem dX12_gives_8 : decode cX12_gives 8 = .ok (.aload_n 0, 1) := by decide +kernel
theorem dX12_gives_9 : decode cX12_gives 9 = .ok (.getfield 11, 3) := by decide +kernel
theorem dX12_gives_12 : decode cX12_gives 12 = .ok (.bipush 19, 2) := by decide +kernel
theorem dX12_gives_14 : decode cX12_gives 14 = .ok (.iload_n 1, 1) := by decide +kernel
theorem dX12_gives_15 : decode cX12_gives 15 = .ok (.iastore, 1) := by decide +kernel
theorem dX12_gives_16 : decode cX12_gives 16 = .ok (.aload_n 0, 1) := by decide +kernel
theorem dX12_gives_17 : decode cX12_gives 17 = .ok (.getfield 11, 3) := by decide +kernel
theorem dX12_gives_20 : decode cX12_gives 20 = .ok (.bipush 20, 2) := by decide +kernel
theorem dX12_gives_22 : decode cX12_gives 22 = .ok (.iload_n 2, 1) := by decide +kernel
theorem dX12_gives_23 : decode cX12_gives 23 = .ok (.iastore, 1) := by decide +kernel
theorem dX12_gives_24 : decode cX12_gives 24 = .ok (.return_, 1) := by decide +kernel
theorem dX12_comes_0 : decode cX12_comes 0 = .ok (.aload_n 0, 1) := by decide +kernel
theorem dX12_comes_1 : decode cX12_comes 1 = .ok (.iload_n 1, 1) := by decide +kernel
theorem dX12_comes_2 : decode cX12_comes 2 = .ok (.invokevirtual 136, 3) := by decide +kernel
theorem dX12_comes_5 : decode cX12_comes 5 = .ok (.bipush 40, 2) := by decide +kernel
theorem dX12_comes_7 : decode cX12_comes 7 = .ok (.if_icmp .ne 10, 3) := by decide +kernel
theorem dX12_comes_10 : decode cX12_comes 10 = .ok (.aload_n 0, 1) := by decide +kernel
theorem dX12_comes_11 : decode cX12_comes 11 = .ok (.iconst 4, 1) := by decide +kernel
theorem dX12_comes_12 : decode cX12_comes 12 = .ok (.invokevirtual 139, 3) := by decide +kernel
theorem dX12_comes_15 : decode cX12_comes 15 = .ok (.iconst 0, 1) := by decide +kernel
theorem dX12_comes_16 : decode cX12_comes 16 = .ok (.ireturn, 1) := by decide +kernel
theorem dX12_comes_17 : decode cX12_comes 17 = .ok (.aload_n 0, 1) := by decide +kernel
theorem dX12_comes_18 : decode cX12_comes 18 = .ok (.getfield 11, 3) := by decide +kernel
theorem dX12_comes_21 : decode cX12_comes 21 = .ok (.bipush 21, 2) := by decide +kernel
theorem dX12_comes_23 : decode cX12_comes 23 = .ok (.iaload, 1) := by decide +kernel
theorem dX12_comes_24 : decode cX12_comes 24 = .ok (.istore 8, 2) := by decide +kernel
theorem dX12_comes_26 : decode cX12_comes 26 = .ok (.bipush 120, 2) := by decide +kernel
theorem dX12_comes_28 : decode cX12_comes 28 = .ok (.bipush 8, 2) := by decide +kernel
theorem dX12_comes_30 : decode cX12_comes 30 = .ok (.iload 8, 2) := by decide +kernel
theorem dX12_comes_32 : decode cX12_comes 32 = .ok (.imul, 1) := by decide +kernel
theorem dX12_comes_33 : decode cX12_comes 33 = .ok (.iadd, 1) := by decide +kernel
theorem dX12_comes_34 : decode cX12_comes 34 = .ok (.istore 9, 2) := by decide +kernel
theorem dX12_comes_36 : decode cX12_comes 36 = .ok (.aload_n 0, 1) := by decide +kernel
theorem dX12_comes_37 : decode cX12_comes 37 = .ok (.getfield 11, 3) := by decide +kernel
theorem dX12_comes_40 : decode cX12_comes 40 = .ok (.iload 9, 2) := by decide +kernel
theorem dX12_comes_42 : decode cX12_comes 42 = .ok (.iload_n 2, 1) := by decide +kernel
theorem dX12_comes_43 : decode cX12_comes 43 = .ok (.iastore, 1) := by decide +kernel
theorem dX12_comes_44 : decode cX12_comes 44 = .ok (.aload_n 0, 1) := by decide +kernel
theorem dX12_comes_45 : decode cX12_comes 45 = .ok (.getfield 11, 3) := by decide +kernel
theorem dX12_comes_48 : decode cX12_comes 48 = .ok (.iload 9, 2) := by decide +kernel
theorem dX12_comes_50 : decode cX12_comes 50 = .ok (.iconst 1, 1) := by decide +kernel
theorem dX12_comes_51 : decode cX12_comes 51 = .ok (.iadd, 1) := by decide +kernel
theorem dX12_comes_52 : decode cX12_comes 52 = .ok (.iload_n 3, 1) := by decide +kernel
theorem dX12_comes_53 : decode cX12_comes 53 = .ok (.iastore, 1) := by decide +kernel
theorem dX12_comes_54 : decode cX12_comes 54 = .ok (.aload_n 0, 1) := by decide +kernel
theorem dX12_comes_55 : decode cX12_comes 55 = .ok (.getfield 11, 3) := by decide +kernel
theorem dX12_comes_58 : decode cX12_comes 58 = .ok (.iload 9, 2) := by decide +kernel
theorem dX12_comes_60 : decode cX12_comes 60 = .ok (.iconst 2, 1) := by decide +kernel
theorem dX12_comes_61 : decode cX12_comes 61 = .ok (.iadd, 1) := by decide +kernel
theorem dX12_comes_62 : decode cX12_comes 62 = .ok (.iload 4, 2) := by decide +kernel
theorem dX12_comes_64 : decode cX12_comes 64 = .ok (.iastore, 1) := by decide +kernel
theorem dX12_comes_65 : decode cX12_comes 65 = .ok (.aload_n 0, 1) := by decide +kernel
theorem dX12_comes_66 : decode cX12_comes 66 = .ok (.getfield 11, 3) := by decide +kernel
theorem dX12_comes_69 : decode cX12_comes 69 = .ok (.iload 9, 2) := by decide +kernel
theorem dX12_comes_71 : decode cX12_comes 71 = .ok (.iconst 3, 1) := by decide +kernel
theorem dX12_comes_72 : decode cX12_comes 72 = .ok (.iadd, 1) := by decide +kernel
theorem dX12_comes_73 : decode cX12_comes 73 = .ok (.iload 5, 2) := by decide +kernel
theorem dX12_comes_75 : decode cX12_comes 75 = .ok (.iastore, 1) := by decide +kernel
theorem dX12_comes_76 : decode cX12_comes 76 = .ok (.aload_n 0, 1) := by decide +kernel
theorem dX12_comes_77 : decode cX12_comes 77 = .ok (.getfield 11, 3) := by decide +kernel
theorem dX12_comes_80 : decode cX12_comes 80 = .ok (.iload 9, 2) := by decide +kernel
theorem dX12_comes_82 : decode cX12_comes 82 = .ok (.iconst 4, 1) := by decide +kernel
theorem dX12_comes_83 : decode cX12_comes 83 = .ok (.iadd, 1) := by decide +kernel
theorem dX12_comes_84 : decode cX12_comes 84 = .ok (.iload 6, 2) := by decide +kernel
theorem dX12_comes_86 : decode cX12_comes 86 = .ok (.iastore, 1) := by decide +kernel
theorem dX12_comes_87 : decode cX12_comes 87 = .ok (.aload_n 0, 1) := by decide +kernel
theorem dX12_comes_88 : decode cX12_comes 88 = .ok (.getfield 11, 3) := by decide +kernel
theorem dX12_comes_91 : decode cX12_comes 91 = .ok (.iload 9, 2) := by decide +kernel
theorem dX12_comes_93 : decode cX12_comes 93 = .ok (.iconst 5, 1) := by decide +kernel
theorem dX12_comes_94 : decode cX12_comes 94 = .ok (.iadd, 1) := by decide +kernel
theorem dX12_comes_95 : decode cX12_comes 95 = .ok (.iload_n 1, 1) := by decide +kernel
theorem dX12_comes_96 : decode cX12_comes 96 = .ok (.iastore, 1) := by decide +kernel
theorem dX12_comes_97 : decode cX12_comes 97 = .ok (.aload_n 0, 1) := by decide +kernel
theorem dX12_comes_98 : decode cX12_comes 98 = .ok (.getfield 11, 3) := by decide +kernel
theorem dX12_comes_101 : decode cX12_comes 101 = .ok (.iload 9, 2) := by decide +kernel
theorem dX12_comes_103 : decode cX12_comes 103 = .ok (.bipush 6, 2) := by decide +kernel
theorem dX12_comes_105 : decode cX12_comes 105 = .ok (.iadd, 1) := by decide +kernel
theorem dX12_comes_106 : decode cX12_comes 106 = .ok (.aload_n 0, 1) := by decide +kernel
theorem dX12_comes_107 : decode cX12_comes 107 = .ok (.iload_n 1, 1) := by decide +kernel
theorem dX12_comes_108 : decode cX12_comes 108 = .ok (.invokevirtual 136, 3) := by decide +kernel
theorem dX12_comes_111 : decode cX12_comes 111 = .ok (.iconst 1, 1) := by decide +kernel
theorem dX12_comes_112 : decode cX12_comes 112 = .ok (.iadd, 1) := by decide +kernel
theorem dX12_comes_113 : decode cX12_comes 113 = .ok (.iastore, 1) := by decide +kernel
theorem dX12_comes_114 : decode cX12_comes 114 = .ok (.aload_n 0, 1) := by decide +kernel
theorem dX12_comes_115 : decode cX12_comes 115 = .ok (.getfield 11, 3) := by decide +kernel
theorem dX12_comes_118 : decode cX12_comes 118 = .ok (.iload 9, 2) := by decide +kernel
theorem dX12_comes_120 : decode cX12_comes 120 = .ok (.bipush 7, 2) := by decide +kernel
theorem dX12_comes_122 : decode cX12_comes 122 = .ok (.iadd, 1) := by decide +kernel
theorem dX12_comes_123 : decode cX12_comes 123 = .ok (.iload 7, 2) := by decide +kernel
theorem dX12_comes_125 : decode cX12_comes 125 = .ok (.iastore, 1) := by decide +kernel
theorem dX12_comes_126 : decode cX12_comes 126 = .ok (.aload_n 0, 1) := by decide +kernel
theorem dX12_comes_127 : decode cX12_comes 127 = .ok (.getfield 11, 3) := by decide +kernel
theorem dX12_comes_130 : decode cX12_comes 130 = .ok (.bipush 21, 2) := by decide +kernel
theorem dX12_comes_132 : decode cX12_comes 132 = .ok (.iload 8, 2) := by decide +kernel
theorem dX12_comes_134 : decode cX12_comes 134 = .ok (.iconst 1, 1) := by decide +kernel
theorem dX12_comes_135 : decode cX12_comes 135 = .ok (.iadd, 1) := by decide +kernel
theorem dX12_comes_136 : decode cX12_comes 136 = .ok (.iastore, 1) := by decide +kernel
theorem dX12_comes_137 : decode cX12_comes 137 = .ok (.aload_n 0, 1) := by decide +kernel
theorem dX12_comes_138 : decode cX12_comes 138 = .ok (.getfield 11, 3) := by decide +kernel
theorem dX12_comes_141 : decode cX12_comes 141 = .ok (.bipush 17, 2) := by decide +kernel
theorem dX12_comes_143 : decode cX12_comes 143 = .ok (.iload 8, 2) := by decide +kernel
theorem dX12_comes_145 : decode cX12_comes 145 = .ok (.iastore, 1) := by decide +kernel
theorem dX12_comes_146 : decode cX12_comes 146 = .ok (.aload_n 0, 1) := by decide +kernel
theorem dX12_comes_147 : decode cX12_comes 147 = .ok (.getfield 11, 3) := by decide +kernel
theorem dX12_comes_150 : decode cX12_comes 150 = .ok (.bipush 11, 2) := by decide +kernel
theorem dX12_comes_152 : decode cX12_comes 152 = .ok (.aload_n 0, 1) := by decide +kernel
theorem dX12_comes_153 : decode cX12_comes 153 = .ok (.getfield 11, 3) := by decide +kernel
theorem dX12_comes_156 : decode cX12_comes 156 = .ok (.bipush 11, 2) := by decide +kernel
theorem dX12_comes_158 : decode cX12_comes 158 = .ok (.iaload, 1) := by decide +kernel
theorem dX12_comes_159 : decode cX12_comes 159 = .ok (.aload_n 0, 1) := by decide +kernel
theorem dX12_comes_160 : decode cX12_comes 160 = .ok (.getfield 11, 3) := by decide +kernel
theorem dX12_comes_163 : decode cX12_comes 163 = .ok (.iload 9, 2) := by decide +kernel
theorem dX12_comes_165 : decode cX12_comes 165 = .ok (.bipush 6, 2) := by decide +kernel
theorem dX12_comes_167 : decode cX12_comes 167 = .ok (.iadd, 1) := by decide +kernel
theorem dX12_comes_168 : decode cX12_comes 168 = .ok (.iaload, 1) := by decide +kernel
theorem dX12_comes_169 : decode cX12_comes 169 = .ok (.invokestatic 113, 3) := by decide +kernel
theorem dX12_comes_172 : decode cX12_comes 172 = .ok (.iastore, 1) := by decide +kernel
theorem dX12_comes_173 : decode cX12_comes 173 = .ok (.iconst 1, 1) := by decide +kernel
theorem dX12_comes_174 : decode cX12_comes 174 = .ok (.ireturn, 1) := by decide +kernel
theorem dX12_bound_0 : decode cX12_bound 0 = .ok (.aload_n 0, 1) := by decide +kernel
theorem dX12_bound_1 : decode cX12_bound 1 = .ok (.getfield 11, 3) := by decide +kernel
theorem dX12_bound_4 : decode cX12_bound 4 = .ok (.bipush 22, 2) := by decide +kernel
theorem dX12_bound_6 : decode cX12_bound 6 = .ok (.iaload, 1) := by decide +kernel
theorem dX12_bound_7 : decode cX12_bound 7 = .ok (.istore 5, 2) := by decide +kernel
theorem dX12_bound_9 : decode cX12_bound 9 = .ok (.sipush 2680, 3) := by decide +kernel
theorem dX12_bound_12 : decode cX12_bound 12 = .ok (.iconst 4, 1) := by decide +kernel
theorem dX12_bound_13 : decode cX12_bound 13 = .ok (.iload 5, 2) := by decide +kernel
theorem dX12_bound_15 : decode cX12_bound 15 = .ok (.imul, 1) := by decide +kernel
theorem dX12_bound_16 : decode cX12_bound 16 = .ok (.iadd, 1) := by decide +kernel
theorem dX12_bound_17 : decode cX12_bound 17 = .ok (.istore 6, 2) := by decide +kernel
theorem dX12_bound_19 : decode cX12_bound 19 = .ok (.aload_n 0, 1) := by decide +kernel
theorem dX12_bound_20 : decode cX12_bound 20 = .ok (.getfield 11, 3) := by decide +kernel
theorem dX12_bound_23 : decode cX12_bound 23 = .ok (.iload 6, 2) := by decide +kernel
theorem dX12_bound_25 : decode cX12_bound 25 = .ok (.iload_n 2, 1) := by decide +kernel
theorem dX12_bound_26 : decode cX12_bound 26 = .ok (.iastore, 1) := by decide +kernel
theorem dX12_bound_27 : decode cX12_bound 27 = .ok (.aload_n 0, 1) := by decide +kernel
theorem dX12_bound_28 : decode cX12_bound 28 = .ok (.getfield 11, 3) := by decide +kernel
theorem dX12_bound_31 : decode cX12_bound 31 = .ok (.iload 6, 2) := by decide +kernel
theorem dX12_bound_33 : decode cX12_bound 33 = .ok (.iconst 1, 1) := by decide +kernel
theorem dX12_bound_34 : decode cX12_bound 34 = .ok (.iadd, 1) := by decide +kernel
theorem dX12_bound_35 : decode cX12_bound 35 = .ok (.iload_n 3, 1) := by decide +kernel
theorem dX12_bound_36 : decode cX12_bound 36 = .ok (.iastore, 1) := by decide +kernel
theorem dX12_bound_37 : decode cX12_bound 37 = .ok (.aload_n 0, 1) := by decide +kernel
theorem dX12_bound_38 : decode cX12_bound 38 = .ok (.getfield 11, 3) := by decide +kernel
theorem dX12_bound_41 : decode cX12_bound 41 = .ok (.iload 6, 2) := by decide +kernel
theorem dX12_bound_43 : decode cX12_bound 43 = .ok (.iconst 2, 1) := by decide +kernel
theorem dX12_bound_44 : decode cX12_bound 44 = .ok (.iadd, 1) := by decide +kernel
theorem dX12_bound_45 : decode cX12_bound 45 = .ok (.iload 4, 2) := by decide +kernel
theorem dX12_bound_47 : decode cX12_bound 47 = .ok (.iastore, 1) := by decide +kernel
theorem dX12_bound_48 : decode cX12_bound 48 = .ok (.aload_n 0, 1) := by decide +kernel
theorem dX12_bound_49 : decode cX12_bound 49 = .ok (.getfield 11, 3) := by decide +kernel
theorem dX12_bound_52 : decode cX12_bound 52 = .ok (.iload 6, 2) := by decide +kernel
theorem dX12_bound_54 : decode cX12_bound 54 = .ok (.iconst 3, 1) := by decide +kernel
theorem dX12_bound_55 : decode cX12_bound 55 = .ok (.iadd, 1) := by decide +kernel
theorem dX12_bound_56 : decode cX12_bound 56 = .ok (.iload_n 1, 1) := by decide +kernel
theorem dX12_bound_57 : decode cX12_bound 57 = .ok (.iastore, 1) := by decide +kernel
theorem dX12_bound_58 : decode cX12_bound 58 = .ok (.aload_n 0, 1) := by decide +kernel
theorem dX12_bound_59 : decode cX12_bound 59 = .ok (.getfield 11, 3) := by decide +kernel
theorem dX12_bound_62 : decode cX12_bound 62 = .ok (.bipush 22, 2) := by decide +kernel
theorem dX12_bound_64 : decode cX12_bound 64 = .ok (.iload 5, 2) := by decide +kernel
theorem dX12_bound_66 : decode cX12_bound 66 = .ok (.iconst 1, 1) := by decide +kernel
theorem dX12_bound_67 : decode cX12_bound 67 = .ok (.iadd, 1) := by decide +kernel
theorem dX12_bound_68 : decode cX12_bound 68 = .ok (.iastore, 1) := by decide +kernel
theorem dX12_bound_69 : decode cX12_bound 69 = .ok (.iload 5, 2) := by decide +kernel
theorem dX12_bound_71 : decode cX12_bound 71 = .ok (.ireturn, 1) := by decide +kernel
theorem dX12_found_0 : decode cX12_found 0 = .ok (.iload_n 1, 1) := by decide +kernel
theorem dX12_found_1 : decode cX12_found 1 = .ok (.istore_n 3, 1) := by decide +kernel
theorem dX12_found_2 : decode cX12_found 2 = .ok (.iload_n 3, 1) := by decide +kernel
theorem dX12_found_3 : decode cX12_found 3 = .ok (.ifCond .lt 37, 3) := by decide +kernel
theorem dX12_found_6 : decode cX12_found 6 = .ok (.aload_n 0, 1) := by decide +kernel
theorem dX12_found_7 : decode cX12_found 7 = .ok (.getfield 11, 3) := by decide +kernel
theorem dX12_found_10 : decode cX12_found 10 = .ok (.sipush 2680, 3) := by decide +kernel
theorem dX12_found_13 : decode cX12_found 13 = .ok (.iconst 4, 1) := by decide +kernel
theorem dX12_found_14 : decode cX12_found 14 = .ok (.iload_n 3, 1) := by decide +kernel
theorem dX12_found_15 : decode cX12_found 15 = .ok (.imul, 1) := by decide +kernel
theorem dX12_found_16 : decode cX12_found 16 = .ok (.iadd, 1) := by decide +kernel
theorem dX12_found_17 : decode cX12_found 17 = .ok (.iaload, 1) := by decide +kernel
theorem dX12_found_18 : decode cX12_found 18 = .ok (.iload_n 2, 1) := by decide +kernel
theorem dX12_found_19 : decode cX12_found 19 = .ok (.if_icmp .eq 21, 3) := by decide +kernel
theorem dX12_found_22 : decode cX12_found 22 = .ok (.aload_n 0, 1) := by decide +kernel
theorem dX12_found_23 : decode cX12_found 23 = .ok (.getfield 11, 3) := by decide +kernel
theorem dX12_found_26 : decode cX12_found 26 = .ok (.sipush 2680, 3) := by decide +kernel
theorem dX12_found_29 : decode cX12_found 29 = .ok (.iconst 4, 1) := by decide +kernel
theorem dX12_found_30 : decode cX12_found 30 = .ok (.iload_n 3, 1) := by decide +kernel
theorem dX12_found_31 : decode cX12_found 31 = .ok (.imul, 1) := by decide +kernel
theorem dX12_found_32 : decode cX12_found 32 = .ok (.iadd, 1) := by decide +kernel
theorem dX12_found_33 : decode cX12_found 33 = .ok (.iconst 3, 1) := by decide +kernel
theorem dX12_found_34 : decode cX12_found 34 = .ok (.iadd, 1) := by decide +kernel
theorem dX12_found_35 : decode cX12_found 35 = .ok (.iaload, 1) := by decide +kernel
theorem dX12_found_36 : decode cX12_found 36 = .ok (.istore_n 3, 1) := by decide +kernel
theorem dX12_found_37 : decode cX12_found 37 = .ok (.goto (-35), 3) := by decide +kernel
theorem dX12_found_40 : decode cX12_found 40 = .ok (.iload_n 3, 1) := by decide +kernel
theorem dX12_found_41 : decode cX12_found 41 = .ok (.ireturn, 1) := by decide +kernel
theorem dX12_worksOn_0 : decode cX12_worksOn 0 = .ok (.aload_n 0, 1) := by decide +kernel
theorem dX12_worksOn_1 : decode cX12_worksOn 1 = .ok (.getfield 11, 3) := by decide +kernel
theorem dX12_worksOn_4 : decode cX12_worksOn 4 = .ok (.bipush 14, 2) := by decide +kernel
theorem dX12_worksOn_6 : decode cX12_worksOn 6 = .ok (.iaload, 1) := by decide +kernel
theorem dX12_worksOn_7 : decode cX12_worksOn 7 = .ok (.istore_n 1, 1) := by decide +kernel
theorem dX12_worksOn_8 : decode cX12_worksOn 8 = .ok (.aload_n 0, 1) := by decide +kernel
theorem dX12_worksOn_9 : decode cX12_worksOn 9 = .ok (.getfield 11, 3) := by decide +kernel
theorem dX12_worksOn_12 : decode cX12_worksOn 12 = .ok (.bipush 16, 2) := by decide +kernel
theorem dX12_worksOn_14 : decode cX12_worksOn 14 = .ok (.iaload, 1) := by decide +kernel
theorem dX12_worksOn_15 : decode cX12_worksOn 15 = .ok (.istore_n 2, 1) := by decide +kernel
theorem dX12_worksOn_16 : decode cX12_worksOn 16 = .ok (.aload_n 0, 1) := by decide +kernel
theorem dX12_worksOn_17 : decode cX12_worksOn 17 = .ok (.getfield 21, 3) := by decide +kernel
theorem dX12_worksOn_20 : decode cX12_worksOn 20 = .ok (.iload_n 1, 1) := by decide +kernel
theorem dX12_worksOn_21 : decode cX12_worksOn 21 = .ok (.iaload, 1) := by decide +kernel
theorem dX12_worksOn_22 : decode cX12_worksOn 22 = .ok (.istore_n 3, 1) := by decide +kernel
theorem dX12_worksOn_23 : decode cX12_worksOn 23 = .ok (.aload_n 0, 1) := by decide +kernel
theorem dX12_worksOn_24 : decode cX12_worksOn 24 = .ok (.getfield 24, 3) := by decide +kernel
theorem dX12_worksOn_27 : decode cX12_worksOn 27 = .ok (.iload_n 1, 1) := by decide +kernel
theorem dX12_worksOn_28 : decode cX12_worksOn 28 = .ok (.iaload, 1) := by decide +kernel
theorem dX12_worksOn_29 : decode cX12_worksOn 29 = .ok (.istore 4, 2) := by decide +kernel
theorem dX12_worksOn_31 : decode cX12_worksOn 31 = .ok (.iload_n 3, 1) := by decide +kernel
theorem dX12_worksOn_32 : decode cX12_worksOn 32 = .ok (.bipush 97, 2) := by decide +kernel
theorem dX12_worksOn_34 : decode cX12_worksOn 34 = .ok (.if_icmp .eq 9, 3) := by decide +kernel
theorem dX12_worksOn_37 : decode cX12_worksOn 37 = .ok (.iload_n 3, 1) := by decide +kernel
theorem dX12_worksOn_38 : decode cX12_worksOn 38 = .ok (.bipush 94, 2) := by decide +kernel
theorem dX12_worksOn_40 : decode cX12_worksOn 40 = .ok (.if_icmp .ne 13, 3) := by decide +kernel
theorem dX12_worksOn_43 : decode cX12_worksOn 43 = .ok (.aload_n 0, 1) := by decide +kernel
theorem dX12_worksOn_44 : decode cX12_worksOn 44 = .ok (.iload_n 2, 1) := by decide +kernel
theorem dX12_worksOn_45 : decode cX12_worksOn 45 = .ok (.iload 4, 2) := by decide +kernel
theorem dX12_worksOn_47 : decode cX12_worksOn 47 = .ok (.invokevirtual 143, 3) := by decide +kernel
theorem dX12_worksOn_50 : decode cX12_worksOn 50 = .ok (.goto 4, 3) := by decide +kernel
theorem dX12_worksOn_53 : decode cX12_worksOn 53 = .ok (.iconst (-1), 1) := by decide +kernel
theorem dX12_worksOn_54 : decode cX12_worksOn 54 = .ok (.istore 5, 2) := by decide +kernel
theorem dX12_worksOn_56 : decode cX12_worksOn 56 = .ok (.iload 5, 2) := by decide +kernel
theorem dX12_worksOn_58 : decode cX12_worksOn 58 = .ok (.ifCond .lt 26, 3) := by decide +kernel
theorem dX12_worksOn_61 : decode cX12_worksOn 61 = .ok (.aload_n 0, 1) := by decide +kernel
theorem dX12_worksOn_62 : decode cX12_worksOn 62 = .ok (.getfield 11, 3) := by decide +kernel
theorem dX12_worksOn_65 : decode cX12_worksOn 65 = .ok (.sipush 2680, 3) := by decide +kernel
theorem dX12_worksOn_68 : decode cX12_worksOn 68 = .ok (.iconst 4, 1) := by decide +kernel
theorem dX12_worksOn_69 : decode cX12_worksOn 69 = .ok (.iload 5, 2) := by decide +kernel
theorem dX12_worksOn_71 : decode cX12_worksOn 71 = .ok (.imul, 1) := by decide +kernel
theorem dX12_worksOn_72 : decode cX12_worksOn 72 = .ok (.iadd, 1) := by decide +kernel
theorem dX12_worksOn_73 : decode cX12_worksOn 73 = .ok (.iconst 1, 1) := by decide +kernel
theorem dX12_worksOn_74 : decode cX12_worksOn 74 = .ok (.iadd, 1) := by decide +kernel
theorem dX12_worksOn_75 : decode cX12_worksOn 75 = .ok (.iaload, 1) := by decide +kernel
theorem dX12_worksOn_76 : decode cX12_worksOn 76 = .ok (.iconst 1, 1) := by decide +kernel
theorem dX12_worksOn_77 : decode cX12_worksOn 77 = .ok (.if_icmp .ne 7, 3) := by decide +kernel
theorem dX12_worksOn_80 : decode cX12_worksOn 80 = .ok (.iconst 1, 1) := by decide +kernel
theorem dX12_worksOn_81 : decode cX12_worksOn 81 = .ok (.goto 4, 3) := by decide +kernel
theorem dX12_worksOn_84 : decode cX12_worksOn 84 = .ok (.iconst 0, 1) := by decide +kernel
theorem dX12_worksOn_85 : decode cX12_worksOn 85 = .ok (.istore 6, 2) := by decide +kernel
theorem dX12_worksOn_87 : decode cX12_worksOn 87 = .ok (.iload_n 3, 1) := by decide +kernel
theorem dX12_worksOn_88 : decode cX12_worksOn 88 = .ok (.bipush 48, 2) := by decide +kernel
theorem dX12_worksOn_90 : decode cX12_worksOn 90 = .ok (.if_icmp .ne 13, 3) := by decide +kernel
theorem dX12_worksOn_93 : decode cX12_worksOn 93 = .ok (.aload_n 0, 1) := by decide +kernel
theorem dX12_worksOn_94 : decode cX12_worksOn 94 = .ok (.iconst 0, 1) := by decide +kernel
theorem dX12_worksOn_95 : decode cX12_worksOn 95 = .ok (.iload 4, 2) := by decide +kernel
theorem dX12_worksOn_97 : decode cX12_worksOn 97 = .ok (.invokevirtual 146, 3) := by decide +kernel
theorem dX12_worksOn_100 : decode cX12_worksOn 100 = .ok (.goto 302, 3) := by decide +kernel
theorem dX12_worksOn_103 : decode cX12_worksOn 103 = .ok (.iload_n 3, 1) := by decide +kernel
theorem dX12_worksOn_104 : decode cX12_worksOn 104 = .ok (.bipush 97, 2) := by decide +kernel
theorem dX12_worksOn_106 : decode cX12_worksOn 106 = .ok (.if_icmp .ne 52, 3) := by decide +kernel
theorem dX12_worksOn_109 : decode cX12_worksOn 109 = .ok (.aload_n 0, 1) := by decide +kernel
theorem dX12_worksOn_110 : decode cX12_worksOn 110 = .ok (.iload 6, 2) := by decide +kernel
theorem dX12_worksOn_112 : decode cX12_worksOn 112 = .ok (.ifCond .eq 7, 3) := by decide +kernel
theorem dX12_worksOn_115 : decode cX12_worksOn 115 = .ok (.iconst 1, 1) := by decide +kernel
theorem dX12_worksOn_116 : decode cX12_worksOn 116 = .ok (.goto 4, 3) := by decide +kernel
theorem dX12_worksOn_119 : decode cX12_worksOn 119 = .ok (.iconst 0, 1) := by decide +kernel
theorem dX12_worksOn_120 : decode cX12_worksOn 120 = .ok (.iload 5, 2) := by decide +kernel
theorem dX12_worksOn_122 : decode cX12_worksOn 122 = .ok (.ifCond .lt 21, 3) := by decide +kernel
theorem dX12_worksOn_125 : decode cX12_worksOn 125 = .ok (.aload_n 0, 1) := by decide +kernel
theorem dX12_worksOn_126 : decode cX12_worksOn 126 = .ok (.getfield 11, 3) := by decide +kernel
theorem dX12_worksOn_129 : decode cX12_worksOn 129 = .ok (.sipush 2680, 3) := by decide +kernel
theorem dX12_worksOn_132 : decode cX12_worksOn 132 = .ok (.iconst 4, 1) := by decide +kernel
theorem dX12_worksOn_133 : decode cX12_worksOn 133 = .ok (.iload 5, 2) := by decide +kernel
theorem dX12_worksOn_135 : decode cX12_worksOn 135 = .ok (.imul, 1) := by decide +kernel
theorem dX12_worksOn_136 : decode cX12_worksOn 136 = .ok (.iadd, 1) := by decide +kernel
theorem dX12_worksOn_137 : decode cX12_worksOn 137 = .ok (.iconst 2, 1) := by decide +kernel
theorem dX12_worksOn_138 : decode cX12_worksOn 138 = .ok (.iadd, 1) := by decide +kernel
theorem dX12_worksOn_139 : decode cX12_worksOn 139 = .ok (.iaload, 1) := by decide +kernel
theorem dX12_worksOn_140 : decode cX12_worksOn 140 = .ok (.goto 12, 3) := by decide +kernel
theorem dX12_worksOn_143 : decode cX12_worksOn 143 = .ok (.aload_n 0, 1) := by decide +kernel
theorem dX12_worksOn_144 : decode cX12_worksOn 144 = .ok (.getfield 11, 3) := by decide +kernel
theorem dX12_worksOn_147 : decode cX12_worksOn 147 = .ok (.iconst 0, 1) := by decide +kernel
theorem dX12_worksOn_148 : decode cX12_worksOn 148 = .ok (.iload 4, 2) := by decide +kernel
theorem dX12_worksOn_150 : decode cX12_worksOn 150 = .ok (.iadd, 1) := by decide +kernel
theorem dX12_worksOn_151 : decode cX12_worksOn 151 = .ok (.iaload, 1) := by decide +kernel
theorem dX12_worksOn_152 : decode cX12_worksOn 152 = .ok (.invokevirtual 146, 3) := by decide +kernel
theorem dX12_worksOn_155 : decode cX12_worksOn 155 = .ok (.goto 247, 3) := by decide +kernel
theorem dX12_worksOn_158 : decode cX12_worksOn 158 = .ok (.iload_n 3, 1) := by decide +kernel
theorem dX12_worksOn_159 : decode cX12_worksOn 159 = .ok (.bipush 91, 2) := by decide +kernel
theorem dX12_worksOn_161 : decode cX12_worksOn 161 = .ok (.if_icmp .ne 68, 3) := by decide +kernel
theorem dX12_worksOn_164 : decode cX12_worksOn 164 = .ok (.aload_n 0, 1) := by decide +kernel
theorem dX12_worksOn_165 : decode cX12_worksOn 165 = .ok (.getfield 11, 3) := by decide +kernel
theorem dX12_worksOn_168 : decode cX12_worksOn 168 = .ok (.bipush 15, 2) := by decide +kernel
theorem dX12_worksOn_170 : decode cX12_worksOn 170 = .ok (.iaload, 1) := by decide +kernel
theorem dX12_worksOn_171 : decode cX12_worksOn 171 = .ok (.istore 7, 2) := by decide +kernel
theorem dX12_worksOn_173 : decode cX12_worksOn 173 = .ok (.iload 7, 2) := by decide +kernel
theorem dX12_worksOn_175 : decode cX12_worksOn 175 = .ok (.aload_n 0, 1) := by decide +kernel
theorem dX12_worksOn_176 : decode cX12_worksOn 176 = .ok (.getfield 27, 3) := by decide +kernel
theorem dX12_worksOn_179 : decode cX12_worksOn 179 = .ok (.iload_n 1, 1) := by decide +kernel
theorem dX12_worksOn_180 : decode cX12_worksOn 180 = .ok (.iaload, 1) := by decide +kernel
theorem dX12_worksOn_181 : decode cX12_worksOn 181 = .ok (.iconst 1, 1) := by decide +kernel
theorem dX12_worksOn_182 : decode cX12_worksOn 182 = .ok (.isub, 1) := by decide +kernel
theorem dX12_worksOn_183 : decode cX12_worksOn 183 = .ok (.if_icmp .eq 26, 3) := by decide +kernel
theorem dX12_worksOn_186 : decode cX12_worksOn 186 = .ok (.aload_n 0, 1) := by decide +kernel
theorem dX12_worksOn_187 : decode cX12_worksOn 187 = .ok (.aload_n 0, 1) := by decide +kernel
theorem dX12_worksOn_188 : decode cX12_worksOn 188 = .ok (.getfield 11, 3) := by decide +kernel
theorem dX12_worksOn_191 : decode cX12_worksOn 191 = .ok (.bipush 17, 2) := by decide +kernel
theorem dX12_worksOn_193 : decode cX12_worksOn 193 = .ok (.iaload, 1) := by decide +kernel
theorem dX12_worksOn_194 : decode cX12_worksOn 194 = .ok (.iconst 4, 1) := by decide +kernel
theorem dX12_worksOn_195 : decode cX12_worksOn 195 = .ok (.iload_n 1, 1) := by decide +kernel
theorem dX12_worksOn_196 : decode cX12_worksOn 196 = .ok (.iload_n 2, 1) := by decide +kernel
theorem dX12_worksOn_197 : decode cX12_worksOn 197 = .ok (.iconst 0, 1) := by decide +kernel
theorem dX12_worksOn_198 : decode cX12_worksOn 198 = .ok (.iconst 0, 1) := by decide +kernel
theorem dX12_worksOn_199 : decode cX12_worksOn 199 = .ok (.iload 7, 2) := by decide +kernel
theorem dX12_worksOn_201 : decode cX12_worksOn 201 = .ok (.iconst 1, 1) := by decide +kernel
theorem dX12_worksOn_202 : decode cX12_worksOn 202 = .ok (.iadd, 1) := by decide +kernel
theorem dX12_worksOn_203 : decode cX12_worksOn 203 = .ok (.invokevirtual 150, 3) := by decide +kernel
theorem dX12_worksOn_206 : decode cX12_worksOn 206 = .ok (.ifCond .eq 20, 3) := by decide +kernel
theorem dX12_worksOn_209 : decode cX12_worksOn 209 = .ok (.aload_n 0, 1) := by decide +kernel
theorem dX12_worksOn_210 : decode cX12_worksOn 210 = .ok (.aload_n 0, 1) := by decide +kernel
theorem dX12_worksOn_211 : decode cX12_worksOn 211 = .ok (.getfield 30, 3) := by decide +kernel
theorem dX12_worksOn_214 : decode cX12_worksOn 214 = .ok (.iconst 5, 1) := by decide +kernel
theorem dX12_worksOn_215 : decode cX12_worksOn 215 = .ok (.iload_n 1, 1) := by decide +kernel
theorem dX12_worksOn_216 : decode cX12_worksOn 216 = .ok (.imul, 1) := by decide +kernel
theorem dX12_worksOn_217 : decode cX12_worksOn 217 = .ok (.iload 7, 2) := by decide +kernel
theorem dX12_worksOn_219 : decode cX12_worksOn 219 = .ok (.iadd, 1) := by decide +kernel
theorem dX12_worksOn_220 : decode cX12_worksOn 220 = .ok (.iaload, 1) := by decide +kernel
theorem dX12_worksOn_221 : decode cX12_worksOn 221 = .ok (.iconst 0, 1) := by decide +kernel
theorem dX12_worksOn_222 : decode cX12_worksOn 222 = .ok (.iload_n 2, 1) := by decide +kernel
theorem dX12_worksOn_223 : decode cX12_worksOn 223 = .ok (.invokevirtual 154, 3) := by decide +kernel
theorem dX12_worksOn_226 : decode cX12_worksOn 226 = .ok (.goto 176, 3) := by decide +kernel
theorem dX12_worksOn_229 : decode cX12_worksOn 229 = .ok (.iload_n 3, 1) := by decide +kernel
theorem dX12_worksOn_230 : decode cX12_worksOn 230 = .ok (.bipush 64, 2) := by decide +kernel
theorem dX12_worksOn_232 : decode cX12_worksOn 232 = .ok (.if_icmp .ne 91, 3) := by decide +kernel
theorem dX12_worksOn_235 : decode cX12_worksOn 235 = .ok (.aload_n 0, 1) := by decide +kernel
theorem dX12_worksOn_236 : decode cX12_worksOn 236 = .ok (.getfield 11, 3) := by decide +kernel
theorem dX12_worksOn_239 : decode cX12_worksOn 239 = .ok (.bipush 24, 2) := by decide +kernel
theorem dX12_worksOn_241 : decode cX12_worksOn 241 = .ok (.iaload, 1) := by decide +kernel
theorem dX12_worksOn_242 : decode cX12_worksOn 242 = .ok (.istore 7, 2) := by decide +kernel
theorem dX12_worksOn_244 : decode cX12_worksOn 244 = .ok (.aload_n 0, 1) := by decide +kernel
theorem dX12_worksOn_245 : decode cX12_worksOn 245 = .ok (.getfield 11, 3) := by decide +kernel
theorem dX12_worksOn_248 : decode cX12_worksOn 248 = .ok (.sipush 5240, 3) := by decide +kernel
theorem dX12_worksOn_251 : decode cX12_worksOn 251 = .ok (.iconst 2, 1) := by decide +kernel
theorem dX12_worksOn_252 : decode cX12_worksOn 252 = .ok (.iload 7, 2) := by decide +kernel
theorem dX12_worksOn_254 : decode cX12_worksOn 254 = .ok (.imul, 1) := by decide +kernel
theorem dX12_worksOn_255 : decode cX12_worksOn 255 = .ok (.iadd, 1) := by decide +kernel
theorem dX12_worksOn_256 : decode cX12_worksOn 256 = .ok (.aload_n 0, 1) := by decide +kernel
theorem dX12_worksOn_257 : decode cX12_worksOn 257 = .ok (.getfield 11, 3) := by decide +kernel
theorem dX12_worksOn_260 : decode cX12_worksOn 260 = .ok (.bipush 17, 2) := by decide +kernel
theorem dX12_worksOn_262 : decode cX12_worksOn 262 = .ok (.iaload, 1) := by decide +kernel
theorem dX12_worksOn_263 : decode cX12_worksOn 263 = .ok (.iastore, 1) := by decide +kernel
theorem dX12_worksOn_264 : decode cX12_worksOn 264 = .ok (.aload_n 0, 1) := by decide +kernel
theorem dX12_worksOn_265 : decode cX12_worksOn 265 = .ok (.getfield 11, 3) := by decide +kernel
theorem dX12_worksOn_268 : decode cX12_worksOn 268 = .ok (.sipush 5240, 3) := by decide +kernel
theorem dX12_worksOn_271 : decode cX12_worksOn 271 = .ok (.iconst 2, 1) := by decide +kernel
theorem dX12_worksOn_272 : decode cX12_worksOn 272 = .ok (.iload 7, 2) := by decide +kernel
theorem dX12_worksOn_274 : decode cX12_worksOn 274 = .ok (.imul, 1) := by decide +kernel
theorem dX12_worksOn_275 : decode cX12_worksOn 275 = .ok (.iadd, 1) := by decide +kernel
theorem dX12_worksOn_276 : decode cX12_worksOn 276 = .ok (.iconst 1, 1) := by decide +kernel
theorem dX12_worksOn_277 : decode cX12_worksOn 277 = .ok (.iadd, 1) := by decide +kernel
theorem dX12_worksOn_278 : decode cX12_worksOn 278 = .ok (.aload_n 0, 1) := by decide +kernel
theorem dX12_worksOn_279 : decode cX12_worksOn 279 = .ok (.getfield 11, 3) := by decide +kernel
theorem dX12_worksOn_282 : decode cX12_worksOn 282 = .ok (.bipush 18, 2) := by decide +kernel
theorem dX12_worksOn_284 : decode cX12_worksOn 284 = .ok (.iaload, 1) := by decide +kernel
theorem dX12_worksOn_285 : decode cX12_worksOn 285 = .ok (.iastore, 1) := by decide +kernel
theorem dX12_worksOn_286 : decode cX12_worksOn 286 = .ok (.aload_n 0, 1) := by decide +kernel
theorem dX12_worksOn_287 : decode cX12_worksOn 287 = .ok (.getfield 11, 3) := by decide +kernel
theorem dX12_worksOn_290 : decode cX12_worksOn 290 = .ok (.bipush 24, 2) := by decide +kernel
theorem dX12_worksOn_292 : decode cX12_worksOn 292 = .ok (.iload 7, 2) := by decide +kernel
theorem dX12_worksOn_294 : decode cX12_worksOn 294 = .ok (.iconst 1, 1) := by decide +kernel
theorem dX12_worksOn_295 : decode cX12_worksOn 295 = .ok (.iadd, 1) := by decide +kernel
theorem dX12_worksOn_296 : decode cX12_worksOn 296 = .ok (.iastore, 1) := by decide +kernel
theorem dX12_worksOn_297 : decode cX12_worksOn 297 = .ok (.aload_n 0, 1) := by decide +kernel
theorem dX12_worksOn_298 : decode cX12_worksOn 298 = .ok (.aload_n 0, 1) := by decide +kernel
theorem dX12_worksOn_299 : decode cX12_worksOn 299 = .ok (.getfield 30, 3) := by decide +kernel
theorem dX12_worksOn_302 : decode cX12_worksOn 302 = .ok (.iconst 5, 1) := by decide +kernel
theorem dX12_worksOn_303 : decode cX12_worksOn 303 = .ok (.iload_n 1, 1) := by decide +kernel
theorem dX12_worksOn_304 : decode cX12_worksOn 304 = .ok (.imul, 1) := by decide +kernel
theorem dX12_worksOn_305 : decode cX12_worksOn 305 = .ok (.iaload, 1) := by decide +kernel
theorem dX12_worksOn_306 : decode cX12_worksOn 306 = .ok (.iconst 0, 1) := by decide +kernel
theorem dX12_worksOn_307 : decode cX12_worksOn 307 = .ok (.aload_n 0, 1) := by decide +kernel
theorem dX12_worksOn_308 : decode cX12_worksOn 308 = .ok (.iload_n 2, 1) := by decide +kernel
theorem dX12_worksOn_309 : decode cX12_worksOn 309 = .ok (.iload 4, 2) := by decide +kernel
theorem dX12_worksOn_311 : decode cX12_worksOn 311 = .ok (.iconst 1, 1) := by decide +kernel
theorem dX12_worksOn_312 : decode cX12_worksOn 312 = .ok (.iload 7, 2) := by decide +kernel
theorem dX12_worksOn_314 : decode cX12_worksOn 314 = .ok (.invokevirtual 158, 3) := by decide +kernel
theorem dX12_worksOn_317 : decode cX12_worksOn 317 = .ok (.invokevirtual 154, 3) := by decide +kernel
theorem dX12_worksOn_320 : decode cX12_worksOn 320 = .ok (.goto 82, 3) := by decide +kernel
theorem dX12_worksOn_323 : decode cX12_worksOn 323 = .ok (.iload_n 3, 1) := by decide +kernel
theorem dX12_worksOn_324 : decode cX12_worksOn 324 = .ok (.bipush 94, 2) := by decide +kernel
theorem dX12_worksOn_326 : decode cX12_worksOn 326 = .ok (.if_icmp .ne 16, 3) := by decide +kernel
theorem dX12_worksOn_329 : decode cX12_worksOn 329 = .ok (.iload 6, 2) := by decide +kernel
theorem dX12_worksOn_331 : decode cX12_worksOn 331 = .ok (.ifCond .ne 11, 3) := by decide +kernel
theorem dX12_worksOn_334 : decode cX12_worksOn 334 = .ok (.aload_n 0, 1) := by decide +kernel
theorem dX12_worksOn_335 : decode cX12_worksOn 335 = .ok (.iconst 2, 1) := by decide +kernel
theorem dX12_worksOn_336 : decode cX12_worksOn 336 = .ok (.invokevirtual 139, 3) := by decide +kernel
theorem dX12_worksOn_339 : decode cX12_worksOn 339 = .ok (.goto 63, 3) := by decide +kernel
theorem dX12_worksOn_342 : decode cX12_worksOn 342 = .ok (.aload_n 0, 1) := by decide +kernel
theorem dX12_worksOn_343 : decode cX12_worksOn 343 = .ok (.aload_n 0, 1) := by decide +kernel
theorem dX12_worksOn_344 : decode cX12_worksOn 344 = .ok (.getfield 11, 3) := by decide +kernel
theorem dX12_worksOn_347 : decode cX12_worksOn 347 = .ok (.bipush 17, 2) := by decide +kernel
theorem dX12_worksOn_349 : decode cX12_worksOn 349 = .ok (.iaload, 1) := by decide +kernel
theorem dX12_worksOn_350 : decode cX12_worksOn 350 = .ok (.iload_n 3, 1) := by decide +kernel
theorem dX12_worksOn_351 : decode cX12_worksOn 351 = .ok (.invokestatic 162, 3) := by decide +kernel
theorem dX12_worksOn_354 : decode cX12_worksOn 354 = .ok (.iload_n 1, 1) := by decide +kernel
theorem dX12_worksOn_355 : decode cX12_worksOn 355 = .ok (.iload_n 2, 1) := by decide +kernel
theorem dX12_worksOn_356 : decode cX12_worksOn 356 = .ok (.iconst 0, 1) := by decide +kernel
theorem dX12_worksOn_357 : decode cX12_worksOn 357 = .ok (.iconst 0, 1) := by decide +kernel
theorem dX12_worksOn_358 : decode cX12_worksOn 358 = .ok (.iload 6, 2) := by decide +kernel
theorem dX12_worksOn_360 : decode cX12_worksOn 360 = .ok (.ifCond .eq 21, 3) := by decide +kernel
theorem dX12_worksOn_363 : decode cX12_worksOn 363 = .ok (.aload_n 0, 1) := by decide +kernel
theorem dX12_worksOn_364 : decode cX12_worksOn 364 = .ok (.getfield 11, 3) := by decide +kernel
theorem dX12_worksOn_367 : decode cX12_worksOn 367 = .ok (.sipush 2680, 3) := by decide +kernel
theorem dX12_worksOn_370 : decode cX12_worksOn 370 = .ok (.iconst 4, 1) := by decide +kernel
theorem dX12_worksOn_371 : decode cX12_worksOn 371 = .ok (.iload 5, 2) := by decide +kernel
theorem dX12_worksOn_373 : decode cX12_worksOn 373 = .ok (.imul, 1) := by decide +kernel
theorem dX12_worksOn_374 : decode cX12_worksOn 374 = .ok (.iadd, 1) := by decide +kernel
theorem dX12_worksOn_375 : decode cX12_worksOn 375 = .ok (.iconst 2, 1) := by decide +kernel
theorem dX12_worksOn_376 : decode cX12_worksOn 376 = .ok (.iadd, 1) := by decide +kernel
theorem dX12_worksOn_377 : decode cX12_worksOn 377 = .ok (.iaload, 1) := by decide +kernel
theorem dX12_worksOn_378 : decode cX12_worksOn 378 = .ok (.goto 4, 3) := by decide +kernel
theorem dX12_worksOn_381 : decode cX12_worksOn 381 = .ok (.iconst 0, 1) := by decide +kernel
theorem dX12_worksOn_382 : decode cX12_worksOn 382 = .ok (.invokevirtual 150, 3) := by decide +kernel
theorem dX12_worksOn_385 : decode cX12_worksOn 385 = .ok (.ifCond .eq 17, 3) := by decide +kernel
theorem dX12_worksOn_388 : decode cX12_worksOn 388 = .ok (.aload_n 0, 1) := by decide +kernel
theorem dX12_worksOn_389 : decode cX12_worksOn 389 = .ok (.aload_n 0, 1) := by decide +kernel
theorem dX12_worksOn_390 : decode cX12_worksOn 390 = .ok (.getfield 30, 3) := by decide +kernel
theorem dX12_worksOn_393 : decode cX12_worksOn 393 = .ok (.iconst 5, 1) := by decide +kernel
theorem dX12_worksOn_394 : decode cX12_worksOn 394 = .ok (.iload_n 1, 1) := by decide +kernel
theorem dX12_worksOn_395 : decode cX12_worksOn 395 = .ok (.imul, 1) := by decide +kernel
theorem dX12_worksOn_396 : decode cX12_worksOn 396 = .ok (.iaload, 1) := by decide +kernel
theorem dX12_worksOn_397 : decode cX12_worksOn 397 = .ok (.iconst 0, 1) := by decide +kernel
theorem dX12_worksOn_398 : decode cX12_worksOn 398 = .ok (.iload_n 2, 1) := by decide +kernel
theorem dX12_worksOn_399 : decode cX12_worksOn 399 = .ok (.invokevirtual 154, 3) := by decide +kernel
theorem dX12_worksOn_402 : decode cX12_worksOn 402 = .ok (.return_, 1) := by decide +kernel
theorem dX12_frameOf_0 : decode cX12_frameOf 0 = .ok (.iload_n 0, 1) := by decide +kernel
theorem dX12_frameOf_1 : decode cX12_frameOf 1 = .ok (.lookupswitch 75 #[(33, 66), (37, 72), (58, 69), (61, 61), (63, 59), (94, 63)], 59) := by decide +kernel
theorem dX12_frameOf_60 : decode cX12_frameOf 60 = .ok (.iconst 2, 1) := by decide +kernel
theorem dX12_frameOf_61 : decode cX12_frameOf 61 = .ok (.ireturn, 1) := by decide +kernel
theorem dX12_frameOf_62 : decode cX12_frameOf 62 = .ok (.iconst 3, 1) := by decide +kernel
theorem dX12_frameOf_63 : decode cX12_frameOf 63 = .ok (.ireturn, 1) := by decide +kernel
theorem dX12_frameOf_64 : decode cX12_frameOf 64 = .ok (.bipush 6, 2) := by decide +kernel
theorem dX12_frameOf_66 : decode cX12_frameOf 66 = .ok (.ireturn, 1) := by decide +kernel
theorem dX12_frameOf_67 : decode cX12_frameOf 67 = .ok (.bipush 7, 2) := by decide +kernel
theorem dX12_frameOf_69 : decode cX12_frameOf 69 = .ok (.ireturn, 1) := by decide +kernel
theorem dX12_frameOf_70 : decode cX12_frameOf 70 = .ok (.bipush 8, 2) := by decide +kernel
theorem dX12_frameOf_72 : decode cX12_frameOf 72 = .ok (.ireturn, 1) := by decide +kernel
theorem dX12_frameOf_73 : decode cX12_frameOf 73 = .ok (.bipush 9, 2) := by decide +kernel
theorem dX12_frameOf_75 : decode cX12_frameOf 75 = .ok (.ireturn, 1) := by decide +kernel
theorem dX12_frameOf_76 : decode cX12_frameOf 76 = .ok (.iload_n 0, 1) := by decide +kernel
theorem dX12_frameOf_77 : decode cX12_frameOf 77 = .ok (.invokestatic 118, 3) := by decide +kernel
theorem dX12_frameOf_80 : decode cX12_frameOf 80 = .ok (.ifCond .eq 7, 3) := by decide +kernel
theorem dX12_frameOf_83 : decode cX12_frameOf 83 = .ok (.iconst 5, 1) := by decide +kernel
theorem dX12_frameOf_84 : decode cX12_frameOf 84 = .ok (.goto 4, 3) := by decide +kernel
theorem dX12_frameOf_87 : decode cX12_frameOf 87 = .ok (.iconst 0, 1) := by decide +kernel
theorem dX12_frameOf_88 : decode cX12_frameOf 88 = .ok (.ireturn, 1) := by decide +kernel
theorem dX12_made_0 : decode cX12_made 0 = .ok (.iload_n 0, 1) := by decide +kernel
theorem dX12_made_1 : decode cX12_made 1 = .ok (.tableswitch 43 42 45 #[39, 31, 43, 35], 31) := by decide +kernel
theorem dX12_made_32 : decode cX12_made 32 = .ok (.iload_n 1, 1) := by decide +kernel
theorem dX12_made_33 : decode cX12_made 33 = .ok (.iload_n 2, 1) := by decide +kernel
theorem dX12_made_34 : decode cX12_made 34 = .ok (.iadd, 1) := by decide +kernel
theorem dX12_made_35 : decode cX12_made 35 = .ok (.ireturn, 1) := by decide +kernel
theorem dX12_made_36 : decode cX12_made 36 = .ok (.iload_n 1, 1) := by decide +kernel
theorem dX12_made_37 : decode cX12_made 37 = .ok (.iload_n 2, 1) := by decide +kernel
theorem dX12_made_38 : decode cX12_made 38 = .ok (.isub, 1) := by decide +kernel
theorem dX12_made_39 : decode cX12_made 39 = .ok (.ireturn, 1) := by decide +kernel
theorem dX12_made_40 : decode cX12_made 40 = .ok (.iload_n 1, 1) := by decide +kernel
theorem dX12_made_41 : decode cX12_made 41 = .ok (.iload_n 2, 1) := by decide +kernel
theorem dX12_made_42 : decode cX12_made 42 = .ok (.imul, 1) := by decide +kernel
theorem dX12_made_43 : decode cX12_made 43 = .ok (.ireturn, 1) := by decide +kernel
theorem dX12_made_44 : decode cX12_made 44 = .ok (.iload_n 1, 1) := by decide +kernel
theorem dX12_made_45 : decode cX12_made 45 = .ok (.iload_n 2, 1) := by decide +kernel
theorem dX12_made_46 : decode cX12_made 46 = .ok (.if_icmp .ge 7, 3) := by decide +kernel
theorem dX12_made_49 : decode cX12_made 49 = .ok (.iconst 1, 1) := by decide +kernel
theorem dX12_made_50 : decode cX12_made 50 = .ok (.goto 4, 3) := by decide +kernel
theorem dX12_made_53 : decode cX12_made 53 = .ok (.iconst 0, 1) := by decide +kernel
theorem dX12_made_54 : decode cX12_made 54 = .ok (.ireturn, 1) := by decide +kernel
theorem dX12_givesOn_0 : decode cX12_givesOn 0 = .ok (.aload_n 0, 1) := by decide +kernel
theorem dX12_givesOn_1 : decode cX12_givesOn 1 = .ok (.getfield 11, 3) := by decide +kernel
theorem dX12_givesOn_4 : decode cX12_givesOn 4 = .ok (.bipush 19, 2) := by decide +kernel
theorem dX12_givesOn_6 : decode cX12_givesOn 6 = .ok (.iaload, 1) := by decide +kernel
theorem dX12_givesOn_7 : decode cX12_givesOn 7 = .ok (.istore_n 1, 1) := by decide +kernel
theorem dX12_givesOn_8 : decode cX12_givesOn 8 = .ok (.aload_n 0, 1) := by decide +kernel
theorem dX12_givesOn_9 : decode cX12_givesOn 9 = .ok (.getfield 11, 3) := by decide +kernel
theorem dX12_givesOn_12 : decode cX12_givesOn 12 = .ok (.bipush 20, 2) := by decide +kernel
theorem dX12_givesOn_14 : decode cX12_givesOn 14 = .ok (.iaload, 1) := by decide +kernel
theorem dX12_givesOn_15 : decode cX12_givesOn 15 = .ok (.istore_n 2, 1) := by decide +kernel
theorem dX12_givesOn_16 : decode cX12_givesOn 16 = .ok (.aload_n 0, 1) := by decide +kernel
theorem dX12_givesOn_17 : decode cX12_givesOn 17 = .ok (.getfield 11, 3) := by decide +kernel
theorem dX12_givesOn_20 : decode cX12_givesOn 20 = .ok (.bipush 17, 2) := by decide +kernel
theorem dX12_givesOn_22 : decode cX12_givesOn 22 = .ok (.iaload, 1) := by decide +kernel
theorem dX12_givesOn_23 : decode cX12_givesOn 23 = .ok (.istore_n 3, 1) := by decide +kernel
theorem dX12_givesOn_24 : decode cX12_givesOn 24 = .ok (.iload_n 3, 1) := by decide +kernel
theorem dX12_givesOn_25 : decode cX12_givesOn 25 = .ok (.ifCond .ge 25, 3) := by decide +kernel
theorem dX12_givesOn_28 : decode cX12_givesOn 28 = .ok (.aload_n 0, 1) := by decide +kernel
theorem dX12_givesOn_29 : decode cX12_givesOn 29 = .ok (.getfield 11, 3) := by decide +kernel
theorem dX12_givesOn_32 : decode cX12_givesOn 32 = .ok (.bipush 8, 2) := by decide +kernel
theorem dX12_givesOn_34 : decode cX12_givesOn 34 = .ok (.iload_n 1, 1) := by decide +kernel
theorem dX12_givesOn_35 : decode cX12_givesOn 35 = .ok (.iastore, 1) := by decide +kernel
theorem dX12_givesOn_36 : decode cX12_givesOn 36 = .ok (.aload_n 0, 1) := by decide +kernel
theorem dX12_givesOn_37 : decode cX12_givesOn 37 = .ok (.getfield 11, 3) := by decide +kernel
theorem dX12_givesOn_40 : decode cX12_givesOn 40 = .ok (.bipush 9, 2) := by decide +kernel
theorem dX12_givesOn_42 : decode cX12_givesOn 42 = .ok (.iload_n 2, 1) := by decide +kernel
theorem dX12_givesOn_43 : decode cX12_givesOn 43 = .ok (.iastore, 1) := by decide +kernel
theorem dX12_givesOn_44 : decode cX12_givesOn 44 = .ok (.aload_n 0, 1) := by decide +kernel
theorem dX12_givesOn_45 : decode cX12_givesOn 45 = .ok (.iconst 0, 1) := by decide +kernel
theorem dX12_givesOn_46 : decode cX12_givesOn 46 = .ok (.invokevirtual 139, 3) := by decide +kernel
theorem dX12_givesOn_49 : decode cX12_givesOn 49 = .ok (.return_, 1) := by decide +kernel
theorem dX12_givesOn_50 : decode cX12_givesOn 50 = .ok (.bipush 120, 2) := by decide +kernel
theorem dX12_givesOn_52 : decode cX12_givesOn 52 = .ok (.bipush 8, 2) := by decide +kernel
theorem dX12_givesOn_54 : decode cX12_givesOn 54 = .ok (.iload_n 3, 1) := by decide +kernel
theorem dX12_givesOn_55 : decode cX12_givesOn 55 = .ok (.imul, 1) := by decide +kernel
theorem dX12_givesOn_56 : decode cX12_givesOn 56 = .ok (.iadd, 1) := by decide +kernel
theorem dX12_givesOn_57 : decode cX12_givesOn 57 = .ok (.istore 4, 2) := by decide +kernel
theorem dX12_givesOn_59 : decode cX12_givesOn 59 = .ok (.aload_n 0, 1) := by decide +kernel
theorem dX12_givesOn_60 : decode cX12_givesOn 60 = .ok (.getfield 11, 3) := by decide +kernel
theorem dX12_givesOn_63 : decode cX12_givesOn 63 = .ok (.iload 4, 2) := by decide +kernel
theorem dX12_givesOn_65 : decode cX12_givesOn 65 = .ok (.iaload, 1) := by decide +kernel
theorem dX12_givesOn_66 : decode cX12_givesOn 66 = .ok (.istore 5, 2) := by decide +kernel
theorem dX12_givesOn_68 : decode cX12_givesOn 68 = .ok (.aload_n 0, 1) := by decide +kernel
theorem dX12_givesOn_69 : decode cX12_givesOn 69 = .ok (.getfield 11, 3) := by decide +kernel
theorem dX12_givesOn_72 : decode cX12_givesOn 72 = .ok (.iload 4, 2) := by decide +kernel
theorem dX12_givesOn_74 : decode cX12_givesOn 74 = .ok (.iconst 1, 1) := by decide +kernel
theorem dX12_givesOn_75 : decode cX12_givesOn 75 = .ok (.iadd, 1) := by decide +kernel
theorem dX12_givesOn_76 : decode cX12_givesOn 76 = .ok (.iaload, 1) := by decide +kernel
theorem dX12_givesOn_77 : decode cX12_givesOn 77 = .ok (.istore 6, 2) := by decide +kernel
theorem dX12_givesOn_79 : decode cX12_givesOn 79 = .ok (.aload_n 0, 1) := by decide +kernel
theorem dX12_givesOn_80 : decode cX12_givesOn 80 = .ok (.getfield 11, 3) := by decide +kernel
theorem dX12_givesOn_83 : decode cX12_givesOn 83 = .ok (.iload 4, 2) := by decide +kernel
theorem dX12_givesOn_85 : decode cX12_givesOn 85 = .ok (.iconst 2, 1) := by decide +kernel
theorem dX12_givesOn_86 : decode cX12_givesOn 86 = .ok (.iadd, 1) := by decide +kernel
theorem dX12_givesOn_87 : decode cX12_givesOn 87 = .ok (.iaload, 1) := by decide +kernel
theorem dX12_givesOn_88 : decode cX12_givesOn 88 = .ok (.istore 7, 2) := by decide +kernel
theorem dX12_givesOn_90 : decode cX12_givesOn 90 = .ok (.iload 5, 2) := by decide +kernel
theorem dX12_givesOn_92 : decode cX12_givesOn 92 = .ok (.iconst 1, 1) := by decide +kernel
theorem dX12_givesOn_93 : decode cX12_givesOn 93 = .ok (.if_icmp .eq 23, 3) := by decide +kernel
theorem dX12_givesOn_96 : decode cX12_givesOn 96 = .ok (.iload 5, 2) := by decide +kernel
theorem dX12_givesOn_98 : decode cX12_givesOn 98 = .ok (.iconst 2, 1) := by decide +kernel
theorem dX12_givesOn_99 : decode cX12_givesOn 99 = .ok (.if_icmp .eq 17, 3) := by decide +kernel
theorem dX12_givesOn_102 : decode cX12_givesOn 102 = .ok (.iload 5, 2) := by decide +kernel
theorem dX12_givesOn_104 : decode cX12_givesOn 104 = .ok (.bipush 7, 2) := by decide +kernel
theorem dX12_givesOn_106 : decode cX12_givesOn 106 = .ok (.if_icmp .eq 10, 3) := by decide +kernel
theorem dX12_givesOn_109 : decode cX12_givesOn 109 = .ok (.iload 5, 2) := by decide +kernel
theorem dX12_givesOn_111 : decode cX12_givesOn 111 = .ok (.bipush 8, 2) := by decide +kernel
theorem dX12_givesOn_113 : decode cX12_givesOn 113 = .ok (.if_icmp .ne 7, 3) := by decide +kernel
theorem dX12_givesOn_116 : decode cX12_givesOn 116 = .ok (.iconst 1, 1) := by decide +kernel
theorem dX12_givesOn_117 : decode cX12_givesOn 117 = .ok (.goto 4, 3) := by decide +kernel
theorem dX12_givesOn_120 : decode cX12_givesOn 120 = .ok (.iconst 0, 1) := by decide +kernel
theorem dX12_givesOn_121 : decode cX12_givesOn 121 = .ok (.istore 8, 2) := by decide +kernel
theorem dX12_givesOn_123 : decode cX12_givesOn 123 = .ok (.iload 8, 2) := by decide +kernel
theorem dX12_givesOn_125 : decode cX12_givesOn 125 = .ok (.ifCond .eq 33, 3) := by decide +kernel
theorem dX12_givesOn_128 : decode cX12_givesOn 128 = .ok (.iload_n 1, 1) := by decide +kernel
theorem dX12_givesOn_129 : decode cX12_givesOn 129 = .ok (.iconst 1, 1) := by decide +kernel
theorem dX12_givesOn_130 : decode cX12_givesOn 130 = .ok (.if_icmp .eq 22, 3) := by decide +kernel
theorem dX12_givesOn_133 : decode cX12_givesOn 133 = .ok (.iload 5, 2) := by decide +kernel
theorem dX12_givesOn_135 : decode cX12_givesOn 135 = .ok (.iconst 1, 1) := by decide +kernel
theorem dX12_givesOn_136 : decode cX12_givesOn 136 = .ok (.if_icmp .ne 22, 3) := by decide +kernel
theorem dX12_givesOn_139 : decode cX12_givesOn 139 = .ok (.aload_n 0, 1) := by decide +kernel
theorem dX12_givesOn_140 : decode cX12_givesOn 140 = .ok (.getfield 11, 3) := by decide +kernel
theorem dX12_givesOn_143 : decode cX12_givesOn 143 = .ok (.iload 4, 2) := by decide +kernel
theorem dX12_givesOn_145 : decode cX12_givesOn 145 = .ok (.iconst 3, 1) := by decide +kernel
theorem dX12_givesOn_146 : decode cX12_givesOn 146 = .ok (.iadd, 1) := by decide +kernel
theorem dX12_givesOn_147 : decode cX12_givesOn 147 = .ok (.iaload, 1) := by decide +kernel
theorem dX12_givesOn_148 : decode cX12_givesOn 148 = .ok (.iconst 1, 1) := by decide +kernel
theorem dX12_givesOn_149 : decode cX12_givesOn 149 = .ok (.if_icmp .ne 9, 3) := by decide +kernel
theorem dX12_givesOn_152 : decode cX12_givesOn 152 = .ok (.aload_n 0, 1) := by decide +kernel
theorem dX12_givesOn_153 : decode cX12_givesOn 153 = .ok (.iconst 2, 1) := by decide +kernel
theorem dX12_givesOn_154 : decode cX12_givesOn 154 = .ok (.invokevirtual 139, 3) := by decide +kernel
theorem dX12_givesOn_157 : decode cX12_givesOn 157 = .ok (.return_, 1) := by decide +kernel
theorem dX12_givesOn_158 : decode cX12_givesOn 158 = .ok (.aload_n 0, 1) := by decide +kernel
theorem dX12_givesOn_159 : decode cX12_givesOn 159 = .ok (.getfield 11, 3) := by decide +kernel
theorem dX12_givesOn_162 : decode cX12_givesOn 162 = .ok (.bipush 17, 2) := by decide +kernel
theorem dX12_givesOn_164 : decode cX12_givesOn 164 = .ok (.aload_n 0, 1) := by decide +kernel
theorem dX12_givesOn_165 : decode cX12_givesOn 165 = .ok (.getfield 11, 3) := by decide +kernel
theorem dX12_givesOn_168 : decode cX12_givesOn 168 = .ok (.iload 4, 2) := by decide +kernel
theorem dX12_givesOn_170 : decode cX12_givesOn 170 = .ok (.iconst 5, 1) := by decide +kernel
theorem dX12_givesOn_171 : decode cX12_givesOn 171 = .ok (.iadd, 1) := by decide +kernel
theorem dX12_givesOn_172 : decode cX12_givesOn 172 = .ok (.iaload, 1) := by decide +kernel
theorem dX12_givesOn_173 : decode cX12_givesOn 173 = .ok (.iastore, 1) := by decide +kernel
theorem dX12_givesOn_174 : decode cX12_givesOn 174 = .ok (.iload 5, 2) := by decide +kernel
theorem dX12_givesOn_176 : decode cX12_givesOn 176 = .ok (.tableswitch 305 0 8 #[52, 95, 123, 152, 186, 207, 226, 245, 287], 52) := by decide +kernel
theorem dX12_givesOn_228 : decode cX12_givesOn 228 = .ok (.aload_n 0, 1) := by decide +kernel
theorem dX12_givesOn_229 : decode cX12_givesOn 229 = .ok (.aload_n 0, 1) := by decide +kernel
theorem dX12_givesOn_230 : decode cX12_givesOn 230 = .ok (.getfield 11, 3) := by decide +kernel
theorem dX12_givesOn_233 : decode cX12_givesOn 233 = .ok (.bipush 17, 2) := by decide +kernel
theorem dX12_givesOn_235 : decode cX12_givesOn 235 = .ok (.iaload, 1) := by decide +kernel
theorem dX12_givesOn_236 : decode cX12_givesOn 236 = .ok (.iconst 1, 1) := by decide +kernel
theorem dX12_givesOn_237 : decode cX12_givesOn 237 = .ok (.iload 6, 2) := by decide +kernel
theorem dX12_givesOn_239 : decode cX12_givesOn 239 = .ok (.iload 7, 2) := by decide +kernel
theorem dX12_givesOn_241 : decode cX12_givesOn 241 = .ok (.iload_n 1, 1) := by decide +kernel
theorem dX12_givesOn_242 : decode cX12_givesOn 242 = .ok (.iload_n 2, 1) := by decide +kernel
theorem dX12_givesOn_243 : decode cX12_givesOn 243 = .ok (.iconst 0, 1) := by decide +kernel
theorem dX12_givesOn_244 : decode cX12_givesOn 244 = .ok (.invokevirtual 150, 3) := by decide +kernel
theorem dX12_givesOn_247 : decode cX12_givesOn 247 = .ok (.ifCond .eq 248, 3) := by decide +kernel
theorem dX12_givesOn_250 : decode cX12_givesOn 250 = .ok (.aload_n 0, 1) := by decide +kernel
theorem dX12_givesOn_251 : decode cX12_givesOn 251 = .ok (.aload_n 0, 1) := by decide +kernel
theorem dX12_givesOn_252 : decode cX12_givesOn 252 = .ok (.getfield 30, 3) := by decide +kernel
theorem dX12_givesOn_255 : decode cX12_givesOn 255 = .ok (.iconst 5, 1) := by decide +kernel
theorem dX12_givesOn_256 : decode cX12_givesOn 256 = .ok (.iload 6, 2) := by decide +kernel
theorem dX12_givesOn_258 : decode cX12_givesOn 258 = .ok (.imul, 1) := by decide +kernel
theorem dX12_givesOn_259 : decode cX12_givesOn 259 = .ok (.iconst 1, 1) := by decide +kernel
theorem dX12_givesOn_260 : decode cX12_givesOn 260 = .ok (.iadd, 1) := by decide +kernel
theorem dX12_givesOn_261 : decode cX12_givesOn 261 = .ok (.iaload, 1) := by decide +kernel
theorem dX12_givesOn_262 : decode cX12_givesOn 262 = .ok (.iconst 0, 1) := by decide +kernel
theorem dX12_givesOn_263 : decode cX12_givesOn 263 = .ok (.iload 7, 2) := by decide +kernel
theorem dX12_givesOn_265 : decode cX12_givesOn 265 = .ok (.invokevirtual 154, 3) := by decide +kernel
theorem dX12_givesOn_268 : decode cX12_givesOn 268 = .ok (.goto 227, 3) := by decide +kernel
theorem dX12_givesOn_271 : decode cX12_givesOn 271 = .ok (.aload_n 0, 1) := by decide +kernel
theorem dX12_givesOn_272 : decode cX12_givesOn 272 = .ok (.iconst 0, 1) := by decide +kernel
theorem dX12_givesOn_273 : decode cX12_givesOn 273 = .ok (.aload_n 0, 1) := by decide +kernel
theorem dX12_givesOn_274 : decode cX12_givesOn 274 = .ok (.getfield 21, 3) := by decide +kernel
theorem dX12_givesOn_277 : decode cX12_givesOn 277 = .ok (.iload 6, 2) := by decide +kernel
theorem dX12_givesOn_279 : decode cX12_givesOn 279 = .ok (.iaload, 1) := by decide +kernel
theorem dX12_givesOn_280 : decode cX12_givesOn 280 = .ok (.aload_n 0, 1) := by decide +kernel
theorem dX12_givesOn_281 : decode cX12_givesOn 281 = .ok (.getfield 11, 3) := by decide +kernel
theorem dX12_givesOn_284 : decode cX12_givesOn 284 = .ok (.iload 4, 2) := by decide +kernel
theorem dX12_givesOn_286 : decode cX12_givesOn 286 = .ok (.iconst 4, 1) := by decide +kernel
theorem dX12_givesOn_287 : decode cX12_givesOn 287 = .ok (.iadd, 1) := by decide +kernel
theorem dX12_givesOn_288 : decode cX12_givesOn 288 = .ok (.iaload, 1) := by decide +kernel
theorem dX12_givesOn_289 : decode cX12_givesOn 289 = .ok (.iload_n 2, 1) := by decide +kernel
theorem dX12_givesOn_290 : decode cX12_givesOn 290 = .ok (.invokestatic 165, 3) := by decide +kernel
theorem dX12_givesOn_293 : decode cX12_givesOn 293 = .ok (.invokevirtual 146, 3) := by decide +kernel
theorem dX12_givesOn_296 : decode cX12_givesOn 296 = .ok (.goto 199, 3) := by decide +kernel
theorem dX12_givesOn_299 : decode cX12_givesOn 299 = .ok (.aload_n 0, 1) := by decide +kernel
theorem dX12_givesOn_300 : decode cX12_givesOn 300 = .ok (.aload_n 0, 1) := by decide +kernel
theorem dX12_givesOn_301 : decode cX12_givesOn 301 = .ok (.getfield 30, 3) := by decide +kernel
theorem dX12_givesOn_304 : decode cX12_givesOn 304 = .ok (.iconst 5, 1) := by decide +kernel
theorem dX12_givesOn_305 : decode cX12_givesOn 305 = .ok (.iload 6, 2) := by decide +kernel
theorem dX12_givesOn_307 : decode cX12_givesOn 307 = .ok (.imul, 1) := by decide +kernel
theorem dX12_givesOn_308 : decode cX12_givesOn 308 = .ok (.iload_n 2, 1) := by decide +kernel
theorem dX12_givesOn_309 : decode cX12_givesOn 309 = .ok (.ifCond .eq 7, 3) := by decide +kernel
theorem dX12_givesOn_312 : decode cX12_givesOn 312 = .ok (.iconst 1, 1) := by decide +kernel
theorem dX12_givesOn_313 : decode cX12_givesOn 313 = .ok (.goto 4, 3) := by decide +kernel
theorem dX12_givesOn_316 : decode cX12_givesOn 316 = .ok (.iconst 2, 1) := by decide +kernel
theorem dX12_givesOn_317 : decode cX12_givesOn 317 = .ok (.iadd, 1) := by decide +kernel
theorem dX12_givesOn_318 : decode cX12_givesOn 318 = .ok (.iaload, 1) := by decide +kernel
theorem dX12_givesOn_319 : decode cX12_givesOn 319 = .ok (.iconst 0, 1) := by decide +kernel
theorem dX12_givesOn_320 : decode cX12_givesOn 320 = .ok (.iload 7, 2) := by decide +kernel
theorem dX12_givesOn_322 : decode cX12_givesOn 322 = .ok (.invokevirtual 154, 3) := by decide +kernel
theorem dX12_givesOn_325 : decode cX12_givesOn 325 = .ok (.goto 170, 3) := by decide +kernel
theorem dX12_givesOn_328 : decode cX12_givesOn 328 = .ok (.aload_n 0, 1) := by decide +kernel
theorem dX12_givesOn_329 : decode cX12_givesOn 329 = .ok (.aload_n 0, 1) := by decide +kernel
theorem dX12_givesOn_330 : decode cX12_givesOn 330 = .ok (.getfield 30, 3) := by decide +kernel
theorem dX12_givesOn_333 : decode cX12_givesOn 333 = .ok (.iconst 5, 1) := by decide +kernel
theorem dX12_givesOn_334 : decode cX12_givesOn 334 = .ok (.iload 6, 2) := by decide +kernel
theorem dX12_givesOn_336 : decode cX12_givesOn 336 = .ok (.imul, 1) := by decide +kernel
theorem dX12_givesOn_337 : decode cX12_givesOn 337 = .ok (.iconst 1, 1) := by decide +kernel
theorem dX12_givesOn_338 : decode cX12_givesOn 338 = .ok (.iadd, 1) := by decide +kernel
theorem dX12_givesOn_339 : decode cX12_givesOn 339 = .ok (.iaload, 1) := by decide +kernel
theorem dX12_givesOn_340 : decode cX12_givesOn 340 = .ok (.iconst 0, 1) := by decide +kernel
theorem dX12_givesOn_341 : decode cX12_givesOn 341 = .ok (.aload_n 0, 1) := by decide +kernel
theorem dX12_givesOn_342 : decode cX12_givesOn 342 = .ok (.iload 7, 2) := by decide +kernel
theorem dX12_givesOn_344 : decode cX12_givesOn 344 = .ok (.aload_n 0, 1) := by decide +kernel
theorem dX12_givesOn_345 : decode cX12_givesOn 345 = .ok (.getfield 24, 3) := by decide +kernel
theorem dX12_givesOn_348 : decode cX12_givesOn 348 = .ok (.iload 6, 2) := by decide +kernel
theorem dX12_givesOn_350 : decode cX12_givesOn 350 = .ok (.iaload, 1) := by decide +kernel
theorem dX12_givesOn_351 : decode cX12_givesOn 351 = .ok (.iload_n 1, 1) := by decide +kernel
theorem dX12_givesOn_352 : decode cX12_givesOn 352 = .ok (.iload_n 2, 1) := by decide +kernel
theorem dX12_givesOn_353 : decode cX12_givesOn 353 = .ok (.invokevirtual 158, 3) := by decide +kernel
theorem dX12_givesOn_356 : decode cX12_givesOn 356 = .ok (.invokevirtual 154, 3) := by decide +kernel
theorem dX12_givesOn_359 : decode cX12_givesOn 359 = .ok (.goto 136, 3) := by decide +kernel
theorem dX12_givesOn_362 : decode cX12_givesOn 362 = .ok (.aload_n 0, 1) := by decide +kernel
theorem dX12_givesOn_363 : decode cX12_givesOn 363 = .ok (.iload 6, 2) := by decide +kernel
theorem dX12_givesOn_365 : decode cX12_givesOn 365 = .ok (.aload_n 0, 1) := by decide +kernel
theorem dX12_givesOn_366 : decode cX12_givesOn 366 = .ok (.getfield 11, 3) := by decide +kernel
theorem dX12_givesOn_369 : decode cX12_givesOn 369 = .ok (.iload 4, 2) := by decide +kernel
theorem dX12_givesOn_371 : decode cX12_givesOn 371 = .ok (.bipush 7, 2) := by decide +kernel
theorem dX12_givesOn_373 : decode cX12_givesOn 373 = .ok (.iadd, 1) := by decide +kernel
theorem dX12_givesOn_374 : decode cX12_givesOn 374 = .ok (.iaload, 1) := by decide +kernel
theorem dX12_givesOn_375 : decode cX12_givesOn 375 = .ok (.iload 7, 2) := by decide +kernel
theorem dX12_givesOn_377 : decode cX12_givesOn 377 = .ok (.invokevirtual 154, 3) := by decide +kernel
theorem dX12_givesOn_380 : decode cX12_givesOn 380 = .ok (.goto 115, 3) := by decide +kernel
theorem dX12_givesOn_383 : decode cX12_givesOn 383 = .ok (.aload_n 0, 1) := by decide +kernel
theorem dX12_givesOn_384 : decode cX12_givesOn 384 = .ok (.aload_n 0, 1) := by decide +kernel
theorem dX12_givesOn_385 : decode cX12_givesOn 385 = .ok (.getfield 21, 3) := by decide +kernel
theorem dX12_givesOn_388 : decode cX12_givesOn 388 = .ok (.iload 6, 2) := by decide +kernel
theorem dX12_givesOn_390 : decode cX12_givesOn 390 = .ok (.iaload, 1) := by decide +kernel
theorem dX12_givesOn_391 : decode cX12_givesOn 391 = .ok (.bipush 70, 2) := by decide +kernel
theorem dX12_givesOn_393 : decode cX12_givesOn 393 = .ok (.isub, 1) := by decide +kernel
theorem dX12_givesOn_394 : decode cX12_givesOn 394 = .ok (.iload_n 1, 1) := by decide +kernel
theorem dX12_givesOn_395 : decode cX12_givesOn 395 = .ok (.iload_n 2, 1) := by decide +kernel
theorem dX12_givesOn_396 : decode cX12_givesOn 396 = .ok (.invokevirtual 169, 3) := by decide +kernel
theorem dX12_givesOn_399 : decode cX12_givesOn 399 = .ok (.goto 96, 3) := by decide +kernel
theorem dX12_givesOn_402 : decode cX12_givesOn 402 = .ok (.aload_n 0, 1) := by decide +kernel
theorem dX12_givesOn_403 : decode cX12_givesOn 403 = .ok (.aload_n 0, 1) := by decide +kernel
theorem dX12_givesOn_404 : decode cX12_givesOn 404 = .ok (.getfield 11, 3) := by decide +kernel
theorem dX12_givesOn_407 : decode cX12_givesOn 407 = .ok (.iload 4, 2) := by decide +kernel
theorem dX12_givesOn_409 : decode cX12_givesOn 409 = .ok (.bipush 7, 2) := by decide +kernel
theorem dX12_givesOn_411 : decode cX12_givesOn 411 = .ok (.iadd, 1) := by decide +kernel
theorem dX12_givesOn_412 : decode cX12_givesOn 412 = .ok (.iaload, 1) := by decide +kernel
theorem dX12_givesOn_413 : decode cX12_givesOn 413 = .ok (.iload_n 1, 1) := by decide +kernel
theorem dX12_givesOn_414 : decode cX12_givesOn 414 = .ok (.iload_n 2, 1) := by decide +kernel
theorem dX12_givesOn_415 : decode cX12_givesOn 415 = .ok (.invokevirtual 172, 3) := by decide +kernel
theorem dX12_givesOn_418 : decode cX12_givesOn 418 = .ok (.goto 77, 3) := by decide +kernel
theorem dX12_givesOn_421 : decode cX12_givesOn 421 = .ok (.aload_n 0, 1) := by decide +kernel
theorem dX12_givesOn_422 : decode cX12_givesOn 422 = .ok (.getfield 11, 3) := by decide +kernel
theorem dX12_givesOn_425 : decode cX12_givesOn 425 = .ok (.bipush 12, 2) := by decide +kernel
theorem dX12_givesOn_427 : decode cX12_givesOn 427 = .ok (.iaload, 1) := by decide +kernel
theorem dX12_givesOn_428 : decode cX12_givesOn 428 = .ok (.bipush 40, 2) := by decide +kernel
theorem dX12_givesOn_430 : decode cX12_givesOn 430 = .ok (.if_icmp .ge 65, 3) := by decide +kernel
theorem dX12_givesOn_433 : decode cX12_givesOn 433 = .ok (.aload_n 0, 1) := by decide +kernel
theorem dX12_givesOn_434 : decode cX12_givesOn 434 = .ok (.getfield 11, 3) := by decide +kernel
theorem dX12_givesOn_437 : decode cX12_givesOn 437 = .ok (.bipush 74, 2) := by decide +kernel
theorem dX12_givesOn_439 : decode cX12_givesOn 439 = .ok (.aload_n 0, 1) := by decide +kernel
theorem dX12_givesOn_440 : decode cX12_givesOn 440 = .ok (.getfield 11, 3) := by decide +kernel
theorem dX12_givesOn_443 : decode cX12_givesOn 443 = .ok (.bipush 12, 2) := by decide +kernel
theorem dX12_givesOn_445 : decode cX12_givesOn 445 = .ok (.iaload, 1) := by decide +kernel
theorem dX12_givesOn_446 : decode cX12_givesOn 446 = .ok (.iadd, 1) := by decide +kernel
theorem dX12_givesOn_447 : decode cX12_givesOn 447 = .ok (.iload_n 2, 1) := by decide +kernel
theorem dX12_givesOn_448 : decode cX12_givesOn 448 = .ok (.iastore, 1) := by decide +kernel
theorem dX12_givesOn_449 : decode cX12_givesOn 449 = .ok (.aload_n 0, 1) := by decide +kernel
theorem dX12_givesOn_450 : decode cX12_givesOn 450 = .ok (.getfield 11, 3) := by decide +kernel
theorem dX12_givesOn_453 : decode cX12_givesOn 453 = .ok (.bipush 12, 2) := by decide +kernel
theorem dX12_givesOn_455 : decode cX12_givesOn 455 = .ok (.dup2, 1) := by decide +kernel
theorem dX12_givesOn_456 : decode cX12_givesOn 456 = .ok (.iaload, 1) := by decide +kernel
theorem dX12_givesOn_457 : decode cX12_givesOn 457 = .ok (.iconst 1, 1) := by decide +kernel
theorem dX12_givesOn_458 : decode cX12_givesOn 458 = .ok (.iadd, 1) := by decide +kernel
theorem dX12_givesOn_459 : decode cX12_givesOn 459 = .ok (.iastore, 1) := by decide +kernel
theorem dX12_givesOn_460 : decode cX12_givesOn 460 = .ok (.goto 35, 3) := by decide +kernel
theorem dX12_givesOn_463 : decode cX12_givesOn 463 = .ok (.aload_n 0, 1) := by decide +kernel
theorem dX12_givesOn_464 : decode cX12_givesOn 464 = .ok (.getfield 11, 3) := by decide +kernel
theorem dX12_givesOn_467 : decode cX12_givesOn 467 = .ok (.iconst 0, 1) := by decide +kernel
theorem dX12_givesOn_468 : decode cX12_givesOn 468 = .ok (.aload_n 0, 1) := by decide +kernel
theorem dX12_givesOn_469 : decode cX12_givesOn 469 = .ok (.getfield 24, 3) := by decide +kernel
theorem dX12_givesOn_472 : decode cX12_givesOn 472 = .ok (.iload 6, 2) := by decide +kernel
theorem dX12_givesOn_474 : decode cX12_givesOn 474 = .ok (.iaload, 1) := by decide +kernel
theorem dX12_givesOn_475 : decode cX12_givesOn 475 = .ok (.iadd, 1) := by decide +kernel
theorem dX12_givesOn_476 : decode cX12_givesOn 476 = .ok (.iload_n 2, 1) := by decide +kernel
theorem dX12_givesOn_477 : decode cX12_givesOn 477 = .ok (.iastore, 1) := by decide +kernel
theorem dX12_givesOn_478 : decode cX12_givesOn 478 = .ok (.goto 17, 3) := by decide +kernel
theorem dX12_givesOn_481 : decode cX12_givesOn 481 = .ok (.aload_n 0, 1) := by decide +kernel
theorem dX12_givesOn_482 : decode cX12_givesOn 482 = .ok (.iload 4, 2) := by decide +kernel
theorem dX12_givesOn_484 : decode cX12_givesOn 484 = .ok (.iload 5, 2) := by decide +kernel
theorem dX12_givesOn_486 : decode cX12_givesOn 486 = .ok (.iload 6, 2) := by decide +kernel
theorem dX12_givesOn_488 : decode cX12_givesOn 488 = .ok (.iload 7, 2) := by decide +kernel
theorem dX12_givesOn_490 : decode cX12_givesOn 490 = .ok (.iload_n 1, 1) := by decide +kernel
theorem dX12_givesOn_491 : decode cX12_givesOn 491 = .ok (.iload_n 2, 1) := by decide +kernel
theorem dX12_givesOn_492 : decode cX12_givesOn 492 = .ok (.invokevirtual 175, 3) := by decide +kernel
theorem dX12_givesOn_495 : decode cX12_givesOn 495 = .ok (.return_, 1) := by decide +kernel
theorem dX12_calls_0 : decode cX12_calls 0 = .ok (.aload_n 0, 1) := by decide +kernel
theorem dX12_calls_1 : decode cX12_calls 1 = .ok (.getfield 11, 3) := by decide +kernel
theorem dX12_calls_4 : decode cX12_calls 4 = .ok (.iconst 4, 1) := by decide +kernel
theorem dX12_calls_5 : decode cX12_calls 5 = .ok (.iload_n 1, 1) := by decide +kernel
theorem dX12_calls_6 : decode cX12_calls 6 = .ok (.iadd, 1) := by decide +kernel
theorem dX12_calls_7 : decode cX12_calls 7 = .ok (.iaload, 1) := by decide +kernel
theorem dX12_calls_8 : decode cX12_calls 8 = .ok (.istore 4, 2) := by decide +kernel
theorem dX12_calls_10 : decode cX12_calls 10 = .ok (.iload 4, 2) := by decide +kernel
theorem dX12_calls_12 : decode cX12_calls 12 = .ok (.ifCond .ge 11, 3) := by decide +kernel
theorem dX12_calls_15 : decode cX12_calls 15 = .ok (.aload_n 0, 1) := by decide +kernel
theorem dX12_calls_16 : decode cX12_calls 16 = .ok (.iconst 3, 1) := by decide +kernel
theorem dX12_calls_17 : decode cX12_calls 17 = .ok (.invokevirtual 139, 3) := by decide +kernel
theorem dX12_calls_20 : decode cX12_calls 20 = .ok (.goto 21, 3) := by decide +kernel
theorem dX12_calls_23 : decode cX12_calls 23 = .ok (.aload_n 0, 1) := by decide +kernel
theorem dX12_calls_24 : decode cX12_calls 24 = .ok (.bipush 101, 2) := by decide +kernel
theorem dX12_calls_26 : decode cX12_calls 26 = .ok (.iload 4, 2) := by decide +kernel
theorem dX12_calls_28 : decode cX12_calls 28 = .ok (.imul, 1) := by decide +kernel
theorem dX12_calls_29 : decode cX12_calls 29 = .ok (.iconst 0, 1) := by decide +kernel
theorem dX12_calls_30 : decode cX12_calls 30 = .ok (.aload_n 0, 1) := by decide +kernel
theorem dX12_calls_31 : decode cX12_calls 31 = .ok (.iconst (-1), 1) := by decide +kernel
theorem dX12_calls_32 : decode cX12_calls 32 = .ok (.iconst 0, 1) := by decide +kernel
theorem dX12_calls_33 : decode cX12_calls 33 = .ok (.iload_n 2, 1) := by decide +kernel
theorem dX12_calls_34 : decode cX12_calls 34 = .ok (.iload_n 3, 1) := by decide +kernel
theorem dX12_calls_35 : decode cX12_calls 35 = .ok (.invokevirtual 158, 3) := by decide +kernel
theorem dX12_calls_38 : decode cX12_calls 38 = .ok (.invokevirtual 154, 3) := by decide +kernel
theorem dX12_calls_41 : decode cX12_calls 41 = .ok (.return_, 1) := by decide +kernel
theorem dX12_winds_0 : decode cX12_winds 0 = .ok (.aload_n 0, 1) := by decide +kernel
theorem dX12_winds_1 : decode cX12_winds 1 = .ok (.getfield 11, 3) := by decide +kernel
theorem dX12_winds_4 : decode cX12_winds 4 = .ok (.bipush 18, 2) := by decide +kernel
theorem dX12_winds_6 : decode cX12_winds 6 = .ok (.iaload, 1) := by decide +kernel
theorem dX12_winds_7 : decode cX12_winds 7 = .ok (.istore 7, 2) := by decide +kernel
theorem dX12_winds_9 : decode cX12_winds 9 = .ok (.iload_n 2, 1) := by decide +kernel
theorem dX12_winds_10 : decode cX12_winds 10 = .ok (.bipush 9, 2) := by decide +kernel
theorem dX12_winds_12 : decode cX12_winds 12 = .ok (.if_icmp .ne 122, 3) := by decide +kernel
theorem dX12_winds_15 : decode cX12_winds 15 = .ok (.aload_n 0, 1) := by decide +kernel
theorem dX12_winds_16 : decode cX12_winds 16 = .ok (.getfield 11, 3) := by decide +kernel
theorem dX12_winds_19 : decode cX12_winds 19 = .ok (.bipush 23, 2) := by decide +kernel
theorem dX12_winds_21 : decode cX12_winds 21 = .ok (.iaload, 1) := by decide +kernel
theorem dX12_winds_22 : decode cX12_winds 22 = .ok (.istore 8, 2) := by decide +kernel
theorem dX12_winds_24 : decode cX12_winds 24 = .ok (.aload_n 0, 1) := by decide +kernel
theorem dX12_winds_25 : decode cX12_winds 25 = .ok (.aload_n 0, 1) := by decide +kernel
theorem dX12_winds_26 : decode cX12_winds 26 = .ok (.getfield 11, 3) := by decide +kernel
theorem dX12_winds_29 : decode cX12_winds 29 = .ok (.bipush 17, 2) := by decide +kernel
theorem dX12_winds_31 : decode cX12_winds 31 = .ok (.iaload, 1) := by decide +kernel
theorem dX12_winds_32 : decode cX12_winds 32 = .ok (.bipush 10, 2) := by decide +kernel
theorem dX12_winds_34 : decode cX12_winds 34 = .ok (.iload_n 3, 1) := by decide +kernel
theorem dX12_winds_35 : decode cX12_winds 35 = .ok (.iload 4, 2) := by decide +kernel
theorem dX12_winds_37 : decode cX12_winds 37 = .ok (.iconst 0, 1) := by decide +kernel
theorem dX12_winds_38 : decode cX12_winds 38 = .ok (.iconst 0, 1) := by decide +kernel
theorem dX12_winds_39 : decode cX12_winds 39 = .ok (.iconst 0, 1) := by decide +kernel
theorem dX12_winds_40 : decode cX12_winds 40 = .ok (.invokevirtual 150, 3) := by decide +kernel
theorem dX12_winds_43 : decode cX12_winds 43 = .ok (.ifCond .eq 88, 3) := by decide +kernel
theorem dX12_winds_46 : decode cX12_winds 46 = .ok (.aload_n 0, 1) := by decide +kernel
theorem dX12_winds_47 : decode cX12_winds 47 = .ok (.getfield 11, 3) := by decide +kernel
theorem dX12_winds_50 : decode cX12_winds 50 = .ok (.sipush 3960, 3) := by decide +kernel
theorem dX12_winds_53 : decode cX12_winds 53 = .ok (.iconst 4, 1) := by decide +kernel
theorem dX12_winds_54 : decode cX12_winds 54 = .ok (.iload 8, 2) := by decide +kernel
theorem dX12_winds_56 : decode cX12_winds 56 = .ok (.imul, 1) := by decide +kernel
theorem dX12_winds_57 : decode cX12_winds 57 = .ok (.iadd, 1) := by decide +kernel
theorem dX12_winds_58 : decode cX12_winds 58 = .ok (.iload_n 3, 1) := by decide +kernel
theorem dX12_winds_59 : decode cX12_winds 59 = .ok (.iastore, 1) := by decide +kernel
theorem dX12_winds_60 : decode cX12_winds 60 = .ok (.aload_n 0, 1) := by decide +kernel
theorem dX12_winds_61 : decode cX12_winds 61 = .ok (.getfield 11, 3) := by decide +kernel
theorem dX12_winds_64 : decode cX12_winds 64 = .ok (.sipush 3960, 3) := by decide +kernel
theorem dX12_winds_67 : decode cX12_winds 67 = .ok (.iconst 4, 1) := by decide +kernel
theorem dX12_winds_68 : decode cX12_winds 68 = .ok (.iload 8, 2) := by decide +kernel
theorem dX12_winds_70 : decode cX12_winds 70 = .ok (.imul, 1) := by decide +kernel
theorem dX12_winds_71 : decode cX12_winds 71 = .ok (.iadd, 1) := by decide +kernel
theorem dX12_winds_72 : decode cX12_winds 72 = .ok (.iconst 1, 1) := by decide +kernel
theorem dX12_winds_73 : decode cX12_winds 73 = .ok (.iadd, 1) := by decide +kernel
theorem dX12_winds_74 : decode cX12_winds 74 = .ok (.iload 4, 2) := by decide +kernel
theorem dX12_winds_76 : decode cX12_winds 76 = .ok (.iastore, 1) := by decide +kernel
theorem dX12_winds_77 : decode cX12_winds 77 = .ok (.aload_n 0, 1) := by decide +kernel
theorem dX12_winds_78 : decode cX12_winds 78 = .ok (.getfield 11, 3) := by decide +kernel
theorem dX12_winds_81 : decode cX12_winds 81 = .ok (.sipush 3960, 3) := by decide +kernel
theorem dX12_winds_84 : decode cX12_winds 84 = .ok (.iconst 4, 1) := by decide +kernel
theorem dX12_winds_85 : decode cX12_winds 85 = .ok (.iload 8, 2) := by decide +kernel
theorem dX12_winds_87 : decode cX12_winds 87 = .ok (.imul, 1) := by decide +kernel
theorem dX12_winds_88 : decode cX12_winds 88 = .ok (.iadd, 1) := by decide +kernel
theorem dX12_winds_89 : decode cX12_winds 89 = .ok (.iconst 2, 1) := by decide +kernel
theorem dX12_winds_90 : decode cX12_winds 90 = .ok (.iadd, 1) := by decide +kernel
theorem dX12_winds_91 : decode cX12_winds 91 = .ok (.iload 7, 2) := by decide +kernel
theorem dX12_winds_93 : decode cX12_winds 93 = .ok (.iastore, 1) := by decide +kernel
theorem dX12_winds_94 : decode cX12_winds 94 = .ok (.aload_n 0, 1) := by decide +kernel
theorem dX12_winds_95 : decode cX12_winds 95 = .ok (.getfield 11, 3) := by decide +kernel
theorem dX12_winds_98 : decode cX12_winds 98 = .ok (.bipush 23, 2) := by decide +kernel
theorem dX12_winds_100 : decode cX12_winds 100 = .ok (.iload 8, 2) := by decide +kernel
theorem dX12_winds_102 : decode cX12_winds 102 = .ok (.iconst 1, 1) := by decide +kernel
theorem dX12_winds_103 : decode cX12_winds 103 = .ok (.iadd, 1) := by decide +kernel
theorem dX12_winds_104 : decode cX12_winds 104 = .ok (.iastore, 1) := by decide +kernel
theorem dX12_winds_105 : decode cX12_winds 105 = .ok (.aload_n 0, 1) := by decide +kernel
theorem dX12_winds_106 : decode cX12_winds 106 = .ok (.getfield 11, 3) := by decide +kernel
theorem dX12_winds_109 : decode cX12_winds 109 = .ok (.bipush 18, 2) := by decide +kernel
theorem dX12_winds_111 : decode cX12_winds 111 = .ok (.iload 8, 2) := by decide +kernel
theorem dX12_winds_113 : decode cX12_winds 113 = .ok (.iastore, 1) := by decide +kernel
theorem dX12_winds_114 : decode cX12_winds 114 = .ok (.aload_n 0, 1) := by decide +kernel
theorem dX12_winds_115 : decode cX12_winds 115 = .ok (.aload_n 0, 1) := by decide +kernel
theorem dX12_winds_116 : decode cX12_winds 116 = .ok (.getfield 30, 3) := by decide +kernel
theorem dX12_winds_119 : decode cX12_winds 119 = .ok (.iconst 5, 1) := by decide +kernel
theorem dX12_winds_120 : decode cX12_winds 120 = .ok (.iload_n 3, 1) := by decide +kernel
theorem dX12_winds_121 : decode cX12_winds 121 = .ok (.imul, 1) := by decide +kernel
theorem dX12_winds_122 : decode cX12_winds 122 = .ok (.iconst 1, 1) := by decide +kernel
theorem dX12_winds_123 : decode cX12_winds 123 = .ok (.iadd, 1) := by decide +kernel
theorem dX12_winds_124 : decode cX12_winds 124 = .ok (.iaload, 1) := by decide +kernel
theorem dX12_winds_125 : decode cX12_winds 125 = .ok (.iconst 0, 1) := by decide +kernel
theorem dX12_winds_126 : decode cX12_winds 126 = .ok (.iload 4, 2) := by decide +kernel
theorem dX12_winds_128 : decode cX12_winds 128 = .ok (.invokevirtual 154, 3) := by decide +kernel
theorem dX12_winds_131 : decode cX12_winds 131 = .ok (.goto 147, 3) := by decide +kernel
theorem dX12_winds_134 : decode cX12_winds 134 = .ok (.iload_n 2, 1) := by decide +kernel
theorem dX12_winds_135 : decode cX12_winds 135 = .ok (.bipush 10, 2) := by decide +kernel
theorem dX12_winds_137 : decode cX12_winds 137 = .ok (.if_icmp .ne 69, 3) := by decide +kernel
theorem dX12_winds_140 : decode cX12_winds 140 = .ok (.aload_n 0, 1) := by decide +kernel
theorem dX12_winds_141 : decode cX12_winds 141 = .ok (.aload_n 0, 1) := by decide +kernel
theorem dX12_winds_142 : decode cX12_winds 142 = .ok (.getfield 11, 3) := by decide +kernel
theorem dX12_winds_145 : decode cX12_winds 145 = .ok (.bipush 17, 2) := by decide +kernel
theorem dX12_winds_147 : decode cX12_winds 147 = .ok (.iaload, 1) := by decide +kernel
theorem dX12_winds_148 : decode cX12_winds 148 = .ok (.bipush 11, 2) := by decide +kernel
theorem dX12_winds_150 : decode cX12_winds 150 = .ok (.iload_n 3, 1) := by decide +kernel
theorem dX12_winds_151 : decode cX12_winds 151 = .ok (.iload 4, 2) := by decide +kernel
theorem dX12_winds_153 : decode cX12_winds 153 = .ok (.iload 5, 2) := by decide +kernel
theorem dX12_winds_155 : decode cX12_winds 155 = .ok (.iload 6, 2) := by decide +kernel
theorem dX12_winds_157 : decode cX12_winds 157 = .ok (.iconst 0, 1) := by decide +kernel
theorem dX12_winds_158 : decode cX12_winds 158 = .ok (.invokevirtual 150, 3) := by decide +kernel
theorem dX12_winds_161 : decode cX12_winds 161 = .ok (.ifCond .eq 117, 3) := by decide +kernel
theorem dX12_winds_164 : decode cX12_winds 164 = .ok (.aload_n 0, 1) := by decide +kernel
theorem dX12_winds_165 : decode cX12_winds 165 = .ok (.getfield 11, 3) := by decide +kernel
theorem dX12_winds_168 : decode cX12_winds 168 = .ok (.bipush 18, 2) := by decide +kernel
theorem dX12_winds_170 : decode cX12_winds 170 = .ok (.aload_n 0, 1) := by decide +kernel
theorem dX12_winds_171 : decode cX12_winds 171 = .ok (.getfield 11, 3) := by decide +kernel
theorem dX12_winds_174 : decode cX12_winds 174 = .ok (.sipush 3960, 3) := by decide +kernel
theorem dX12_winds_177 : decode cX12_winds 177 = .ok (.iconst 4, 1) := by decide +kernel
theorem dX12_winds_178 : decode cX12_winds 178 = .ok (.iload 7, 2) := by decide +kernel
theorem dX12_winds_180 : decode cX12_winds 180 = .ok (.imul, 1) := by decide +kernel
theorem dX12_winds_181 : decode cX12_winds 181 = .ok (.iadd, 1) := by decide +kernel
theorem dX12_winds_182 : decode cX12_winds 182 = .ok (.iconst 2, 1) := by decide +kernel
theorem dX12_winds_183 : decode cX12_winds 183 = .ok (.iadd, 1) := by decide +kernel
theorem dX12_winds_184 : decode cX12_winds 184 = .ok (.iaload, 1) := by decide +kernel
theorem dX12_winds_185 : decode cX12_winds 185 = .ok (.iastore, 1) := by decide +kernel
theorem dX12_winds_186 : decode cX12_winds 186 = .ok (.aload_n 0, 1) := by decide +kernel
theorem dX12_winds_187 : decode cX12_winds 187 = .ok (.aload_n 0, 1) := by decide +kernel
theorem dX12_winds_188 : decode cX12_winds 188 = .ok (.getfield 30, 3) := by decide +kernel
theorem dX12_winds_191 : decode cX12_winds 191 = .ok (.iconst 5, 1) := by decide +kernel
theorem dX12_winds_192 : decode cX12_winds 192 = .ok (.iload_n 3, 1) := by decide +kernel
theorem dX12_winds_193 : decode cX12_winds 193 = .ok (.imul, 1) := by decide +kernel
theorem dX12_winds_194 : decode cX12_winds 194 = .ok (.iconst 2, 1) := by decide +kernel
theorem dX12_winds_195 : decode cX12_winds 195 = .ok (.iadd, 1) := by decide +kernel
theorem dX12_winds_196 : decode cX12_winds 196 = .ok (.iaload, 1) := by decide +kernel
theorem dX12_winds_197 : decode cX12_winds 197 = .ok (.iconst 0, 1) := by decide +kernel
theorem dX12_winds_198 : decode cX12_winds 198 = .ok (.iload 4, 2) := by decide +kernel
theorem dX12_winds_200 : decode cX12_winds 200 = .ok (.invokevirtual 154, 3) := by decide +kernel
theorem dX12_winds_203 : decode cX12_winds 203 = .ok (.goto 75, 3) := by decide +kernel
theorem dX12_winds_206 : decode cX12_winds 206 = .ok (.iload_n 2, 1) := by decide +kernel
theorem dX12_winds_207 : decode cX12_winds 207 = .ok (.bipush 11, 2) := by decide +kernel
theorem dX12_winds_209 : decode cX12_winds 209 = .ok (.if_icmp .ne 26, 3) := by decide +kernel
theorem dX12_winds_212 : decode cX12_winds 212 = .ok (.aload_n 0, 1) := by decide +kernel
theorem dX12_winds_213 : decode cX12_winds 213 = .ok (.aload_n 0, 1) := by decide +kernel
theorem dX12_winds_214 : decode cX12_winds 214 = .ok (.getfield 11, 3) := by decide +kernel
theorem dX12_winds_217 : decode cX12_winds 217 = .ok (.iload_n 1, 1) := by decide +kernel
theorem dX12_winds_218 : decode cX12_winds 218 = .ok (.iconst 3, 1) := by decide +kernel
theorem dX12_winds_219 : decode cX12_winds 219 = .ok (.iadd, 1) := by decide +kernel
theorem dX12_winds_220 : decode cX12_winds 220 = .ok (.iaload, 1) := by decide +kernel
theorem dX12_winds_221 : decode cX12_winds 221 = .ok (.aload_n 0, 1) := by decide +kernel
theorem dX12_winds_222 : decode cX12_winds 222 = .ok (.getfield 11, 3) := by decide +kernel
theorem dX12_winds_225 : decode cX12_winds 225 = .ok (.iload_n 1, 1) := by decide +kernel
theorem dX12_winds_226 : decode cX12_winds 226 = .ok (.iconst 4, 1) := by decide +kernel
theorem dX12_winds_227 : decode cX12_winds 227 = .ok (.iadd, 1) := by decide +kernel
theorem dX12_winds_228 : decode cX12_winds 228 = .ok (.iaload, 1) := by decide +kernel
theorem dX12_winds_229 : decode cX12_winds 229 = .ok (.invokevirtual 146, 3) := by decide +kernel
theorem dX12_winds_232 : decode cX12_winds 232 = .ok (.goto 46, 3) := by decide +kernel
theorem dX12_winds_235 : decode cX12_winds 235 = .ok (.iload_n 2, 1) := by decide +kernel
theorem dX12_winds_236 : decode cX12_winds 236 = .ok (.bipush 13, 2) := by decide +kernel
theorem dX12_winds_238 : decode cX12_winds 238 = .ok (.if_icmp .ne 11, 3) := by decide +kernel
theorem dX12_winds_241 : decode cX12_winds 241 = .ok (.aload_n 0, 1) := by decide +kernel
theorem dX12_winds_242 : decode cX12_winds 242 = .ok (.getfield 11, 3) := by decide +kernel
theorem dX12_winds_245 : decode cX12_winds 245 = .ok (.bipush 18, 2) := by decide +kernel
theorem dX12_winds_247 : decode cX12_winds 247 = .ok (.iload_n 3, 1) := by decide +kernel
theorem dX12_winds_248 : decode cX12_winds 248 = .ok (.iastore, 1) := by decide +kernel
theorem dX12_winds_249 : decode cX12_winds 249 = .ok (.aload_n 0, 1) := by decide +kernel
theorem dX12_winds_250 : decode cX12_winds 250 = .ok (.aload_n 0, 1) := by decide +kernel
theorem dX12_winds_251 : decode cX12_winds 251 = .ok (.getfield 11, 3) := by decide +kernel
theorem dX12_winds_254 : decode cX12_winds 254 = .ok (.iload_n 1, 1) := by decide +kernel
theorem dX12_winds_255 : decode cX12_winds 255 = .ok (.bipush 7, 2) := by decide +kernel
theorem dX12_winds_257 : decode cX12_winds 257 = .ok (.iadd, 1) := by decide +kernel
theorem dX12_winds_258 : decode cX12_winds 258 = .ok (.iaload, 1) := by decide +kernel
theorem dX12_winds_259 : decode cX12_winds 259 = .ok (.aload_n 0, 1) := by decide +kernel
theorem dX12_winds_260 : decode cX12_winds 260 = .ok (.getfield 11, 3) := by decide +kernel
theorem dX12_winds_263 : decode cX12_winds 263 = .ok (.iload_n 1, 1) := by decide +kernel
theorem dX12_winds_264 : decode cX12_winds 264 = .ok (.iconst 3, 1) := by decide +kernel
theorem dX12_winds_265 : decode cX12_winds 265 = .ok (.iadd, 1) := by decide +kernel
theorem dX12_winds_266 : decode cX12_winds 266 = .ok (.iaload, 1) := by decide +kernel
theorem dX12_winds_267 : decode cX12_winds 267 = .ok (.aload_n 0, 1) := by decide +kernel
theorem dX12_winds_268 : decode cX12_winds 268 = .ok (.getfield 11, 3) := by decide +kernel
theorem dX12_winds_271 : decode cX12_winds 271 = .ok (.iload_n 1, 1) := by decide +kernel
theorem dX12_winds_272 : decode cX12_winds 272 = .ok (.iconst 4, 1) := by decide +kernel
theorem dX12_winds_273 : decode cX12_winds 273 = .ok (.iadd, 1) := by decide +kernel
theorem dX12_winds_274 : decode cX12_winds 274 = .ok (.iaload, 1) := by decide +kernel
theorem dX12_winds_275 : decode cX12_winds 275 = .ok (.invokevirtual 172, 3) := by decide +kernel
theorem dX12_winds_278 : decode cX12_winds 278 = .ok (.return_, 1) := by decide +kernel
theorem dX12_goesOnFrom_0 : decode cX12_goesOnFrom 0 = .ok (.iload_n 1, 1) := by decide +kernel
theorem dX12_goesOnFrom_1 : decode cX12_goesOnFrom 1 = .ok (.istore_n 3, 1) := by decide +kernel
theorem dX12_goesOnFrom_2 : decode cX12_goesOnFrom 2 = .ok (.iload_n 3, 1) := by decide +kernel
theorem dX12_goesOnFrom_3 : decode cX12_goesOnFrom 3 = .ok (.ifCond .lt 39, 3) := by decide +kernel
theorem dX12_goesOnFrom_6 : decode cX12_goesOnFrom 6 = .ok (.aload_n 0, 1) := by decide +kernel
theorem dX12_goesOnFrom_7 : decode cX12_goesOnFrom 7 = .ok (.getfield 11, 3) := by decide +kernel
theorem dX12_goesOnFrom_10 : decode cX12_goesOnFrom 10 = .ok (.sipush 3960, 3) := by decide +kernel
theorem dX12_goesOnFrom_13 : decode cX12_goesOnFrom 13 = .ok (.iconst 4, 1) := by decide +kernel
theorem dX12_goesOnFrom_14 : decode cX12_goesOnFrom 14 = .ok (.iload_n 3, 1) := by decide +kernel
theorem dX12_goesOnFrom_15 : decode cX12_goesOnFrom 15 = .ok (.imul, 1) := by decide +kernel
theorem dX12_goesOnFrom_16 : decode cX12_goesOnFrom 16 = .ok (.iadd, 1) := by decide +kernel
theorem dX12_goesOnFrom_17 : decode cX12_goesOnFrom 17 = .ok (.iconst 2, 1) := by decide +kernel
theorem dX12_goesOnFrom_18 : decode cX12_goesOnFrom 18 = .ok (.iadd, 1) := by decide +kernel
theorem dX12_goesOnFrom_19 : decode cX12_goesOnFrom 19 = .ok (.iaload, 1) := by decide +kernel
theorem dX12_goesOnFrom_20 : decode cX12_goesOnFrom 20 = .ok (.iload_n 2, 1) := by decide +kernel
theorem dX12_goesOnFrom_21 : decode cX12_goesOnFrom 21 = .ok (.if_icmp .eq 21, 3) := by decide +kernel
theorem dX12_goesOnFrom_24 : decode cX12_goesOnFrom 24 = .ok (.aload_n 0, 1) := by decide +kernel
theorem dX12_goesOnFrom_25 : decode cX12_goesOnFrom 25 = .ok (.getfield 11, 3) := by decide +kernel
theorem dX12_goesOnFrom_28 : decode cX12_goesOnFrom 28 = .ok (.sipush 3960, 3) := by decide +kernel
theorem dX12_goesOnFrom_31 : decode cX12_goesOnFrom 31 = .ok (.iconst 4, 1) := by decide +kernel
theorem dX12_goesOnFrom_32 : decode cX12_goesOnFrom 32 = .ok (.iload_n 3, 1) := by decide +kernel
theorem dX12_goesOnFrom_33 : decode cX12_goesOnFrom 33 = .ok (.imul, 1) := by decide +kernel
theorem dX12_goesOnFrom_34 : decode cX12_goesOnFrom 34 = .ok (.iadd, 1) := by decide +kernel
theorem dX12_goesOnFrom_35 : decode cX12_goesOnFrom 35 = .ok (.iconst 2, 1) := by decide +kernel
theorem dX12_goesOnFrom_36 : decode cX12_goesOnFrom 36 = .ok (.iadd, 1) := by decide +kernel
theorem dX12_goesOnFrom_37 : decode cX12_goesOnFrom 37 = .ok (.iaload, 1) := by decide +kernel
theorem dX12_goesOnFrom_38 : decode cX12_goesOnFrom 38 = .ok (.istore_n 3, 1) := by decide +kernel
theorem dX12_goesOnFrom_39 : decode cX12_goesOnFrom 39 = .ok (.goto (-37), 3) := by decide +kernel
theorem dX12_goesOnFrom_42 : decode cX12_goesOnFrom 42 = .ok (.iload_n 3, 1) := by decide +kernel
theorem dX12_goesOnFrom_43 : decode cX12_goesOnFrom 43 = .ok (.ireturn, 1) := by decide +kernel
theorem dX12_goes_0 : decode cX12_goes 0 = .ok (.aload_n 0, 1) := by decide +kernel
theorem dX12_goes_1 : decode cX12_goes 1 = .ok (.getfield 11, 3) := by decide +kernel
theorem dX12_goes_4 : decode cX12_goes 4 = .ok (.bipush 18, 2) := by decide +kernel
theorem dX12_goes_6 : decode cX12_goes 6 = .ok (.iaload, 1) := by decide +kernel
theorem dX12_goes_7 : decode cX12_goes 7 = .ok (.istore 4, 2) := by decide +kernel
theorem dX12_goes_9 : decode cX12_goes 9 = .ok (.aload_n 0, 1) := by decide +kernel
theorem dX12_goes_10 : decode cX12_goes 10 = .ok (.getfield 11, 3) := by decide +kernel
theorem dX12_goes_13 : decode cX12_goes 13 = .ok (.sipush 5240, 3) := by decide +kernel
theorem dX12_goes_16 : decode cX12_goes 16 = .ok (.iconst 2, 1) := by decide +kernel
theorem dX12_goes_17 : decode cX12_goes 17 = .ok (.iload_n 1, 1) := by decide +kernel
theorem dX12_goes_18 : decode cX12_goes 18 = .ok (.imul, 1) := by decide +kernel
theorem dX12_goes_19 : decode cX12_goes 19 = .ok (.iadd, 1) := by decide +kernel
theorem dX12_goes_20 : decode cX12_goes 20 = .ok (.iconst 1, 1) := by decide +kernel
theorem dX12_goes_21 : decode cX12_goes 21 = .ok (.iadd, 1) := by decide +kernel
theorem dX12_goes_22 : decode cX12_goes 22 = .ok (.iaload, 1) := by decide +kernel
theorem dX12_goes_23 : decode cX12_goes 23 = .ok (.istore 5, 2) := by decide +kernel
theorem dX12_goes_25 : decode cX12_goes 25 = .ok (.iload 4, 2) := by decide +kernel
theorem dX12_goes_27 : decode cX12_goes 27 = .ok (.iload 5, 2) := by decide +kernel
theorem dX12_goes_29 : decode cX12_goes 29 = .ok (.if_icmp .ne 29, 3) := by decide +kernel
theorem dX12_goes_32 : decode cX12_goes 32 = .ok (.aload_n 0, 1) := by decide +kernel
theorem dX12_goes_33 : decode cX12_goes 33 = .ok (.getfield 11, 3) := by decide +kernel
theorem dX12_goes_36 : decode cX12_goes 36 = .ok (.bipush 17, 2) := by decide +kernel
theorem dX12_goes_38 : decode cX12_goes 38 = .ok (.aload_n 0, 1) := by decide +kernel
theorem dX12_goes_39 : decode cX12_goes 39 = .ok (.getfield 11, 3) := by decide +kernel
theorem dX12_goes_42 : decode cX12_goes 42 = .ok (.sipush 5240, 3) := by decide +kernel
theorem dX12_goes_45 : decode cX12_goes 45 = .ok (.iconst 2, 1) := by decide +kernel
theorem dX12_goes_46 : decode cX12_goes 46 = .ok (.iload_n 1, 1) := by decide +kernel
theorem dX12_goes_47 : decode cX12_goes 47 = .ok (.imul, 1) := by decide +kernel
theorem dX12_goes_48 : decode cX12_goes 48 = .ok (.iadd, 1) := by decide +kernel
theorem dX12_goes_49 : decode cX12_goes 49 = .ok (.iaload, 1) := by decide +kernel
theorem dX12_goes_50 : decode cX12_goes 50 = .ok (.iastore, 1) := by decide +kernel
theorem dX12_goes_51 : decode cX12_goes 51 = .ok (.aload_n 0, 1) := by decide +kernel
theorem dX12_goes_52 : decode cX12_goes 52 = .ok (.iload_n 2, 1) := by decide +kernel
theorem dX12_goes_53 : decode cX12_goes 53 = .ok (.iload_n 3, 1) := by decide +kernel
theorem dX12_goes_54 : decode cX12_goes 54 = .ok (.invokevirtual 146, 3) := by decide +kernel
theorem dX12_goes_57 : decode cX12_goes 57 = .ok (.return_, 1) := by decide +kernel
theorem dX12_goes_58 : decode cX12_goes 58 = .ok (.aload_n 0, 1) := by decide +kernel
theorem dX12_goes_59 : decode cX12_goes 59 = .ok (.iload 5, 2) := by decide +kernel
theorem dX12_goes_61 : decode cX12_goes 61 = .ok (.iload 4, 2) := by decide +kernel
theorem dX12_goes_63 : decode cX12_goes 63 = .ok (.invokevirtual 179, 3) := by decide +kernel
theorem dX12_goes_66 : decode cX12_goes 66 = .ok (.istore 6, 2) := by decide +kernel
theorem dX12_goes_68 : decode cX12_goes 68 = .ok (.iload 6, 2) := by decide +kernel
theorem dX12_goes_70 : decode cX12_goes 70 = .ok (.ifCond .ge 8, 3) := by decide +kernel
theorem dX12_goes_73 : decode cX12_goes 73 = .ok (.iload 4, 2) := by decide +kernel
theorem dX12_goes_75 : decode cX12_goes 75 = .ok (.goto 5, 3) := by decide +kernel
theorem dX12_goes_78 : decode cX12_goes 78 = .ok (.iload 6, 2) := by decide +kernel
theorem dX12_goes_80 : decode cX12_goes 80 = .ok (.istore 7, 2) := by decide +kernel
theorem dX12_goes_82 : decode cX12_goes 82 = .ok (.iload 6, 2) := by decide +kernel
theorem dX12_goes_84 : decode cX12_goes 84 = .ok (.ifCond .ge 25, 3) := by decide +kernel
theorem dX12_goes_87 : decode cX12_goes 87 = .ok (.aload_n 0, 1) := by decide +kernel
theorem dX12_goes_88 : decode cX12_goes 88 = .ok (.getfield 11, 3) := by decide +kernel
theorem dX12_goes_91 : decode cX12_goes 91 = .ok (.bipush 18, 2) := by decide +kernel
theorem dX12_goes_93 : decode cX12_goes 93 = .ok (.aload_n 0, 1) := by decide +kernel
theorem dX12_goes_94 : decode cX12_goes 94 = .ok (.getfield 11, 3) := by decide +kernel
theorem dX12_goes_97 : decode cX12_goes 97 = .ok (.sipush 3960, 3) := by decide +kernel
theorem dX12_goes_100 : decode cX12_goes 100 = .ok (.iconst 4, 1) := by decide +kernel
theorem dX12_goes_101 : decode cX12_goes 101 = .ok (.iload 4, 2) := by decide +kernel
theorem dX12_goes_103 : decode cX12_goes 103 = .ok (.imul, 1) := by decide +kernel
theorem dX12_goes_104 : decode cX12_goes 104 = .ok (.iadd, 1) := by decide +kernel
theorem dX12_goes_105 : decode cX12_goes 105 = .ok (.iconst 2, 1) := by decide +kernel
theorem dX12_goes_106 : decode cX12_goes 106 = .ok (.iadd, 1) := by decide +kernel
theorem dX12_goes_107 : decode cX12_goes 107 = .ok (.iaload, 1) := by decide +kernel
theorem dX12_goes_108 : decode cX12_goes 108 = .ok (.iastore, 1) := by decide +kernel
theorem dX12_goes_109 : decode cX12_goes 109 = .ok (.aload_n 0, 1) := by decide +kernel
theorem dX12_goes_110 : decode cX12_goes 110 = .ok (.getfield 11, 3) := by decide +kernel
theorem dX12_goes_113 : decode cX12_goes 113 = .ok (.sipush 3960, 3) := by decide +kernel
theorem dX12_goes_116 : decode cX12_goes 116 = .ok (.iconst 4, 1) := by decide +kernel
theorem dX12_goes_117 : decode cX12_goes 117 = .ok (.iload 7, 2) := by decide +kernel
theorem dX12_goes_119 : decode cX12_goes 119 = .ok (.imul, 1) := by decide +kernel
theorem dX12_goes_120 : decode cX12_goes 120 = .ok (.iadd, 1) := by decide +kernel
theorem dX12_goes_121 : decode cX12_goes 121 = .ok (.iaload, 1) := by decide +kernel
theorem dX12_goes_122 : decode cX12_goes 122 = .ok (.istore 8, 2) := by decide +kernel
theorem dX12_goes_124 : decode cX12_goes 124 = .ok (.aload_n 0, 1) := by decide +kernel
theorem dX12_goes_125 : decode cX12_goes 125 = .ok (.iconst (-1), 1) := by decide +kernel
theorem dX12_goes_126 : decode cX12_goes 126 = .ok (.iload 6, 2) := by decide +kernel
theorem dX12_goes_128 : decode cX12_goes 128 = .ok (.ifCond .ge 8, 3) := by decide +kernel
theorem dX12_goes_131 : decode cX12_goes 131 = .ok (.bipush 12, 2) := by decide +kernel
theorem dX12_goes_133 : decode cX12_goes 133 = .ok (.goto 5, 3) := by decide +kernel
theorem dX12_goes_136 : decode cX12_goes 136 = .ok (.bipush 13, 2) := by decide +kernel
theorem dX12_goes_138 : decode cX12_goes 138 = .ok (.iload 7, 2) := by decide +kernel
theorem dX12_goes_140 : decode cX12_goes 140 = .ok (.iconst (-1), 1) := by decide +kernel
theorem dX12_goes_141 : decode cX12_goes 141 = .ok (.iload_n 2, 1) := by decide +kernel
theorem dX12_goes_142 : decode cX12_goes 142 = .ok (.iload_n 3, 1) := by decide +kernel
theorem dX12_goes_143 : decode cX12_goes 143 = .ok (.iload_n 1, 1) := by decide +kernel
theorem dX12_goes_144 : decode cX12_goes 144 = .ok (.invokevirtual 150, 3) := by decide +kernel
theorem dX12_goes_147 : decode cX12_goes 147 = .ok (.ifCond .eq 43, 3) := by decide +kernel
theorem dX12_goes_150 : decode cX12_goes 150 = .ok (.aload_n 0, 1) := by decide +kernel
theorem dX12_goes_151 : decode cX12_goes 151 = .ok (.aload_n 0, 1) := by decide +kernel
theorem dX12_goes_152 : decode cX12_goes 152 = .ok (.getfield 30, 3) := by decide +kernel
theorem dX12_goes_155 : decode cX12_goes 155 = .ok (.iconst 5, 1) := by decide +kernel
theorem dX12_goes_156 : decode cX12_goes 156 = .ok (.iload 8, 2) := by decide +kernel
theorem dX12_goes_158 : decode cX12_goes 158 = .ok (.imul, 1) := by decide +kernel
theorem dX12_goes_159 : decode cX12_goes 159 = .ok (.iload 6, 2) := by decide +kernel
theorem dX12_goes_161 : decode cX12_goes 161 = .ok (.ifCond .ge 7, 3) := by decide +kernel
theorem dX12_goes_164 : decode cX12_goes 164 = .ok (.iconst 2, 1) := by decide +kernel
theorem dX12_goes_165 : decode cX12_goes 165 = .ok (.goto 4, 3) := by decide +kernel
theorem dX12_goes_168 : decode cX12_goes 168 = .ok (.iconst 0, 1) := by decide +kernel
theorem dX12_goes_169 : decode cX12_goes 169 = .ok (.iadd, 1) := by decide +kernel
theorem dX12_goes_170 : decode cX12_goes 170 = .ok (.iaload, 1) := by decide +kernel
theorem dX12_goes_171 : decode cX12_goes 171 = .ok (.iconst 0, 1) := by decide +kernel
theorem dX12_goes_172 : decode cX12_goes 172 = .ok (.aload_n 0, 1) := by decide +kernel
theorem dX12_goes_173 : decode cX12_goes 173 = .ok (.getfield 11, 3) := by decide +kernel
theorem dX12_goes_176 : decode cX12_goes 176 = .ok (.sipush 3960, 3) := by decide +kernel
theorem dX12_goes_179 : decode cX12_goes 179 = .ok (.iconst 4, 1) := by decide +kernel
theorem dX12_goes_180 : decode cX12_goes 180 = .ok (.iload 7, 2) := by decide +kernel
theorem dX12_goes_182 : decode cX12_goes 182 = .ok (.imul, 1) := by decide +kernel
theorem dX12_goes_183 : decode cX12_goes 183 = .ok (.iadd, 1) := by decide +kernel
theorem dX12_goes_184 : decode cX12_goes 184 = .ok (.iconst 1, 1) := by decide +kernel
theorem dX12_goes_185 : decode cX12_goes 185 = .ok (.iadd, 1) := by decide +kernel
theorem dX12_goes_186 : decode cX12_goes 186 = .ok (.iaload, 1) := by decide +kernel
theorem dX12_goes_187 : decode cX12_goes 187 = .ok (.invokevirtual 154, 3) := by decide +kernel
theorem dX12_goes_190 : decode cX12_goes 190 = .ok (.return_, 1) := by decide +kernel
theorem dX12_begins_0 : decode cX12_begins 0 = .ok (.aload_n 0, 1) := by decide +kernel
theorem dX12_begins_1 : decode cX12_begins 1 = .ok (.getfield 11, 3) := by decide +kernel
theorem dX12_begins_4 : decode cX12_begins 4 = .ok (.bipush 7, 2) := by decide +kernel
theorem dX12_begins_6 : decode cX12_begins 6 = .ok (.bipush (-5), 2) := by decide +kernel
theorem dX12_begins_8 : decode cX12_begins 8 = .ok (.iastore, 1) := by decide +kernel
theorem dX12_begins_9 : decode cX12_begins 9 = .ok (.aload_n 0, 1) := by decide +kernel
theorem dX12_begins_10 : decode cX12_begins 10 = .ok (.getfield 11, 3) := by decide +kernel
theorem dX12_begins_13 : decode cX12_begins 13 = .ok (.bipush 10, 2) := by decide +kernel
theorem dX12_begins_15 : decode cX12_begins 15 = .ok (.iconst 0, 1) := by decide +kernel
theorem dX12_begins_16 : decode cX12_begins 16 = .ok (.iastore, 1) := by decide +kernel
theorem dX12_begins_17 : decode cX12_begins 17 = .ok (.aload_n 0, 1) := by decide +kernel
theorem dX12_begins_18 : decode cX12_begins 18 = .ok (.getfield 11, 3) := by decide +kernel
theorem dX12_begins_21 : decode cX12_begins 21 = .ok (.bipush 11, 2) := by decide +kernel
theorem dX12_begins_23 : decode cX12_begins 23 = .ok (.iconst 0, 1) := by decide +kernel
theorem dX12_begins_24 : decode cX12_begins 24 = .ok (.iastore, 1) := by decide +kernel
theorem dX12_begins_25 : decode cX12_begins 25 = .ok (.aload_n 0, 1) := by decide +kernel
theorem dX12_begins_26 : decode cX12_begins 26 = .ok (.getfield 11, 3) := by decide +kernel
theorem dX12_begins_29 : decode cX12_begins 29 = .ok (.bipush 12, 2) := by decide +kernel
theorem dX12_begins_31 : decode cX12_begins 31 = .ok (.iconst 0, 1) := by decide +kernel
theorem dX12_begins_32 : decode cX12_begins 32 = .ok (.iastore, 1) := by decide +kernel
theorem dX12_begins_33 : decode cX12_begins 33 = .ok (.aload_n 0, 1) := by decide +kernel
theorem dX12_begins_34 : decode cX12_begins 34 = .ok (.getfield 11, 3) := by decide +kernel
theorem dX12_begins_37 : decode cX12_begins 37 = .ok (.bipush 17, 2) := by decide +kernel
theorem dX12_begins_39 : decode cX12_begins 39 = .ok (.iconst (-1), 1) := by decide +kernel
theorem dX12_begins_40 : decode cX12_begins 40 = .ok (.iastore, 1) := by decide +kernel
theorem dX12_begins_41 : decode cX12_begins 41 = .ok (.aload_n 0, 1) := by decide +kernel
theorem dX12_begins_42 : decode cX12_begins 42 = .ok (.getfield 11, 3) := by decide +kernel
theorem dX12_begins_45 : decode cX12_begins 45 = .ok (.bipush 18, 2) := by decide +kernel
theorem dX12_begins_47 : decode cX12_begins 47 = .ok (.iconst (-1), 1) := by decide +kernel
theorem dX12_begins_48 : decode cX12_begins 48 = .ok (.iastore, 1) := by decide +kernel
theorem dX12_begins_49 : decode cX12_begins 49 = .ok (.aload_n 0, 1) := by decide +kernel
theorem dX12_begins_50 : decode cX12_begins 50 = .ok (.getfield 11, 3) := by decide +kernel
theorem dX12_begins_53 : decode cX12_begins 53 = .ok (.bipush 21, 2) := by decide +kernel
theorem dX12_begins_55 : decode cX12_begins 55 = .ok (.iconst 0, 1) := by decide +kernel
theorem dX12_begins_56 : decode cX12_begins 56 = .ok (.iastore, 1) := by decide +kernel
theorem dX12_begins_57 : decode cX12_begins 57 = .ok (.aload_n 0, 1) := by decide +kernel
theorem dX12_begins_58 : decode cX12_begins 58 = .ok (.getfield 11, 3) := by decide +kernel
theorem dX12_begins_61 : decode cX12_begins 61 = .ok (.bipush 22, 2) := by decide +kernel
theorem dX12_begins_63 : decode cX12_begins 63 = .ok (.iconst 0, 1) := by decide +kernel
theorem dX12_begins_64 : decode cX12_begins 64 = .ok (.iastore, 1) := by decide +kernel
theorem dX12_begins_65 : decode cX12_begins 65 = .ok (.aload_n 0, 1) := by decide +kernel
theorem dX12_begins_66 : decode cX12_begins 66 = .ok (.getfield 11, 3) := by decide +kernel
theorem dX12_begins_69 : decode cX12_begins 69 = .ok (.bipush 23, 2) := by decide +kernel
theorem dX12_begins_71 : decode cX12_begins 71 = .ok (.iconst 0, 1) := by decide +kernel
theorem dX12_begins_72 : decode cX12_begins 72 = .ok (.iastore, 1) := by decide +kernel
theorem dX12_begins_73 : decode cX12_begins 73 = .ok (.aload_n 0, 1) := by decide +kernel
theorem dX12_begins_74 : decode cX12_begins 74 = .ok (.getfield 11, 3) := by decide +kernel
theorem dX12_begins_77 : decode cX12_begins 77 = .ok (.bipush 24, 2) := by decide +kernel
theorem dX12_begins_79 : decode cX12_begins 79 = .ok (.iconst 0, 1) := by decide +kernel
theorem dX12_begins_80 : decode cX12_begins 80 = .ok (.iastore, 1) := by decide +kernel
theorem dX12_begins_81 : decode cX12_begins 81 = .ok (.aload_n 0, 1) := by decide +kernel
theorem dX12_begins_82 : decode cX12_begins 82 = .ok (.bipush 101, 2) := by decide +kernel
theorem dX12_begins_84 : decode cX12_begins 84 = .ok (.iload_n 1, 1) := by decide +kernel
theorem dX12_begins_85 : decode cX12_begins 85 = .ok (.imul, 1) := by decide +kernel
theorem dX12_begins_86 : decode cX12_begins 86 = .ok (.iconst 0, 1) := by decide +kernel
theorem dX12_begins_87 : decode cX12_begins 87 = .ok (.iconst (-1), 1) := by decide +kernel
theorem dX12_begins_88 : decode cX12_begins 88 = .ok (.invokevirtual 154, 3) := by decide +kernel
theorem dX12_begins_91 : decode cX12_begins 91 = .ok (.return_, 1) := by decide +kernel
theorem dX12_steps_0 : decode cX12_steps 0 = .ok (.iconst 0, 1) := by decide +kernel
theorem dX12_steps_1 : decode cX12_steps 1 = .ok (.istore_n 2, 1) := by decide +kernel
theorem dX12_steps_2 : decode cX12_steps 2 = .ok (.iload_n 2, 1) := by decide +kernel
theorem dX12_steps_3 : decode cX12_steps 3 = .ok (.iload_n 1, 1) := by decide +kernel
theorem dX12_steps_4 : decode cX12_steps 4 = .ok (.if_icmp .ge 84, 3) := by decide +kernel
theorem dX12_steps_7 : decode cX12_steps 7 = .ok (.aload_n 0, 1) := by decide +kernel
theorem dX12_steps_8 : decode cX12_steps 8 = .ok (.getfield 11, 3) := by decide +kernel
theorem dX12_steps_11 : decode cX12_steps 11 = .ok (.bipush 7, 2) := by decide +kernel
theorem dX12_steps_13 : decode cX12_steps 13 = .ok (.iaload, 1) := by decide +kernel
theorem dX12_steps_14 : decode cX12_steps 14 = .ok (.bipush (-5), 2) := by decide +kernel
theorem dX12_steps_16 : decode cX12_steps 16 = .ok (.if_icmp .ne 72, 3) := by decide +kernel
theorem dX12_steps_19 : decode cX12_steps 19 = .ok (.aload_n 0, 1) := by decide +kernel
theorem dX12_steps_20 : decode cX12_steps 20 = .ok (.getfield 11, 3) := by decide +kernel
theorem dX12_steps_23 : decode cX12_steps 23 = .ok (.bipush 13, 2) := by decide +kernel
theorem dX12_steps_25 : decode cX12_steps 25 = .ok (.iaload, 1) := by decide +kernel
theorem dX12_steps_26 : decode cX12_steps 26 = .ok (.ifCond .ne 10, 3) := by decide +kernel
theorem dX12_steps_29 : decode cX12_steps 29 = .ok (.aload_n 0, 1) := by decide +kernel
theorem dX12_steps_30 : decode cX12_steps 30 = .ok (.invokevirtual 182, 3) := by decide +kernel
theorem dX12_steps_33 : decode cX12_steps 33 = .ok (.goto 7, 3) := by decide +kernel
theorem dX12_steps_36 : decode cX12_steps 36 = .ok (.aload_n 0, 1) := by decide +kernel
theorem dX12_steps_37 : decode cX12_steps 37 = .ok (.invokevirtual 185, 3) := by decide +kernel
theorem dX12_steps_40 : decode cX12_steps 40 = .ok (.aload_n 0, 1) := by decide +kernel
theorem dX12_steps_41 : decode cX12_steps 41 = .ok (.getfield 11, 3) := by decide +kernel
theorem dX12_steps_44 : decode cX12_steps 44 = .ok (.bipush 10, 2) := by decide +kernel
theorem dX12_steps_46 : decode cX12_steps 46 = .ok (.dup2, 1) := by decide +kernel
theorem dX12_steps_47 : decode cX12_steps 47 = .ok (.iaload, 1) := by decide +kernel
theorem dX12_steps_48 : decode cX12_steps 48 = .ok (.iconst 1, 1) := by decide +kernel
theorem dX12_steps_49 : decode cX12_steps 49 = .ok (.iadd, 1) := by decide +kernel
theorem dX12_steps_50 : decode cX12_steps 50 = .ok (.iastore, 1) := by decide +kernel
theorem dX12_steps_51 : decode cX12_steps 51 = .ok (.iinc 2 1, 3) := by decide +kernel
theorem dX12_steps_54 : decode cX12_steps 54 = .ok (.aload_n 0, 1) := by decide +kernel
theorem dX12_steps_55 : decode cX12_steps 55 = .ok (.getfield 11, 3) := by decide +kernel
theorem dX12_steps_58 : decode cX12_steps 58 = .ok (.bipush 10, 2) := by decide +kernel
theorem dX12_steps_60 : decode cX12_steps 60 = .ok (.iaload, 1) := by decide +kernel
theorem dX12_steps_61 : decode cX12_steps 61 = .ok (.sipush 300, 3) := by decide +kernel
theorem dX12_steps_64 : decode cX12_steps 64 = .ok (.if_icmp .ne (-62), 3) := by decide +kernel
theorem dX12_steps_67 : decode cX12_steps 67 = .ok (.aload_n 0, 1) := by decide +kernel
theorem dX12_steps_68 : decode cX12_steps 68 = .ok (.getfield 11, 3) := by decide +kernel
theorem dX12_steps_71 : decode cX12_steps 71 = .ok (.bipush 7, 2) := by decide +kernel
theorem dX12_steps_73 : decode cX12_steps 73 = .ok (.iaload, 1) := by decide +kernel
theorem dX12_steps_74 : decode cX12_steps 74 = .ok (.bipush (-5), 2) := by decide +kernel
theorem dX12_steps_76 : decode cX12_steps 76 = .ok (.if_icmp .ne (-74), 3) := by decide +kernel
theorem dX12_steps_79 : decode cX12_steps 79 = .ok (.aload_n 0, 1) := by decide +kernel
theorem dX12_steps_80 : decode cX12_steps 80 = .ok (.bipush 8, 2) := by decide +kernel
theorem dX12_steps_82 : decode cX12_steps 82 = .ok (.invokevirtual 139, 3) := by decide +kernel
theorem dX12_steps_85 : decode cX12_steps 85 = .ok (.goto (-83), 3) := by decide +kernel
theorem dX12_steps_88 : decode cX12_steps 88 = .ok (.iload_n 2, 1) := by decide +kernel
theorem dX12_steps_89 : decode cX12_steps 89 = .ok (.ireturn, 1) := by decide +kernel
theorem dX12_runs_0 : decode cX12_runs 0 = .ok (.aload_n 0, 1) := by decide +kernel
theorem dX12_runs_1 : decode cX12_runs 1 = .ok (.iload_n 1, 1) := by decide +kernel
theorem dX12_runs_2 : decode cX12_runs 2 = .ok (.invokevirtual 188, 3) := by decide +kernel
theorem dX12_runs_5 : decode cX12_runs 5 = .ok (.aload_n 0, 1) := by decide +kernel
theorem dX12_runs_6 : decode cX12_runs 6 = .ok (.sipush 300, 3) := by decide +kernel
theorem dX12_runs_9 : decode cX12_runs 9 = .ok (.invokevirtual 191, 3) := by decide +kernel
theorem dX12_runs_12 : decode cX12_runs 12 = .ok (.istore_n 2, 1) := by decide +kernel
theorem dX12_runs_13 : decode cX12_runs 13 = .ok (.return_, 1) := by decide +kernel
theorem dX12_begin_0 : decode cX12_begin 0 = .ok (.aload_n 0, 1) := by decide +kernel
theorem dX12_begin_1 : decode cX12_begin 1 = .ok (.iload_n 1, 1) := by decide +kernel
theorem dX12_begin_2 : decode cX12_begin 2 = .ok (.invokevirtual 124, 3) := by decide +kernel
theorem dX12_begin_5 : decode cX12_begin 5 = .ok (.ifCond .ne 5, 3) := by decide +kernel
theorem dX12_begin_8 : decode cX12_begin 8 = .ok (.iconst (-1), 1) := by decide +kernel
theorem dX12_begin_9 : decode cX12_begin 9 = .ok (.ireturn, 1) := by decide +kernel
theorem dX12_begin_10 : decode cX12_begin 10 = .ok (.aload_n 0, 1) := by decide +kernel
theorem dX12_begin_11 : decode cX12_begin 11 = .ok (.iload_n 1, 1) := by decide +kernel
theorem dX12_begin_12 : decode cX12_begin 12 = .ok (.invokevirtual 188, 3) := by decide +kernel
theorem dX12_begin_15 : decode cX12_begin 15 = .ok (.aload_n 0, 1) := by decide +kernel
theorem dX12_begin_16 : decode cX12_begin 16 = .ok (.getfield 33, 3) := by decide +kernel
theorem dX12_begin_19 : decode cX12_begin 19 = .ok (.iload_n 1, 1) := by decide +kernel
theorem dX12_begin_20 : decode cX12_begin 20 = .ok (.iaload, 1) := by decide +kernel
theorem dX12_begin_21 : decode cX12_begin 21 = .ok (.ireturn, 1) := by decide +kernel
theorem dX12_step_0 : decode cX12_step 0 = .ok (.iload_n 1, 1) := by decide +kernel
theorem dX12_step_1 : decode cX12_step 1 = .ok (.i2l, 1) := by decide +kernel
theorem dX12_step_2 : decode cX12_step 2 = .ok (.lconst 0, 1) := by decide +kernel
theorem dX12_step_3 : decode cX12_step 3 = .ok (.ldc2_w 194, 3) := by decide +kernel
theorem dX12_step_6 : decode cX12_step 6 = .ok (.invokestatic 54, 3) := by decide +kernel
theorem dX12_step_9 : decode cX12_step 9 = .ok (.ifCond .ne 6, 3) := by decide +kernel
theorem dX12_step_12 : decode cX12_step 12 = .ok (.bipush (-2), 2) := by decide +kernel
theorem dX12_step_14 : decode cX12_step 14 = .ok (.ireturn, 1) := by decide +kernel
theorem dX12_step_15 : decode cX12_step 15 = .ok (.aload_n 0, 1) := by decide +kernel
theorem dX12_step_16 : decode cX12_step 16 = .ok (.getfield 11, 3) := by decide +kernel
theorem dX12_step_19 : decode cX12_step 19 = .ok (.bipush 7, 2) := by decide +kernel
theorem dX12_step_21 : decode cX12_step 21 = .ok (.iaload, 1) := by decide +kernel
theorem dX12_step_22 : decode cX12_step 22 = .ok (.bipush (-5), 2) := by decide +kernel
theorem dX12_step_24 : decode cX12_step 24 = .ok (.if_icmp .ne 11, 3) := by decide +kernel
theorem dX12_step_27 : decode cX12_step 27 = .ok (.aload_n 0, 1) := by decide +kernel
theorem dX12_step_28 : decode cX12_step 28 = .ok (.iload_n 1, 1) := by decide +kernel
theorem dX12_step_29 : decode cX12_step 29 = .ok (.invokevirtual 191, 3) := by decide +kernel
theorem dX12_step_32 : decode cX12_step 32 = .ok (.goto 5, 3) := by decide +kernel
theorem dX12_step_35 : decode cX12_step 35 = .ok (.bipush (-3), 2) := by decide +kernel
theorem dX12_step_37 : decode cX12_step 37 = .ok (.ireturn, 1) := by decide +kernel
theorem dX12_run_0 : decode cX12_run 0 = .ok (.aload_n 0, 1) := by decide +kernel
theorem dX12_run_1 : decode cX12_run 1 = .ok (.iload_n 1, 1) := by decide +kernel
theorem dX12_run_2 : decode cX12_run 2 = .ok (.invokevirtual 124, 3) := by decide +kernel
theorem dX12_run_5 : decode cX12_run 5 = .ok (.ifCond .ne 5, 3) := by decide +kernel
theorem dX12_run_8 : decode cX12_run 8 = .ok (.iconst (-1), 1) := by decide +kernel
theorem dX12_run_9 : decode cX12_run 9 = .ok (.ireturn, 1) := by decide +kernel
theorem dX12_run_10 : decode cX12_run 10 = .ok (.aload_n 0, 1) := by decide +kernel
theorem dX12_run_11 : decode cX12_run 11 = .ok (.iload_n 1, 1) := by decide +kernel
theorem dX12_run_12 : decode cX12_run 12 = .ok (.invokevirtual 196, 3) := by decide +kernel
theorem dX12_run_15 : decode cX12_run 15 = .ok (.aload_n 0, 1) := by decide +kernel
theorem dX12_run_16 : decode cX12_run 16 = .ok (.getfield 11, 3) := by decide +kernel
theorem dX12_run_19 : decode cX12_run 19 = .ok (.bipush 7, 2) := by decide +kernel
theorem dX12_run_21 : decode cX12_run 21 = .ok (.iaload, 1) := by decide +kernel
theorem dX12_run_22 : decode cX12_run 22 = .ok (.ireturn, 1) := by decide +kernel
theorem dX12_latest_0 : decode cX12_latest 0 = .ok (.aload_n 0, 1) := by decide +kernel
theorem dX12_latest_1 : decode cX12_latest 1 = .ok (.getfield 11, 3) := by decide +kernel
theorem dX12_latest_4 : decode cX12_latest 4 = .ok (.bipush 17, 2) := by decide +kernel
theorem dX12_latest_6 : decode cX12_latest 6 = .ok (.iaload, 1) := by decide +kernel
theorem dX12_latest_7 : decode cX12_latest 7 = .ok (.ifCond .ge 6, 3) := by decide +kernel
theorem dX12_latest_10 : decode cX12_latest 10 = .ok (.bipush (-5), 2) := by decide +kernel
theorem dX12_latest_12 : decode cX12_latest 12 = .ok (.ireturn, 1) := by decide +kernel
theorem dX12_latest_13 : decode cX12_latest 13 = .ok (.aload_n 0, 1) := by decide +kernel
theorem dX12_latest_14 : decode cX12_latest 14 = .ok (.getfield 11, 3) := by decide +kernel
theorem dX12_latest_17 : decode cX12_latest 17 = .ok (.bipush 120, 2) := by decide +kernel
theorem dX12_latest_19 : decode cX12_latest 19 = .ok (.bipush 8, 2) := by decide +kernel
theorem dX12_latest_21 : decode cX12_latest 21 = .ok (.aload_n 0, 1) := by decide +kernel
theorem dX12_latest_22 : decode cX12_latest 22 = .ok (.getfield 11, 3) := by decide +kernel
theorem dX12_latest_25 : decode cX12_latest 25 = .ok (.bipush 17, 2) := by decide +kernel
theorem dX12_latest_27 : decode cX12_latest 27 = .ok (.iaload, 1) := by decide +kernel
theorem dX12_latest_28 : decode cX12_latest 28 = .ok (.imul, 1) := by decide +kernel
theorem dX12_latest_29 : decode cX12_latest 29 = .ok (.iadd, 1) := by decide +kernel
theorem dX12_latest_30 : decode cX12_latest 30 = .ok (.iaload, 1) := by decide +kernel
theorem dX12_latest_31 : decode cX12_latest 31 = .ok (.istore_n 1, 1) := by decide +kernel
theorem dX12_latest_32 : decode cX12_latest 32 = .ok (.iload_n 1, 1) := by decide +kernel
theorem dX12_latest_33 : decode cX12_latest 33 = .ok (.iconst 2, 1) := by decide +kernel
theorem dX12_latest_34 : decode cX12_latest 34 = .ok (.if_icmp .ge 7, 3) := by decide +kernel
theorem dX12_latest_37 : decode cX12_latest 37 = .ok (.iconst 0, 1) := by decide +kernel
theorem dX12_latest_38 : decode cX12_latest 38 = .ok (.goto 29, 3) := by decide +kernel
theorem dX12_latest_41 : decode cX12_latest 41 = .ok (.iload_n 1, 1) := by decide +kernel
theorem dX12_latest_42 : decode cX12_latest 42 = .ok (.bipush 9, 2) := by decide +kernel
theorem dX12_latest_44 : decode cX12_latest 44 = .ok (.if_icmp .ge 9, 3) := by decide +kernel
theorem dX12_latest_47 : decode cX12_latest 47 = .ok (.iload_n 1, 1) := by decide +kernel
theorem dX12_latest_48 : decode cX12_latest 48 = .ok (.iconst 1, 1) := by decide +kernel
theorem dX12_latest_49 : decode cX12_latest 49 = .ok (.isub, 1) := by decide +kernel
theorem dX12_latest_50 : decode cX12_latest 50 = .ok (.goto 17, 3) := by decide +kernel
theorem dX12_latest_53 : decode cX12_latest 53 = .ok (.iload_n 1, 1) := by decide +kernel
theorem dX12_latest_54 : decode cX12_latest 54 = .ok (.bipush 12, 2) := by decide +kernel
theorem dX12_latest_56 : decode cX12_latest 56 = .ok (.if_icmp .ge 8, 3) := by decide +kernel
theorem dX12_latest_59 : decode cX12_latest 59 = .ok (.bipush 8, 2) := by decide +kernel
theorem dX12_latest_61 : decode cX12_latest 61 = .ok (.goto 6, 3) := by decide +kernel
theorem dX12_latest_64 : decode cX12_latest 64 = .ok (.iload_n 1, 1) := by decide +kernel
theorem dX12_latest_65 : decode cX12_latest 65 = .ok (.iconst 3, 1) := by decide +kernel
theorem dX12_latest_66 : decode cX12_latest 66 = .ok (.isub, 1) := by decide +kernel
theorem dX12_latest_67 : decode cX12_latest 67 = .ok (.ireturn, 1) := by decide +kernel
theorem dX12_winders_0 : decode cX12_winders 0 = .ok (.iconst 0, 1) := by decide +kernel
theorem dX12_winders_1 : decode cX12_winders 1 = .ok (.istore_n 1, 1) := by decide +kernel
theorem dX12_winders_2 : decode cX12_winders 2 = .ok (.aload_n 0, 1) := by decide +kernel
theorem dX12_winders_3 : decode cX12_winders 3 = .ok (.getfield 11, 3) := by decide +kernel
theorem dX12_winders_6 : decode cX12_winders 6 = .ok (.bipush 18, 2) := by decide +kernel
theorem dX12_winders_8 : decode cX12_winders 8 = .ok (.iaload, 1) := by decide +kernel
theorem dX12_winders_9 : decode cX12_winders 9 = .ok (.istore_n 2, 1) := by decide +kernel
theorem dX12_winders_10 : decode cX12_winders 10 = .ok (.iload_n 2, 1) := by decide +kernel
theorem dX12_winders_11 : decode cX12_winders 11 = .ok (.ifCond .lt 24, 3) := by decide +kernel
theorem dX12_winders_14 : decode cX12_winders 14 = .ok (.iinc 1 1, 3) := by decide +kernel
theorem dX12_winders_17 : decode cX12_winders 17 = .ok (.aload_n 0, 1) := by decide +kernel
theorem dX12_winders_18 : decode cX12_winders 18 = .ok (.getfield 11, 3) := by decide +kernel
theorem dX12_winders_21 : decode cX12_winders 21 = .ok (.sipush 3960, 3) := by decide +kernel
theorem dX12_winders_24 : decode cX12_winders 24 = .ok (.iconst 4, 1) := by decide +kernel
theorem dX12_winders_25 : decode cX12_winders 25 = .ok (.iload_n 2, 1) := by decide +kernel
theorem dX12_winders_26 : decode cX12_winders 26 = .ok (.imul, 1) := by decide +kernel
theorem dX12_winders_27 : decode cX12_winders 27 = .ok (.iadd, 1) := by decide +kernel
theorem dX12_winders_28 : decode cX12_winders 28 = .ok (.iconst 2, 1) := by decide +kernel
theorem dX12_winders_29 : decode cX12_winders 29 = .ok (.iadd, 1) := by decide +kernel
theorem dX12_winders_30 : decode cX12_winders 30 = .ok (.iaload, 1) := by decide +kernel
theorem dX12_winders_31 : decode cX12_winders 31 = .ok (.istore_n 2, 1) := by decide +kernel
theorem dX12_winders_32 : decode cX12_winders 32 = .ok (.goto (-22), 3) := by decide +kernel
theorem dX12_winders_35 : decode cX12_winders 35 = .ok (.iload_n 1, 1) := by decide +kernel
theorem dX12_winders_36 : decode cX12_winders 36 = .ok (.ireturn, 1) := by decide +kernel
theorem dX12_toldOf_0 : decode cX12_toldOf 0 = .ok (.iload_n 1, 1) := by decide +kernel
theorem dX12_toldOf_1 : decode cX12_toldOf 1 = .ok (.tableswitch 106 0 4 #[35, 44, 79, 88, 97], 35) := by decide +kernel
theorem dX12_toldOf_36 : decode cX12_toldOf 36 = .ok (.aload_n 0, 1) := by decide +kernel
theorem dX12_toldOf_37 : decode cX12_toldOf 37 = .ok (.getfield 11, 3) := by decide +kernel
theorem dX12_toldOf_40 : decode cX12_toldOf 40 = .ok (.bipush 7, 2) := by decide +kernel
theorem dX12_toldOf_42 : decode cX12_toldOf 42 = .ok (.iaload, 1) := by decide +kernel
theorem dX12_toldOf_43 : decode cX12_toldOf 43 = .ok (.i2l, 1) := by decide +kernel
theorem dX12_toldOf_44 : decode cX12_toldOf 44 = .ok (.lreturn, 1) := by decide +kernel
theorem dX12_toldOf_45 : decode cX12_toldOf 45 = .ok (.aload_n 0, 1) := by decide +kernel
theorem dX12_toldOf_46 : decode cX12_toldOf 46 = .ok (.getfield 11, 3) := by decide +kernel
theorem dX12_toldOf_49 : decode cX12_toldOf 49 = .ok (.bipush 7, 2) := by decide +kernel
theorem dX12_toldOf_51 : decode cX12_toldOf 51 = .ok (.iaload, 1) := by decide +kernel
theorem dX12_toldOf_52 : decode cX12_toldOf 52 = .ok (.ifCond .ne 24, 3) := by decide +kernel
theorem dX12_toldOf_55 : decode cX12_toldOf 55 = .ok (.aload_n 0, 1) := by decide +kernel
theorem dX12_toldOf_56 : decode cX12_toldOf 56 = .ok (.getfield 11, 3) := by decide +kernel
theorem dX12_toldOf_59 : decode cX12_toldOf 59 = .ok (.bipush 8, 2) := by decide +kernel
theorem dX12_toldOf_61 : decode cX12_toldOf 61 = .ok (.iaload, 1) := by decide +kernel
theorem dX12_toldOf_62 : decode cX12_toldOf 62 = .ok (.ifCond .ne 14, 3) := by decide +kernel
theorem dX12_toldOf_65 : decode cX12_toldOf 65 = .ok (.aload_n 0, 1) := by decide +kernel
theorem dX12_toldOf_66 : decode cX12_toldOf 66 = .ok (.getfield 11, 3) := by decide +kernel
theorem dX12_toldOf_69 : decode cX12_toldOf 69 = .ok (.bipush 9, 2) := by decide +kernel
theorem dX12_toldOf_71 : decode cX12_toldOf 71 = .ok (.iaload, 1) := by decide +kernel
theorem dX12_toldOf_72 : decode cX12_toldOf 72 = .ok (.i2l, 1) := by decide +kernel
theorem dX12_toldOf_73 : decode cX12_toldOf 73 = .ok (.goto 6, 3) := by decide +kernel
theorem dX12_toldOf_76 : decode cX12_toldOf 76 = .ok (.ldc2_w 134, 3) := by decide +kernel
theorem dX12_toldOf_79 : decode cX12_toldOf 79 = .ok (.lreturn, 1) := by decide +kernel
theorem dX12_toldOf_80 : decode cX12_toldOf 80 = .ok (.aload_n 0, 1) := by decide +kernel
theorem dX12_toldOf_81 : decode cX12_toldOf 81 = .ok (.getfield 11, 3) := by decide +kernel
theorem dX12_toldOf_84 : decode cX12_toldOf 84 = .ok (.bipush 10, 2) := by decide +kernel
theorem dX12_toldOf_86 : decode cX12_toldOf 86 = .ok (.iaload, 1) := by decide +kernel
theorem dX12_toldOf_87 : decode cX12_toldOf 87 = .ok (.i2l, 1) := by decide +kernel
theorem dX12_toldOf_88 : decode cX12_toldOf 88 = .ok (.lreturn, 1) := by decide +kernel
theorem dX12_toldOf_89 : decode cX12_toldOf 89 = .ok (.aload_n 0, 1) := by decide +kernel
theorem dX12_toldOf_90 : decode cX12_toldOf 90 = .ok (.getfield 11, 3) := by decide +kernel
theorem dX12_toldOf_93 : decode cX12_toldOf 93 = .ok (.bipush 11, 2) := by decide +kernel
theorem dX12_toldOf_95 : decode cX12_toldOf 95 = .ok (.iaload, 1) := by decide +kernel
theorem dX12_toldOf_96 : decode cX12_toldOf 96 = .ok (.i2l, 1) := by decide +kernel
theorem dX12_toldOf_97 : decode cX12_toldOf 97 = .ok (.lreturn, 1) := by decide +kernel
theorem dX12_toldOf_98 : decode cX12_toldOf 98 = .ok (.aload_n 0, 1) := by decide +kernel
theorem dX12_toldOf_99 : decode cX12_toldOf 99 = .ok (.getfield 11, 3) := by decide +kernel
theorem dX12_toldOf_102 : decode cX12_toldOf 102 = .ok (.bipush 12, 2) := by decide +kernel
theorem dX12_toldOf_104 : decode cX12_toldOf 104 = .ok (.iaload, 1) := by decide +kernel
theorem dX12_toldOf_105 : decode cX12_toldOf 105 = .ok (.i2l, 1) := by decide +kernel
theorem dX12_toldOf_106 : decode cX12_toldOf 106 = .ok (.lreturn, 1) := by decide +kernel
theorem dX12_toldOf_107 : decode cX12_toldOf 107 = .ok (.iload_n 1, 1) := by decide +kernel
theorem dX12_toldOf_108 : decode cX12_toldOf 108 = .ok (.i2l, 1) := by decide +kernel
theorem dX12_toldOf_109 : decode cX12_toldOf 109 = .ok (.ldc2_w 199, 3) := by decide +kernel
theorem dX12_toldOf_112 : decode cX12_toldOf 112 = .ok (.bipush 39, 2) := by decide +kernel
theorem dX12_toldOf_114 : decode cX12_toldOf 114 = .ok (.aload_n 0, 1) := by decide +kernel
theorem dX12_toldOf_115 : decode cX12_toldOf 115 = .ok (.getfield 11, 3) := by decide +kernel
theorem dX12_toldOf_118 : decode cX12_toldOf 118 = .ok (.bipush 12, 2) := by decide +kernel
theorem dX12_toldOf_120 : decode cX12_toldOf 120 = .ok (.iaload, 1) := by decide +kernel
theorem dX12_toldOf_121 : decode cX12_toldOf 121 = .ok (.iadd, 1) := by decide +kernel
theorem dX12_toldOf_122 : decode cX12_toldOf 122 = .ok (.i2l, 1) := by decide +kernel
theorem dX12_toldOf_123 : decode cX12_toldOf 123 = .ok (.invokestatic 54, 3) := by decide +kernel
theorem dX12_toldOf_126 : decode cX12_toldOf 126 = .ok (.ifCond .eq 19, 3) := by decide +kernel
theorem dX12_toldOf_129 : decode cX12_toldOf 129 = .ok (.aload_n 0, 1) := by decide +kernel
theorem dX12_toldOf_130 : decode cX12_toldOf 130 = .ok (.getfield 11, 3) := by decide +kernel
theorem dX12_toldOf_133 : decode cX12_toldOf 133 = .ok (.bipush 74, 2) := by decide +kernel
theorem dX12_toldOf_135 : decode cX12_toldOf 135 = .ok (.iload_n 1, 1) := by decide +kernel
theorem dX12_toldOf_136 : decode cX12_toldOf 136 = .ok (.iadd, 1) := by decide +kernel
theorem dX12_toldOf_137 : decode cX12_toldOf 137 = .ok (.bipush 40, 2) := by decide +kernel
theorem dX12_toldOf_139 : decode cX12_toldOf 139 = .ok (.isub, 1) := by decide +kernel
theorem dX12_toldOf_140 : decode cX12_toldOf 140 = .ok (.iaload, 1) := by decide +kernel
theorem dX12_toldOf_141 : decode cX12_toldOf 141 = .ok (.i2l, 1) := by decide +kernel
theorem dX12_toldOf_142 : decode cX12_toldOf 142 = .ok (.goto 6, 3) := by decide +kernel
theorem dX12_toldOf_145 : decode cX12_toldOf 145 = .ok (.ldc2_w 134, 3) := by decide +kernel
theorem dX12_toldOf_148 : decode cX12_toldOf 148 = .ok (.lreturn, 1) := by decide +kernel
theorem dX12_told_0 : decode cX12_told 0 = .ok (.iload_n 1, 1) := by decide +kernel
theorem dX12_told_1 : decode cX12_told 1 = .ok (.i2l, 1) := by decide +kernel
theorem dX12_told_2 : decode cX12_told 2 = .ok (.ldc2_w 201, 3) := by decide +kernel
theorem dX12_told_5 : decode cX12_told 5 = .ok (.ldc2_w 203, 3) := by decide +kernel
theorem dX12_told_8 : decode cX12_told 8 = .ok (.invokestatic 54, 3) := by decide +kernel
theorem dX12_told_11 : decode cX12_told 11 = .ok (.ifCond .eq 76, 3) := by decide +kernel
theorem dX12_told_14 : decode cX12_told 14 = .ok (.aload_n 0, 1) := by decide +kernel
theorem dX12_told_15 : decode cX12_told 15 = .ok (.getfield 11, 3) := by decide +kernel
theorem dX12_told_18 : decode cX12_told 18 = .ok (.bipush 7, 2) := by decide +kernel
theorem dX12_told_20 : decode cX12_told 20 = .ok (.iaload, 1) := by decide +kernel
theorem dX12_told_21 : decode cX12_told 21 = .ok (.bipush (-5), 2) := by decide +kernel
theorem dX12_told_23 : decode cX12_told 23 = .ok (.if_icmp .eq 7, 3) := by decide +kernel
theorem dX12_told_26 : decode cX12_told 26 = .ok (.ldc2_w 134, 3) := by decide +kernel
theorem dX12_told_29 : decode cX12_told 29 = .ok (.lreturn, 1) := by decide +kernel
theorem dX12_told_30 : decode cX12_told 30 = .ok (.iload_n 1, 1) := by decide +kernel
theorem dX12_told_31 : decode cX12_told 31 = .ok (.iconst 5, 1) := by decide +kernel
theorem dX12_told_32 : decode cX12_told 32 = .ok (.if_icmp .ne 18, 3) := by decide +kernel
theorem dX12_told_35 : decode cX12_told 35 = .ok (.aload_n 0, 1) := by decide +kernel
theorem dX12_told_36 : decode cX12_told 36 = .ok (.aload_n 0, 1) := by decide +kernel
theorem dX12_told_37 : decode cX12_told 37 = .ok (.getfield 11, 3) := by decide +kernel
theorem dX12_told_40 : decode cX12_told 40 = .ok (.bipush 17, 2) := by decide +kernel
theorem dX12_told_42 : decode cX12_told 42 = .ok (.iaload, 1) := by decide +kernel
theorem dX12_told_43 : decode cX12_told 43 = .ok (.invokevirtual 136, 3) := by decide +kernel
theorem dX12_told_46 : decode cX12_told 46 = .ok (.i2l, 1) := by decide +kernel
theorem dX12_told_47 : decode cX12_told 47 = .ok (.goto 39, 3) := by decide +kernel
theorem dX12_told_50 : decode cX12_told 50 = .ok (.iload_n 1, 1) := by decide +kernel
theorem dX12_told_51 : decode cX12_told 51 = .ok (.bipush 6, 2) := by decide +kernel
theorem dX12_told_53 : decode cX12_told 53 = .ok (.if_icmp .ne 11, 3) := by decide +kernel
theorem dX12_told_56 : decode cX12_told 56 = .ok (.aload_n 0, 1) := by decide +kernel
theorem dX12_told_57 : decode cX12_told 57 = .ok (.invokevirtual 205, 3) := by decide +kernel
theorem dX12_told_60 : decode cX12_told 60 = .ok (.i2l, 1) := by decide +kernel
theorem dX12_told_61 : decode cX12_told 61 = .ok (.goto 25, 3) := by decide +kernel
theorem dX12_told_64 : decode cX12_told 64 = .ok (.iload_n 1, 1) := by decide +kernel
theorem dX12_told_65 : decode cX12_told 65 = .ok (.bipush 7, 2) := by decide +kernel
theorem dX12_told_67 : decode cX12_told 67 = .ok (.if_icmp .ne 14, 3) := by decide +kernel
theorem dX12_told_70 : decode cX12_told 70 = .ok (.aload_n 0, 1) := by decide +kernel
theorem dX12_told_71 : decode cX12_told 71 = .ok (.getfield 11, 3) := by decide +kernel
theorem dX12_told_74 : decode cX12_told 74 = .ok (.bipush 13, 2) := by decide +kernel
theorem dX12_told_76 : decode cX12_told 76 = .ok (.iaload, 1) := by decide +kernel
theorem dX12_told_77 : decode cX12_told 77 = .ok (.i2l, 1) := by decide +kernel
theorem dX12_told_78 : decode cX12_told 78 = .ok (.goto 8, 3) := by decide +kernel
theorem dX12_told_81 : decode cX12_told 81 = .ok (.aload_n 0, 1) := by decide +kernel
theorem dX12_told_82 : decode cX12_told 82 = .ok (.invokevirtual 208, 3) := by decide +kernel
theorem dX12_told_85 : decode cX12_told 85 = .ok (.i2l, 1) := by decide +kernel
theorem dX12_told_86 : decode cX12_told 86 = .ok (.lreturn, 1) := by decide +kernel
theorem dX12_told_87 : decode cX12_told 87 = .ok (.iload_n 1, 1) := by decide +kernel
theorem dX12_told_88 : decode cX12_told 88 = .ok (.i2l, 1) := by decide +kernel
theorem dX12_told_89 : decode cX12_told 89 = .ok (.ldc2_w 211, 3) := by decide +kernel
theorem dX12_told_92 : decode cX12_told 92 = .ok (.ldc2_w 213, 3) := by decide +kernel
theorem dX12_told_95 : decode cX12_told 95 = .ok (.invokestatic 54, 3) := by decide +kernel
theorem dX12_told_98 : decode cX12_told 98 = .ok (.ifCond .eq 16, 3) := by decide +kernel
theorem dX12_told_101 : decode cX12_told 101 = .ok (.aload_n 0, 1) := by decide +kernel
theorem dX12_told_102 : decode cX12_told 102 = .ok (.getfield 11, 3) := by decide +kernel
theorem dX12_told_105 : decode cX12_told 105 = .ok (.iconst 0, 1) := by decide +kernel
theorem dX12_told_106 : decode cX12_told 106 = .ok (.iload_n 1, 1) := by decide +kernel
theorem dX12_told_107 : decode cX12_told 107 = .ok (.iadd, 1) := by decide +kernel
theorem dX12_told_108 : decode cX12_told 108 = .ok (.bipush 10, 2) := by decide +kernel
theorem dX12_told_110 : decode cX12_told 110 = .ok (.isub, 1) := by decide +kernel
theorem dX12_told_111 : decode cX12_told 111 = .ok (.iaload, 1) := by decide +kernel
theorem dX12_told_112 : decode cX12_told 112 = .ok (.i2l, 1) := by decide +kernel
theorem dX12_told_113 : decode cX12_told 113 = .ok (.lreturn, 1) := by decide +kernel
theorem dX12_told_114 : decode cX12_told 114 = .ok (.iload_n 1, 1) := by decide +kernel
theorem dX12_told_115 : decode cX12_told 115 = .ok (.i2l, 1) := by decide +kernel
theorem dX12_told_116 : decode cX12_told 116 = .ok (.ldc2_w 215, 3) := by decide +kernel
theorem dX12_told_119 : decode cX12_told 119 = .ok (.ldc2_w 217, 3) := by decide +kernel
theorem dX12_told_122 : decode cX12_told 122 = .ok (.invokestatic 54, 3) := by decide +kernel
theorem dX12_told_125 : decode cX12_told 125 = .ok (.ifCond .eq 18, 3) := by decide +kernel
theorem dX12_told_128 : decode cX12_told 128 = .ok (.aload_n 0, 1) := by decide +kernel
theorem dX12_told_129 : decode cX12_told 129 = .ok (.getfield 11, 3) := by decide +kernel
theorem dX12_told_132 : decode cX12_told 132 = .ok (.iconst 4, 1) := by decide +kernel
theorem dX12_told_133 : decode cX12_told 133 = .ok (.iload_n 1, 1) := by decide +kernel
theorem dX12_told_134 : decode cX12_told 134 = .ok (.iadd, 1) := by decide +kernel
theorem dX12_told_135 : decode cX12_told 135 = .ok (.bipush 20, 2) := by decide +kernel
theorem dX12_told_137 : decode cX12_told 137 = .ok (.isub, 1) := by decide +kernel
theorem dX12_told_138 : decode cX12_told 138 = .ok (.iaload, 1) := by decide +kernel
theorem dX12_told_139 : decode cX12_told 139 = .ok (.i2l, 1) := by decide +kernel
theorem dX12_told_140 : decode cX12_told 140 = .ok (.goto 8, 3) := by decide +kernel
theorem dX12_told_143 : decode cX12_told 143 = .ok (.aload_n 0, 1) := by decide +kernel
theorem dX12_told_144 : decode cX12_told 144 = .ok (.iload_n 1, 1) := by decide +kernel
theorem dX12_told_145 : decode cX12_told 145 = .ok (.invokevirtual 219, 3) := by decide +kernel
theorem dX12_told_148 : decode cX12_told 148 = .ok (.lreturn, 1) := by decide +kernel
theorem dX12_on_0 : decode cX12_on 0 = .ok (.aload_n 0, 1) := by decide +kernel
theorem dX12_on_1 : decode cX12_on 1 = .ok (.iload_n 1, 1) := by decide +kernel
theorem dX12_on_2 : decode cX12_on 2 = .ok (.invokevirtual 124, 3) := by decide +kernel
theorem dX12_on_5 : decode cX12_on 5 = .ok (.ifCond .eq 17, 3) := by decide +kernel
theorem dX12_on_8 : decode cX12_on 8 = .ok (.iload_n 2, 1) := by decide +kernel
theorem dX12_on_9 : decode cX12_on 9 = .ok (.i2l, 1) := by decide +kernel
theorem dX12_on_10 : decode cX12_on 10 = .ok (.ldc2_w 201, 3) := by decide +kernel
theorem dX12_on_13 : decode cX12_on 13 = .ok (.ldc2_w 223, 3) := by decide +kernel
theorem dX12_on_16 : decode cX12_on 16 = .ok (.invokestatic 54, 3) := by decide +kernel
theorem dX12_on_19 : decode cX12_on 19 = .ok (.ifCond .eq 7, 3) := by decide +kernel
theorem dX12_on_22 : decode cX12_on 22 = .ok (.ldc2_w 134, 3) := by decide +kernel
theorem dX12_on_25 : decode cX12_on 25 = .ok (.lreturn, 1) := by decide +kernel
theorem dX12_on_26 : decode cX12_on 26 = .ok (.aload_n 0, 1) := by decide +kernel
theorem dX12_on_27 : decode cX12_on 27 = .ok (.getfield 11, 3) := by decide +kernel
theorem dX12_on_30 : decode cX12_on 30 = .ok (.aload_n 0, 1) := by decide +kernel
theorem dX12_on_31 : decode cX12_on 31 = .ok (.getfield 15, 3) := by decide +kernel
theorem dX12_on_34 : decode cX12_on 34 = .ok (.invokestatic 225, 3) := by decide +kernel
theorem dX12_on_37 : decode cX12_on 37 = .ok (.aload_n 0, 1) := by decide +kernel
theorem dX12_on_38 : decode cX12_on 38 = .ok (.iload_n 1, 1) := by decide +kernel
theorem dX12_on_39 : decode cX12_on 39 = .ok (.invokevirtual 196, 3) := by decide +kernel
theorem dX12_on_42 : decode cX12_on 42 = .ok (.aload_n 0, 1) := by decide +kernel
theorem dX12_on_43 : decode cX12_on 43 = .ok (.iload_n 2, 1) := by decide +kernel
theorem dX12_on_44 : decode cX12_on 44 = .ok (.invokevirtual 219, 3) := by decide +kernel
theorem dX12_on_47 : decode cX12_on 47 = .ok (.lstore_n 3, 1) := by decide +kernel
theorem dX12_on_48 : decode cX12_on 48 = .ok (.aload_n 0, 1) := by decide +kernel
theorem dX12_on_49 : decode cX12_on 49 = .ok (.getfield 15, 3) := by decide +kernel
theorem dX12_on_52 : decode cX12_on 52 = .ok (.aload_n 0, 1) := by decide +kernel
theorem dX12_on_53 : decode cX12_on 53 = .ok (.getfield 11, 3) := by decide +kernel
theorem dX12_on_56 : decode cX12_on 56 = .ok (.invokestatic 225, 3) := by decide +kernel
theorem dX12_on_59 : decode cX12_on 59 = .ok (.lload_n 3, 1) := by decide +kernel
theorem dX12_on_60 : decode cX12_on 60 = .ok (.lreturn, 1) := by decide +kernel
theorem dX12_see_0 : decode cX12_see 0 = .ok (.iload_n 1, 1) := by decide +kernel
theorem dX12_see_1 : decode cX12_see 1 = .ok (.iconst (-1), 1) := by decide +kernel
theorem dX12_see_2 : decode cX12_see 2 = .ok (.if_icmp .ne 13, 3) := by decide +kernel
theorem dX12_see_5 : decode cX12_see 5 = .ok (.aload_n 0, 1) := by decide +kernel
theorem dX12_see_6 : decode cX12_see 6 = .ok (.getfield 11, 3) := by decide +kernel
theorem dX12_see_9 : decode cX12_see 9 = .ok (.bipush 25, 2) := by decide +kernel
theorem dX12_see_11 : decode cX12_see 11 = .ok (.iconst 0, 1) := by decide +kernel
theorem dX12_see_12 : decode cX12_see 12 = .ok (.iastore, 1) := by decide +kernel
theorem dX12_see_13 : decode cX12_see 13 = .ok (.iconst 0, 1) := by decide +kernel
theorem dX12_see_14 : decode cX12_see 14 = .ok (.ireturn, 1) := by decide +kernel
theorem dX12_see_15 : decode cX12_see 15 = .ok (.iload_n 1, 1) := by decide +kernel
theorem dX12_see_16 : decode cX12_see 16 = .ok (.i2l, 1) := by decide +kernel
theorem dX12_see_17 : decode cX12_see 17 = .ok (.lconst 0, 1) := by decide +kernel
theorem dX12_see_18 : decode cX12_see 18 = .ok (.ldc2_w 223, 3) := by decide +kernel
theorem dX12_see_21 : decode cX12_see 21 = .ok (.invokestatic 54, 3) := by decide +kernel
theorem dX12_see_24 : decode cX12_see 24 = .ok (.ifCond .ne 6, 3) := by decide +kernel
theorem dX12_see_27 : decode cX12_see 27 = .ok (.bipush (-2), 2) := by decide +kernel
theorem dX12_see_29 : decode cX12_see 29 = .ok (.ireturn, 1) := by decide +kernel
theorem dX12_see_30 : decode cX12_see 30 = .ok (.aload_n 0, 1) := by decide +kernel
theorem dX12_see_31 : decode cX12_see 31 = .ok (.getfield 11, 3) := by decide +kernel
theorem dX12_see_34 : decode cX12_see 34 = .ok (.bipush 25, 2) := by decide +kernel
theorem dX12_see_36 : decode cX12_see 36 = .ok (.iaload, 1) := by decide +kernel
theorem dX12_see_37 : decode cX12_see 37 = .ok (.istore_n 3, 1) := by decide +kernel
theorem dX12_see_38 : decode cX12_see 38 = .ok (.iload_n 3, 1) := by decide +kernel
theorem dX12_see_39 : decode cX12_see 39 = .ok (.iconst 5, 1) := by decide +kernel
theorem dX12_see_40 : decode cX12_see 40 = .ok (.if_icmp .ne 6, 3) := by decide +kernel
theorem dX12_see_43 : decode cX12_see 43 = .ok (.bipush (-4), 2) := by decide +kernel
theorem dX12_see_45 : decode cX12_see 45 = .ok (.ireturn, 1) := by decide +kernel
theorem dX12_see_46 : decode cX12_see 46 = .ok (.aload_n 0, 1) := by decide +kernel
theorem dX12_see_47 : decode cX12_see 47 = .ok (.getfield 11, 3) := by decide +kernel
theorem dX12_see_50 : decode cX12_see 50 = .ok (.bipush 28, 2) := by decide +kernel
theorem dX12_see_52 : decode cX12_see 52 = .ok (.iconst 2, 1) := by decide +kernel
theorem dX12_see_53 : decode cX12_see 53 = .ok (.iload_n 3, 1) := by decide +kernel
theorem dX12_see_54 : decode cX12_see 54 = .ok (.imul, 1) := by decide +kernel
theorem dX12_see_55 : decode cX12_see 55 = .ok (.iadd, 1) := by decide +kernel
theorem dX12_see_56 : decode cX12_see 56 = .ok (.iload_n 1, 1) := by decide +kernel
theorem dX12_see_57 : decode cX12_see 57 = .ok (.iastore, 1) := by decide +kernel
theorem dX12_see_58 : decode cX12_see 58 = .ok (.aload_n 0, 1) := by decide +kernel
theorem dX12_see_59 : decode cX12_see 59 = .ok (.getfield 11, 3) := by decide +kernel
theorem dX12_see_62 : decode cX12_see 62 = .ok (.bipush 28, 2) := by decide +kernel
theorem dX12_see_64 : decode cX12_see 64 = .ok (.iconst 2, 1) := by decide +kernel
theorem dX12_see_65 : decode cX12_see 65 = .ok (.iload_n 3, 1) := by decide +kernel
theorem dX12_see_66 : decode cX12_see 66 = .ok (.imul, 1) := by decide +kernel
theorem dX12_see_67 : decode cX12_see 67 = .ok (.iadd, 1) := by decide +kernel
theorem dX12_see_68 : decode cX12_see 68 = .ok (.iconst 1, 1) := by decide +kernel
theorem dX12_see_69 : decode cX12_see 69 = .ok (.iadd, 1) := by decide +kernel
theorem dX12_see_70 : decode cX12_see 70 = .ok (.iload_n 2, 1) := by decide +kernel
theorem dX12_see_71 : decode cX12_see 71 = .ok (.iastore, 1) := by decide +kernel
theorem dX12_see_72 : decode cX12_see 72 = .ok (.aload_n 0, 1) := by decide +kernel
theorem dX12_see_73 : decode cX12_see 73 = .ok (.getfield 11, 3) := by decide +kernel
theorem dX12_see_76 : decode cX12_see 76 = .ok (.bipush 25, 2) := by decide +kernel
theorem dX12_see_78 : decode cX12_see 78 = .ok (.iload_n 3, 1) := by decide +kernel
theorem dX12_see_79 : decode cX12_see 79 = .ok (.iconst 1, 1) := by decide +kernel
theorem dX12_see_80 : decode cX12_see 80 = .ok (.iadd, 1) := by decide +kernel
theorem dX12_see_81 : decode cX12_see 81 = .ok (.iastore, 1) := by decide +kernel
theorem dX12_see_82 : decode cX12_see 82 = .ok (.iload_n 3, 1) := by decide +kernel
theorem dX12_see_83 : decode cX12_see 83 = .ok (.iconst 1, 1) := by decide +kernel
theorem dX12_see_84 : decode cX12_see 84 = .ok (.iadd, 1) := by decide +kernel
theorem dX12_see_85 : decode cX12_see 85 = .ok (.ireturn, 1) := by decide +kernel
theorem dX12_isSeen_0 : decode cX12_isSeen 0 = .ok (.iconst 0, 1) := by decide +kernel
theorem dX12_isSeen_1 : decode cX12_isSeen 1 = .ok (.istore_n 1, 1) := by decide +kernel
theorem dX12_isSeen_2 : decode cX12_isSeen 2 = .ok (.iload_n 1, 1) := by decide +kernel
theorem dX12_isSeen_3 : decode cX12_isSeen 3 = .ok (.aload_n 0, 1) := by decide +kernel
theorem dX12_isSeen_4 : decode cX12_isSeen 4 = .ok (.getfield 11, 3) := by decide +kernel
theorem dX12_isSeen_7 : decode cX12_isSeen 7 = .ok (.bipush 25, 2) := by decide +kernel
theorem dX12_isSeen_9 : decode cX12_isSeen 9 = .ok (.iaload, 1) := by decide +kernel
theorem dX12_isSeen_10 : decode cX12_isSeen 10 = .ok (.if_icmp .ge 59, 3) := by decide +kernel
theorem dX12_isSeen_13 : decode cX12_isSeen 13 = .ok (.aload_n 0, 1) := by decide +kernel
theorem dX12_isSeen_14 : decode cX12_isSeen 14 = .ok (.getfield 11, 3) := by decide +kernel
theorem dX12_isSeen_17 : decode cX12_isSeen 17 = .ok (.bipush 28, 2) := by decide +kernel
theorem dX12_isSeen_19 : decode cX12_isSeen 19 = .ok (.iconst 2, 1) := by decide +kernel
theorem dX12_isSeen_20 : decode cX12_isSeen 20 = .ok (.iload_n 1, 1) := by decide +kernel
theorem dX12_isSeen_21 : decode cX12_isSeen 21 = .ok (.imul, 1) := by decide +kernel
theorem dX12_isSeen_22 : decode cX12_isSeen 22 = .ok (.iadd, 1) := by decide +kernel
theorem dX12_isSeen_23 : decode cX12_isSeen 23 = .ok (.iaload, 1) := by decide +kernel
theorem dX12_isSeen_24 : decode cX12_isSeen 24 = .ok (.istore_n 2, 1) := by decide +kernel
theorem dX12_isSeen_25 : decode cX12_isSeen 25 = .ok (.iload_n 2, 1) := by decide +kernel
theorem dX12_isSeen_26 : decode cX12_isSeen 26 = .ok (.aload_n 0, 1) := by decide +kernel
theorem dX12_isSeen_27 : decode cX12_isSeen 27 = .ok (.getfield 11, 3) := by decide +kernel
theorem dX12_isSeen_30 : decode cX12_isSeen 30 = .ok (.bipush 12, 2) := by decide +kernel
theorem dX12_isSeen_32 : decode cX12_isSeen 32 = .ok (.iaload, 1) := by decide +kernel
theorem dX12_isSeen_33 : decode cX12_isSeen 33 = .ok (.if_icmp .ge 28, 3) := by decide +kernel
theorem dX12_isSeen_36 : decode cX12_isSeen 36 = .ok (.aload_n 0, 1) := by decide +kernel
theorem dX12_isSeen_37 : decode cX12_isSeen 37 = .ok (.getfield 11, 3) := by decide +kernel
theorem dX12_isSeen_40 : decode cX12_isSeen 40 = .ok (.bipush 74, 2) := by decide +kernel
theorem dX12_isSeen_42 : decode cX12_isSeen 42 = .ok (.iload_n 2, 1) := by decide +kernel
theorem dX12_isSeen_43 : decode cX12_isSeen 43 = .ok (.iadd, 1) := by decide +kernel
theorem dX12_isSeen_44 : decode cX12_isSeen 44 = .ok (.iaload, 1) := by decide +kernel
theorem dX12_isSeen_45 : decode cX12_isSeen 45 = .ok (.aload_n 0, 1) := by decide +kernel
theorem dX12_isSeen_46 : decode cX12_isSeen 46 = .ok (.getfield 11, 3) := by decide +kernel
theorem dX12_isSeen_49 : decode cX12_isSeen 49 = .ok (.bipush 28, 2) := by decide +kernel
theorem dX12_isSeen_51 : decode cX12_isSeen 51 = .ok (.iconst 2, 1) := by decide +kernel
theorem dX12_isSeen_52 : decode cX12_isSeen 52 = .ok (.iload_n 1, 1) := by decide +kernel
theorem dX12_isSeen_53 : decode cX12_isSeen 53 = .ok (.imul, 1) := by decide +kernel
theorem dX12_isSeen_54 : decode cX12_isSeen 54 = .ok (.iadd, 1) := by decide +kernel
theorem dX12_isSeen_55 : decode cX12_isSeen 55 = .ok (.iconst 1, 1) := by decide +kernel
theorem dX12_isSeen_56 : decode cX12_isSeen 56 = .ok (.iadd, 1) := by decide +kernel
theorem dX12_isSeen_57 : decode cX12_isSeen 57 = .ok (.iaload, 1) := by decide +kernel
theorem dX12_isSeen_58 : decode cX12_isSeen 58 = .ok (.if_icmp .eq 5, 3) := by decide +kernel
theorem dX12_isSeen_61 : decode cX12_isSeen 61 = .ok (.iconst 0, 1) := by decide +kernel
theorem dX12_isSeen_62 : decode cX12_isSeen 62 = .ok (.ireturn, 1) := by decide +kernel
theorem dX12_isSeen_63 : decode cX12_isSeen 63 = .ok (.iinc 1 1, 3) := by decide +kernel
theorem dX12_isSeen_66 : decode cX12_isSeen 66 = .ok (.goto (-64), 3) := by decide +kernel
theorem dX12_isSeen_69 : decode cX12_isSeen 69 = .ok (.iconst 1, 1) := by decide +kernel
theorem dX12_isSeen_70 : decode cX12_isSeen 70 = .ok (.ireturn, 1) := by decide +kernel
theorem dX12_fits_0 : decode cX12_fits 0 = .ok (.aload_n 0, 1) := by decide +kernel
theorem dX12_fits_1 : decode cX12_fits 1 = .ok (.iload_n 1, 1) := by decide +kernel
theorem dX12_fits_2 : decode cX12_fits 2 = .ok (.invokevirtual 124, 3) := by decide +kernel
theorem dX12_fits_5 : decode cX12_fits 5 = .ok (.ifCond .eq 20, 3) := by decide +kernel
theorem dX12_fits_8 : decode cX12_fits 8 = .ok (.iload_n 2, 1) := by decide +kernel
theorem dX12_fits_9 : decode cX12_fits 9 = .ok (.invokestatic 131, 3) := by decide +kernel
theorem dX12_fits_12 : decode cX12_fits 12 = .ok (.ifCond .eq 13, 3) := by decide +kernel
theorem dX12_fits_15 : decode cX12_fits 15 = .ok (.iload_n 3, 1) := by decide +kernel
theorem dX12_fits_16 : decode cX12_fits 16 = .ok (.i2l, 1) := by decide +kernel
theorem dX12_fits_17 : decode cX12_fits 17 = .ok (.lconst 0, 1) := by decide +kernel
theorem dX12_fits_18 : decode cX12_fits 18 = .ok (.lconst 1, 1) := by decide +kernel
theorem dX12_fits_19 : decode cX12_fits 19 = .ok (.invokestatic 54, 3) := by decide +kernel
theorem dX12_fits_22 : decode cX12_fits 22 = .ok (.ifCond .ne 5, 3) := by decide +kernel
theorem dX12_fits_25 : decode cX12_fits 25 = .ok (.iconst (-1), 1) := by decide +kernel
theorem dX12_fits_26 : decode cX12_fits 26 = .ok (.ireturn, 1) := by decide +kernel
theorem dX12_fits_27 : decode cX12_fits 27 = .ok (.iconst 0, 1) := by decide +kernel
theorem dX12_fits_28 : decode cX12_fits 28 = .ok (.istore 4, 2) := by decide +kernel
theorem dX12_fits_30 : decode cX12_fits 30 = .ok (.bipush (-5), 2) := by decide +kernel
theorem dX12_fits_32 : decode cX12_fits 32 = .ok (.istore 5, 2) := by decide +kernel
theorem dX12_fits_34 : decode cX12_fits 34 = .ok (.aload_n 0, 1) := by decide +kernel
theorem dX12_fits_35 : decode cX12_fits 35 = .ok (.getfield 11, 3) := by decide +kernel
theorem dX12_fits_38 : decode cX12_fits 38 = .ok (.aload_n 0, 1) := by decide +kernel
theorem dX12_fits_39 : decode cX12_fits 39 = .ok (.getfield 15, 3) := by decide +kernel
theorem dX12_fits_42 : decode cX12_fits 42 = .ok (.invokestatic 225, 3) := by decide +kernel
theorem dX12_fits_45 : decode cX12_fits 45 = .ok (.bipush 19, 2) := by decide +kernel
theorem dX12_fits_47 : decode cX12_fits 47 = .ok (.istore 6, 2) := by decide +kernel
theorem dX12_fits_49 : decode cX12_fits 49 = .ok (.iload 6, 2) := by decide +kernel
theorem dX12_fits_51 : decode cX12_fits 51 = .ok (.ifCond .lt 49, 3) := by decide +kernel
theorem dX12_fits_54 : decode cX12_fits 54 = .ok (.aload_n 0, 1) := by decide +kernel
theorem dX12_fits_55 : decode cX12_fits 55 = .ok (.getfield 11, 3) := by decide +kernel
theorem dX12_fits_58 : decode cX12_fits 58 = .ok (.iconst 0, 1) := by decide +kernel
theorem dX12_fits_59 : decode cX12_fits 59 = .ok (.iload_n 2, 1) := by decide +kernel
theorem dX12_fits_60 : decode cX12_fits 60 = .ok (.iadd, 1) := by decide +kernel
theorem dX12_fits_61 : decode cX12_fits 61 = .ok (.iload 6, 2) := by decide +kernel
theorem dX12_fits_63 : decode cX12_fits 63 = .ok (.iastore, 1) := by decide +kernel
theorem dX12_fits_64 : decode cX12_fits 64 = .ok (.aload_n 0, 1) := by decide +kernel
theorem dX12_fits_65 : decode cX12_fits 65 = .ok (.iload_n 1, 1) := by decide +kernel
theorem dX12_fits_66 : decode cX12_fits 66 = .ok (.invokevirtual 196, 3) := by decide +kernel
