theorem dX5_isDigit_3 : decode cX5_isDigit 3 = .ok (.if_icmp .lt 13, 3) := by decide +kernel
theorem dX5_isDigit_6 : decode cX5_isDigit 6 = .ok (.iload_n 0, 1) := by decide +kernel
theorem dX5_isDigit_7 : decode cX5_isDigit 7 = .ok (.bipush 57, 2) := by decide +kernel
theorem dX5_isDigit_9 : decode cX5_isDigit 9 = .ok (.if_icmp .gt 7, 3) := by decide +kernel
theorem dX5_isDigit_12 : decode cX5_isDigit 12 = .ok (.iconst 1, 1) := by decide +kernel
theorem dX5_isDigit_13 : decode cX5_isDigit 13 = .ok (.goto 4, 3) := by decide +kernel
theorem dX5_isDigit_16 : decode cX5_isDigit 16 = .ok (.iconst 0, 1) := by decide +kernel
theorem dX5_isDigit_17 : decode cX5_isDigit 17 = .ok (.ireturn, 1) := by decide +kernel
theorem dX5_isLetter_0 : decode cX5_isLetter 0 = .ok (.iload_n 0, 1) := by decide +kernel
theorem dX5_isLetter_1 : decode cX5_isLetter 1 = .ok (.bipush 97, 2) := by decide +kernel
theorem dX5_isLetter_3 : decode cX5_isLetter 3 = .ok (.if_icmp .lt 13, 3) := by decide +kernel
theorem dX5_isLetter_6 : decode cX5_isLetter 6 = .ok (.iload_n 0, 1) := by decide +kernel
theorem dX5_isLetter_7 : decode cX5_isLetter 7 = .ok (.bipush 100, 2) := by decide +kernel
theorem dX5_isLetter_9 : decode cX5_isLetter 9 = .ok (.if_icmp .gt 7, 3) := by decide +kernel
theorem dX5_isLetter_12 : decode cX5_isLetter 12 = .ok (.iconst 1, 1) := by decide +kernel
theorem dX5_isLetter_13 : decode cX5_isLetter 13 = .ok (.goto 4, 3) := by decide +kernel
theorem dX5_isLetter_16 : decode cX5_isLetter 16 = .ok (.iconst 0, 1) := by decide +kernel
theorem dX5_isLetter_17 : decode cX5_isLetter 17 = .ok (.ireturn, 1) := by decide +kernel
theorem dX5_kindBy_0 : decode cX5_kindBy 0 = .ok (.iload_n 0, 1) := by decide +kernel
theorem dX5_kindBy_1 : decode cX5_kindBy 1 = .ok (.tableswitch 287 33 94 #[281, 287, 287, 287, 278, 287, 287, 287, 287, 263, 263, 287, 263, 287, 287, 287, 287, 287, 287, 287, 287, 287, 287, 287, 287, 284, 287, 263, 267, 287, 265, 273, 287, 287, 287, 287, 287, 271, 271, 271, 287, 287, 287, 287, 287, 287, 287, 287, 287, 287, 287, 287, 287, 287, 287, 287, 287, 287, 269, 287, 287, 276], 263) := by decide +kernel
theorem dX5_kindBy_264 : decode cX5_kindBy 264 = .ok (.iconst 0, 1) := by decide +kernel
theorem dX5_kindBy_265 : decode cX5_kindBy 265 = .ok (.ireturn, 1) := by decide +kernel
theorem dX5_kindBy_266 : decode cX5_kindBy 266 = .ok (.iconst 1, 1) := by decide +kernel
theorem dX5_kindBy_267 : decode cX5_kindBy 267 = .ok (.ireturn, 1) := by decide +kernel
theorem dX5_kindBy_268 : decode cX5_kindBy 268 = .ok (.iconst 2, 1) := by decide +kernel
theorem dX5_kindBy_269 : decode cX5_kindBy 269 = .ok (.ireturn, 1) := by decide +kernel
theorem dX5_kindBy_270 : decode cX5_kindBy 270 = .ok (.iconst 3, 1) := by decide +kernel
theorem dX5_kindBy_271 : decode cX5_kindBy 271 = .ok (.ireturn, 1) := by decide +kernel
theorem dX5_kindBy_272 : decode cX5_kindBy 272 = .ok (.iconst 4, 1) := by decide +kernel
theorem dX5_kindBy_273 : decode cX5_kindBy 273 = .ok (.ireturn, 1) := by decide +kernel
theorem dX5_kindBy_274 : decode cX5_kindBy 274 = .ok (.bipush 13, 2) := by decide +kernel
theorem dX5_kindBy_276 : decode cX5_kindBy 276 = .ok (.ireturn, 1) := by decide +kernel
theorem dX5_kindBy_277 : decode cX5_kindBy 277 = .ok (.iconst 5, 1) := by decide +kernel
theorem dX5_kindBy_278 : decode cX5_kindBy 278 = .ok (.ireturn, 1) := by decide +kernel
theorem dX5_kindBy_279 : decode cX5_kindBy 279 = .ok (.bipush 8, 2) := by decide +kernel
theorem dX5_kindBy_281 : decode cX5_kindBy 281 = .ok (.ireturn, 1) := by decide +kernel
theorem dX5_kindBy_282 : decode cX5_kindBy 282 = .ok (.bipush 6, 2) := by decide +kernel
theorem dX5_kindBy_284 : decode cX5_kindBy 284 = .ok (.ireturn, 1) := by decide +kernel
theorem dX5_kindBy_285 : decode cX5_kindBy 285 = .ok (.bipush 7, 2) := by decide +kernel
theorem dX5_kindBy_287 : decode cX5_kindBy 287 = .ok (.ireturn, 1) := by decide +kernel
theorem dX5_kindBy_288 : decode cX5_kindBy 288 = .ok (.iconst (-1), 1) := by decide +kernel
theorem dX5_kindBy_289 : decode cX5_kindBy 289 = .ok (.ireturn, 1) := by decide +kernel
theorem dX5_howMany_0 : decode cX5_howMany 0 = .ok (.iload_n 0, 1) := by decide +kernel
theorem dX5_howMany_1 : decode cX5_howMany 1 = .ok (.tableswitch 55 0 8 #[53, 51, 53, 55, 55, 55, 55, 55, 51], 51) := by decide +kernel
theorem dX5_howMany_52 : decode cX5_howMany 52 = .ok (.iconst 3, 1) := by decide +kernel
theorem dX5_howMany_53 : decode cX5_howMany 53 = .ok (.ireturn, 1) := by decide +kernel
theorem dX5_howMany_54 : decode cX5_howMany 54 = .ok (.iconst 2, 1) := by decide +kernel
theorem dX5_howMany_55 : decode cX5_howMany 55 = .ok (.ireturn, 1) := by decide +kernel
theorem dX5_howMany_56 : decode cX5_howMany 56 = .ok (.iconst 1, 1) := by decide +kernel
theorem dX5_howMany_57 : decode cX5_howMany 57 = .ok (.ireturn, 1) := by decide +kernel
theorem dX6_init_0 : decode cX6_init 0 = .ok (.aload_n 0, 1) := by decide +kernel
theorem dX6_init_1 : decode cX6_init 1 = .ok (.invokespecial 3, 3) := by decide +kernel
theorem dX6_init_4 : decode cX6_init 4 = .ok (.aload_n 0, 1) := by decide +kernel
theorem dX6_init_5 : decode cX6_init 5 = .ok (.bipush 10, 2) := by decide +kernel
theorem dX6_init_7 : decode cX6_init 7 = .ok (.newarray .int, 2) := by decide +kernel
theorem dX6_init_9 : decode cX6_init 9 = .ok (.putfield 9, 3) := by decide +kernel
theorem dX6_init_12 : decode cX6_init 12 = .ok (.aload_n 0, 1) := by decide +kernel
theorem dX6_init_13 : decode cX6_init 13 = .ok (.bipush 10, 2) := by decide +kernel
theorem dX6_init_15 : decode cX6_init 15 = .ok (.newarray .int, 2) := by decide +kernel
theorem dX6_init_17 : decode cX6_init 17 = .ok (.putfield 15, 3) := by decide +kernel
theorem dX6_init_20 : decode cX6_init 20 = .ok (.aload_n 0, 1) := by decide +kernel
theorem dX6_init_21 : decode cX6_init 21 = .ok (.iload_n 1, 1) := by decide +kernel
theorem dX6_init_22 : decode cX6_init 22 = .ok (.putfield 18, 3) := by decide +kernel
theorem dX6_init_25 : decode cX6_init 25 = .ok (.return_, 1) := by decide +kernel
theorem dX6_empty_0 : decode cX6_empty 0 = .ok (.aload_n 0, 1) := by decide +kernel
theorem dX6_empty_1 : decode cX6_empty 1 = .ok (.iconst 0, 1) := by decide +kernel
theorem dX6_empty_2 : decode cX6_empty 2 = .ok (.putfield 22, 3) := by decide +kernel
theorem dX6_empty_5 : decode cX6_empty 5 = .ok (.aload_n 0, 1) := by decide +kernel
theorem dX6_empty_6 : decode cX6_empty 6 = .ok (.getfield 22, 3) := by decide +kernel
theorem dX6_empty_9 : decode cX6_empty 9 = .ok (.ireturn, 1) := by decide +kernel
theorem dX6_add_0 : decode cX6_add 0 = .ok (.aload_n 0, 1) := by decide +kernel
theorem dX6_add_1 : decode cX6_add 1 = .ok (.getfield 22, 3) := by decide +kernel
theorem dX6_add_4 : decode cX6_add 4 = .ok (.aload_n 0, 1) := by decide +kernel
theorem dX6_add_5 : decode cX6_add 5 = .ok (.getfield 18, 3) := by decide +kernel
theorem dX6_add_8 : decode cX6_add 8 = .ok (.if_icmp .lt 6, 3) := by decide +kernel
theorem dX6_add_11 : decode cX6_add 11 = .ok (.bipush (-4), 2) := by decide +kernel
theorem dX6_add_13 : decode cX6_add 13 = .ok (.ireturn, 1) := by decide +kernel
theorem dX6_add_14 : decode cX6_add 14 = .ok (.aload_n 0, 1) := by decide +kernel
theorem dX6_add_15 : decode cX6_add 15 = .ok (.getfield 9, 3) := by decide +kernel
theorem dX6_add_18 : decode cX6_add 18 = .ok (.aload_n 0, 1) := by decide +kernel
theorem dX6_add_19 : decode cX6_add 19 = .ok (.getfield 22, 3) := by decide +kernel
theorem dX6_add_22 : decode cX6_add 22 = .ok (.iload_n 1, 1) := by decide +kernel
theorem dX6_add_23 : decode cX6_add 23 = .ok (.invokestatic 25, 3) := by decide +kernel
theorem dX6_add_26 : decode cX6_add 26 = .ok (.aload_n 0, 1) := by decide +kernel
theorem dX6_add_27 : decode cX6_add 27 = .ok (.getfield 15, 3) := by decide +kernel
theorem dX6_add_30 : decode cX6_add 30 = .ok (.aload_n 0, 1) := by decide +kernel
theorem dX6_add_31 : decode cX6_add 31 = .ok (.getfield 22, 3) := by decide +kernel
theorem dX6_add_34 : decode cX6_add 34 = .ok (.iload_n 2, 1) := by decide +kernel
theorem dX6_add_35 : decode cX6_add 35 = .ok (.invokestatic 25, 3) := by decide +kernel
theorem dX6_add_38 : decode cX6_add 38 = .ok (.aload_n 0, 1) := by decide +kernel
theorem dX6_add_39 : decode cX6_add 39 = .ok (.dup, 1) := by decide +kernel
theorem dX6_add_40 : decode cX6_add 40 = .ok (.getfield 22, 3) := by decide +kernel
theorem dX6_add_43 : decode cX6_add 43 = .ok (.iconst 1, 1) := by decide +kernel
theorem dX6_add_44 : decode cX6_add 44 = .ok (.iadd, 1) := by decide +kernel
theorem dX6_add_45 : decode cX6_add 45 = .ok (.putfield 22, 3) := by decide +kernel
theorem dX6_add_48 : decode cX6_add 48 = .ok (.aload_n 0, 1) := by decide +kernel
theorem dX6_add_49 : decode cX6_add 49 = .ok (.getfield 22, 3) := by decide +kernel
theorem dX6_add_52 : decode cX6_add 52 = .ok (.ireturn, 1) := by decide +kernel
theorem dX6_copyFrom_0 : decode cX6_copyFrom 0 = .ok (.aload_n 0, 1) := by decide +kernel
theorem dX6_copyFrom_1 : decode cX6_copyFrom 1 = .ok (.aload_n 1, 1) := by decide +kernel
theorem dX6_copyFrom_2 : decode cX6_copyFrom 2 = .ok (.getfield 22, 3) := by decide +kernel
theorem dX6_copyFrom_5 : decode cX6_copyFrom 5 = .ok (.putfield 22, 3) := by decide +kernel
theorem dX6_copyFrom_8 : decode cX6_copyFrom 8 = .ok (.aload_n 1, 1) := by decide +kernel
theorem dX6_copyFrom_9 : decode cX6_copyFrom 9 = .ok (.getfield 9, 3) := by decide +kernel
theorem dX6_copyFrom_12 : decode cX6_copyFrom 12 = .ok (.aload_n 0, 1) := by decide +kernel
theorem dX6_copyFrom_13 : decode cX6_copyFrom 13 = .ok (.getfield 9, 3) := by decide +kernel
theorem dX6_copyFrom_16 : decode cX6_copyFrom 16 = .ok (.invokestatic 29, 3) := by decide +kernel
theorem dX6_copyFrom_19 : decode cX6_copyFrom 19 = .ok (.aload_n 1, 1) := by decide +kernel
theorem dX6_copyFrom_20 : decode cX6_copyFrom 20 = .ok (.getfield 15, 3) := by decide +kernel
theorem dX6_copyFrom_23 : decode cX6_copyFrom 23 = .ok (.aload_n 0, 1) := by decide +kernel
theorem dX6_copyFrom_24 : decode cX6_copyFrom 24 = .ok (.getfield 15, 3) := by decide +kernel
theorem dX6_copyFrom_27 : decode cX6_copyFrom 27 = .ok (.invokestatic 29, 3) := by decide +kernel
theorem dX6_copyFrom_30 : decode cX6_copyFrom 30 = .ok (.return_, 1) := by decide +kernel
theorem dX7_init_0 : decode cX7_init 0 = .ok (.aload_n 0, 1) := by decide +kernel
theorem dX7_init_1 : decode cX7_init 1 = .ok (.invokespecial 3, 3) := by decide +kernel
theorem dX7_init_4 : decode cX7_init 4 = .ok (.aload_n 0, 1) := by decide +kernel
theorem dX7_init_5 : decode cX7_init 5 = .ok (.sipush 1204, 3) := by decide +kernel
theorem dX7_init_8 : decode cX7_init 8 = .ok (.newarray .long, 2) := by decide +kernel
theorem dX7_init_10 : decode cX7_init 10 = .ok (.putfield 9, 3) := by decide +kernel
theorem dX7_init_13 : decode cX7_init 13 = .ok (.return_, 1) := by decide +kernel
theorem dX7_clear_0 : decode cX7_clear 0 = .ok (.aload_n 0, 1) := by decide +kernel
theorem dX7_clear_1 : decode cX7_clear 1 = .ok (.iconst 1, 1) := by decide +kernel
theorem dX7_clear_2 : decode cX7_clear 2 = .ok (.putfield 15, 3) := by decide +kernel
theorem dX7_clear_5 : decode cX7_clear 5 = .ok (.iconst 0, 1) := by decide +kernel
theorem dX7_clear_6 : decode cX7_clear 6 = .ok (.istore_n 1, 1) := by decide +kernel
theorem dX7_clear_7 : decode cX7_clear 7 = .ok (.iload_n 1, 1) := by decide +kernel
theorem dX7_clear_8 : decode cX7_clear 8 = .ok (.iconst 4, 1) := by decide +kernel
theorem dX7_clear_9 : decode cX7_clear 9 = .ok (.if_icmp .ge 20, 3) := by decide +kernel
theorem dX7_clear_12 : decode cX7_clear 12 = .ok (.aload_n 0, 1) := by decide +kernel
theorem dX7_clear_13 : decode cX7_clear 13 = .ok (.getfield 9, 3) := by decide +kernel
theorem dX7_clear_16 : decode cX7_clear 16 = .ok (.iload_n 1, 1) := by decide +kernel
theorem dX7_clear_17 : decode cX7_clear 17 = .ok (.ldc2_w 19, 3) := by decide +kernel
theorem dX7_clear_20 : decode cX7_clear 20 = .ok (.invokestatic 21, 3) := by decide +kernel
theorem dX7_clear_23 : decode cX7_clear 23 = .ok (.iinc 1 1, 3) := by decide +kernel
theorem dX7_clear_26 : decode cX7_clear 26 = .ok (.goto (-19), 3) := by decide +kernel
theorem dX7_clear_29 : decode cX7_clear 29 = .ok (.return_, 1) := by decide +kernel
theorem dX7_thing_0 : decode cX7_thing 0 = .ok (.aload_n 0, 1) := by decide +kernel
theorem dX7_thing_1 : decode cX7_thing 1 = .ok (.getfield 9, 3) := by decide +kernel
theorem dX7_thing_4 : decode cX7_thing 4 = .ok (.iload_n 1, 1) := by decide +kernel
theorem dX7_thing_5 : decode cX7_thing 5 = .ok (.iconst 4, 1) := by decide +kernel
theorem dX7_thing_6 : decode cX7_thing 6 = .ok (.imul, 1) := by decide +kernel
theorem dX7_thing_7 : decode cX7_thing 7 = .ok (.iload_n 2, 1) := by decide +kernel
theorem dX7_thing_8 : decode cX7_thing 8 = .ok (.iadd, 1) := by decide +kernel
theorem dX7_thing_9 : decode cX7_thing 9 = .ok (.invokestatic 25, 3) := by decide +kernel
theorem dX7_thing_12 : decode cX7_thing 12 = .ok (.lreturn, 1) := by decide +kernel
theorem dX7_bind_0 : decode cX7_bind 0 = .ok (.aload_n 0, 1) := by decide +kernel
theorem dX7_bind_1 : decode cX7_bind 1 = .ok (.getfield 15, 3) := by decide +kernel
theorem dX7_bind_4 : decode cX7_bind 4 = .ok (.sipush 301, 3) := by decide +kernel
theorem dX7_bind_7 : decode cX7_bind 7 = .ok (.if_icmp .lt 5, 3) := by decide +kernel
theorem dX7_bind_10 : decode cX7_bind 10 = .ok (.iload_n 1, 1) := by decide +kernel
theorem dX7_bind_11 : decode cX7_bind 11 = .ok (.ireturn, 1) := by decide +kernel
theorem dX7_bind_12 : decode cX7_bind 12 = .ok (.aload_n 0, 1) := by decide +kernel
theorem dX7_bind_13 : decode cX7_bind 13 = .ok (.getfield 15, 3) := by decide +kernel
theorem dX7_bind_16 : decode cX7_bind 16 = .ok (.istore 5, 2) := by decide +kernel
theorem dX7_bind_18 : decode cX7_bind 18 = .ok (.aload_n 0, 1) := by decide +kernel
theorem dX7_bind_19 : decode cX7_bind 19 = .ok (.dup, 1) := by decide +kernel
theorem dX7_bind_20 : decode cX7_bind 20 = .ok (.getfield 15, 3) := by decide +kernel
theorem dX7_bind_23 : decode cX7_bind 23 = .ok (.iconst 1, 1) := by decide +kernel
theorem dX7_bind_24 : decode cX7_bind 24 = .ok (.iadd, 1) := by decide +kernel
theorem dX7_bind_25 : decode cX7_bind 25 = .ok (.putfield 15, 3) := by decide +kernel
theorem dX7_bind_28 : decode cX7_bind 28 = .ok (.iconst 0, 1) := by decide +kernel
theorem dX7_bind_29 : decode cX7_bind 29 = .ok (.istore 6, 2) := by decide +kernel
theorem dX7_bind_31 : decode cX7_bind 31 = .ok (.iload 6, 2) := by decide +kernel
theorem dX7_bind_33 : decode cX7_bind 33 = .ok (.iconst 4, 1) := by decide +kernel
theorem dX7_bind_34 : decode cX7_bind 34 = .ok (.if_icmp .ge 40, 3) := by decide +kernel
theorem dX7_bind_37 : decode cX7_bind 37 = .ok (.aload_n 0, 1) := by decide +kernel
theorem dX7_bind_38 : decode cX7_bind 38 = .ok (.getfield 9, 3) := by decide +kernel
theorem dX7_bind_41 : decode cX7_bind 41 = .ok (.iload 5, 2) := by decide +kernel
theorem dX7_bind_43 : decode cX7_bind 43 = .ok (.iconst 4, 1) := by decide +kernel
theorem dX7_bind_44 : decode cX7_bind 44 = .ok (.imul, 1) := by decide +kernel
theorem dX7_bind_45 : decode cX7_bind 45 = .ok (.iload 6, 2) := by decide +kernel
theorem dX7_bind_47 : decode cX7_bind 47 = .ok (.iadd, 1) := by decide +kernel
theorem dX7_bind_48 : decode cX7_bind 48 = .ok (.iload 6, 2) := by decide +kernel
theorem dX7_bind_50 : decode cX7_bind 50 = .ok (.iload_n 2, 1) := by decide +kernel
theorem dX7_bind_51 : decode cX7_bind 51 = .ok (.if_icmp .ne 7, 3) := by decide +kernel
theorem dX7_bind_54 : decode cX7_bind 54 = .ok (.lload_n 3, 1) := by decide +kernel
theorem dX7_bind_55 : decode cX7_bind 55 = .ok (.goto 10, 3) := by decide +kernel
theorem dX7_bind_58 : decode cX7_bind 58 = .ok (.aload_n 0, 1) := by decide +kernel
theorem dX7_bind_59 : decode cX7_bind 59 = .ok (.iload_n 1, 1) := by decide +kernel
theorem dX7_bind_60 : decode cX7_bind 60 = .ok (.iload 6, 2) := by decide +kernel
theorem dX7_bind_62 : decode cX7_bind 62 = .ok (.invokevirtual 29, 3) := by decide +kernel
theorem dX7_bind_65 : decode cX7_bind 65 = .ok (.invokestatic 21, 3) := by decide +kernel
theorem dX7_bind_68 : decode cX7_bind 68 = .ok (.iinc 6 1, 3) := by decide +kernel
theorem dX7_bind_71 : decode cX7_bind 71 = .ok (.goto (-40), 3) := by decide +kernel
theorem dX7_bind_74 : decode cX7_bind 74 = .ok (.iload 5, 2) := by decide +kernel
theorem dX7_bind_76 : decode cX7_bind 76 = .ok (.ireturn, 1) := by decide +kernel
theorem dX7_copyFrom_0 : decode cX7_copyFrom 0 = .ok (.aload_n 0, 1) := by decide +kernel
theorem dX7_copyFrom_1 : decode cX7_copyFrom 1 = .ok (.aload_n 1, 1) := by decide +kernel
theorem dX7_copyFrom_2 : decode cX7_copyFrom 2 = .ok (.getfield 15, 3) := by decide +kernel
theorem dX7_copyFrom_5 : decode cX7_copyFrom 5 = .ok (.putfield 15, 3) := by decide +kernel
theorem dX7_copyFrom_8 : decode cX7_copyFrom 8 = .ok (.aload_n 1, 1) := by decide +kernel
theorem dX7_copyFrom_9 : decode cX7_copyFrom 9 = .ok (.getfield 9, 3) := by decide +kernel
theorem dX7_copyFrom_12 : decode cX7_copyFrom 12 = .ok (.aload_n 0, 1) := by decide +kernel
theorem dX7_copyFrom_13 : decode cX7_copyFrom 13 = .ok (.getfield 9, 3) := by decide +kernel
theorem dX7_copyFrom_16 : decode cX7_copyFrom 16 = .ok (.invokestatic 33, 3) := by decide +kernel
theorem dX7_copyFrom_19 : decode cX7_copyFrom 19 = .ok (.return_, 1) := by decide +kernel
theorem dX8_init_0 : decode cX8_init 0 = .ok (.aload_n 0, 1) := by decide +kernel
theorem dX8_init_1 : decode cX8_init 1 = .ok (.invokespecial 3, 3) := by decide +kernel
theorem dX8_init_4 : decode cX8_init 4 = .ok (.aload_n 0, 1) := by decide +kernel
theorem dX8_init_5 : decode cX8_init 5 = .ok (.iconst (-1), 1) := by decide +kernel
theorem dX8_init_6 : decode cX8_init 6 = .ok (.putfield 11, 3) := by decide +kernel
theorem dX8_init_9 : decode cX8_init 9 = .ok (.aload_n 0, 1) := by decide +kernel
theorem dX8_init_10 : decode cX8_init 10 = .ok (.bipush 60, 2) := by decide +kernel
theorem dX8_init_12 : decode cX8_init 12 = .ok (.newarray .long, 2) := by decide +kernel
theorem dX8_init_14 : decode cX8_init 14 = .ok (.putfield 15, 3) := by decide +kernel
theorem dX8_init_17 : decode cX8_init 17 = .ok (.return_, 1) := by decide +kernel
theorem dX8_has_0 : decode cX8_has 0 = .ok (.iload_n 1, 1) := by decide +kernel
theorem dX8_has_1 : decode cX8_has 1 = .ok (.ifCond .lt 15, 3) := by decide +kernel
theorem dX8_has_4 : decode cX8_has 4 = .ok (.iload_n 1, 1) := by decide +kernel
theorem dX8_has_5 : decode cX8_has 5 = .ok (.aload_n 0, 1) := by decide +kernel
theorem dX8_has_6 : decode cX8_has 6 = .ok (.getfield 19, 3) := by decide +kernel
theorem dX8_has_9 : decode cX8_has 9 = .ok (.if_icmp .ge 7, 3) := by decide +kernel
theorem dX8_has_12 : decode cX8_has 12 = .ok (.iconst 1, 1) := by decide +kernel
theorem dX8_has_13 : decode cX8_has 13 = .ok (.goto 4, 3) := by decide +kernel
theorem dX8_has_16 : decode cX8_has 16 = .ok (.iconst 0, 1) := by decide +kernel
theorem dX8_has_17 : decode cX8_has 17 = .ok (.ireturn, 1) := by decide +kernel
theorem dX8_become_0 : decode cX8_become 0 = .ok (.aload_n 0, 1) := by decide +kernel
theorem dX8_become_1 : decode cX8_become 1 = .ok (.iload_n 1, 1) := by decide +kernel
theorem dX8_become_2 : decode cX8_become 2 = .ok (.putfield 11, 3) := by decide +kernel
theorem dX8_become_5 : decode cX8_become 5 = .ok (.aload_n 0, 1) := by decide +kernel
theorem dX8_become_6 : decode cX8_become 6 = .ok (.iload_n 2, 1) := by decide +kernel
theorem dX8_become_7 : decode cX8_become 7 = .ok (.putfield 19, 3) := by decide +kernel
theorem dX8_become_10 : decode cX8_become 10 = .ok (.iconst 0, 1) := by decide +kernel
theorem dX8_become_11 : decode cX8_become 11 = .ok (.istore_n 3, 1) := by decide +kernel
theorem dX8_become_12 : decode cX8_become 12 = .ok (.iload_n 3, 1) := by decide +kernel
theorem dX8_become_13 : decode cX8_become 13 = .ok (.aload_n 0, 1) := by decide +kernel
theorem dX8_become_14 : decode cX8_become 14 = .ok (.getfield 15, 3) := by decide +kernel
theorem dX8_become_17 : decode cX8_become 17 = .ok (.arraylength, 1) := by decide +kernel
theorem dX8_become_18 : decode cX8_become 18 = .ok (.if_icmp .ge 16, 3) := by decide +kernel
theorem dX8_become_21 : decode cX8_become 21 = .ok (.aload_n 0, 1) := by decide +kernel
theorem dX8_become_22 : decode cX8_become 22 = .ok (.getfield 15, 3) := by decide +kernel
theorem dX8_become_25 : decode cX8_become 25 = .ok (.iload_n 3, 1) := by decide +kernel
theorem dX8_become_26 : decode cX8_become 26 = .ok (.lconst 0, 1) := by decide +kernel
theorem dX8_become_27 : decode cX8_become 27 = .ok (.lastore, 1) := by decide +kernel
theorem dX8_become_28 : decode cX8_become 28 = .ok (.iinc 3 1, 3) := by decide +kernel
theorem dX8_become_31 : decode cX8_become 31 = .ok (.goto (-19), 3) := by decide +kernel
theorem dX8_become_34 : decode cX8_become 34 = .ok (.return_, 1) := by decide +kernel
theorem dX8_lowestBits_0 : decode cX8_lowestBits 0 = .ok (.aload_n 0, 1) := by decide +kernel
theorem dX8_lowestBits_1 : decode cX8_lowestBits 1 = .ok (.getfield 11, 3) := by decide +kernel
theorem dX8_lowestBits_4 : decode cX8_lowestBits 4 = .ok (.tableswitch 62 0 4 #[36, 41, 46, 62, 50], 36) := by decide +kernel
theorem dX8_lowestBits_40 : decode cX8_lowestBits 40 = .ok (.lload_n 1, 1) := by decide +kernel
theorem dX8_lowestBits_41 : decode cX8_lowestBits 41 = .ok (.l2i, 1) := by decide +kernel
theorem dX8_lowestBits_42 : decode cX8_lowestBits 42 = .ok (.i2b, 1) := by decide +kernel
theorem dX8_lowestBits_43 : decode cX8_lowestBits 43 = .ok (.i2l, 1) := by decide +kernel
theorem dX8_lowestBits_44 : decode cX8_lowestBits 44 = .ok (.lreturn, 1) := by decide +kernel
theorem dX8_lowestBits_45 : decode cX8_lowestBits 45 = .ok (.lload_n 1, 1) := by decide +kernel
theorem dX8_lowestBits_46 : decode cX8_lowestBits 46 = .ok (.l2i, 1) := by decide +kernel
theorem dX8_lowestBits_47 : decode cX8_lowestBits 47 = .ok (.i2s, 1) := by decide +kernel
theorem dX8_lowestBits_48 : decode cX8_lowestBits 48 = .ok (.i2l, 1) := by decide +kernel
theorem dX8_lowestBits_49 : decode cX8_lowestBits 49 = .ok (.lreturn, 1) := by decide +kernel
theorem dX8_lowestBits_50 : decode cX8_lowestBits 50 = .ok (.lload_n 1, 1) := by decide +kernel
theorem dX8_lowestBits_51 : decode cX8_lowestBits 51 = .ok (.l2i, 1) := by decide +kernel
theorem dX8_lowestBits_52 : decode cX8_lowestBits 52 = .ok (.i2l, 1) := by decide +kernel
theorem dX8_lowestBits_53 : decode cX8_lowestBits 53 = .ok (.lreturn, 1) := by decide +kernel
theorem dX8_lowestBits_54 : decode cX8_lowestBits 54 = .ok (.lload_n 1, 1) := by decide +kernel
theorem dX8_lowestBits_55 : decode cX8_lowestBits 55 = .ok (.lconst 0, 1) := by decide +kernel
theorem dX8_lowestBits_56 : decode cX8_lowestBits 56 = .ok (.lcmp, 1) := by decide +kernel
theorem dX8_lowestBits_57 : decode cX8_lowestBits 57 = .ok (.ifCond .eq 7, 3) := by decide +kernel
theorem dX8_lowestBits_60 : decode cX8_lowestBits 60 = .ok (.lconst 1, 1) := by decide +kernel
theorem dX8_lowestBits_61 : decode cX8_lowestBits 61 = .ok (.goto 4, 3) := by decide +kernel
theorem dX8_lowestBits_64 : decode cX8_lowestBits 64 = .ok (.lconst 0, 1) := by decide +kernel
theorem dX8_lowestBits_65 : decode cX8_lowestBits 65 = .ok (.lreturn, 1) := by decide +kernel
theorem dX8_lowestBits_66 : decode cX8_lowestBits 66 = .ok (.lload_n 1, 1) := by decide +kernel
theorem dX8_lowestBits_67 : decode cX8_lowestBits 67 = .ok (.lreturn, 1) := by decide +kernel
theorem dX9_init_0 : decode cX9_init 0 = .ok (.aload_n 0, 1) := by decide +kernel
theorem dX9_init_1 : decode cX9_init 1 = .ok (.invokespecial 3, 3) := by decide +kernel
theorem dX9_init_4 : decode cX9_init 4 = .ok (.aload_n 0, 1) := by decide +kernel
theorem dX9_init_5 : decode cX9_init 5 = .ok (.sipush 301, 3) := by decide +kernel
theorem dX9_init_8 : decode cX9_init 8 = .ok (.newarray .int, 2) := by decide +kernel
theorem dX9_init_10 : decode cX9_init 10 = .ok (.putfield 9, 3) := by decide +kernel
theorem dX9_init_13 : decode cX9_init 13 = .ok (.aload_n 0, 1) := by decide +kernel
theorem dX9_init_14 : decode cX9_init 14 = .ok (.sipush 301, 3) := by decide +kernel
theorem dX9_init_17 : decode cX9_init 17 = .ok (.newarray .int, 2) := by decide +kernel
theorem dX9_init_19 : decode cX9_init 19 = .ok (.putfield 15, 3) := by decide +kernel
theorem dX9_init_22 : decode cX9_init 22 = .ok (.aload_n 0, 1) := by decide +kernel
theorem dX9_init_23 : decode cX9_init 23 = .ok (.sipush 301, 3) := by decide +kernel
theorem dX9_init_26 : decode cX9_init 26 = .ok (.newarray .int, 2) := by decide +kernel
theorem dX9_init_28 : decode cX9_init 28 = .ok (.putfield 18, 3) := by decide +kernel
theorem dX9_init_31 : decode cX9_init 31 = .ok (.aload_n 0, 1) := by decide +kernel
theorem dX9_init_32 : decode cX9_init 32 = .ok (.sipush 301, 3) := by decide +kernel
theorem dX9_init_35 : decode cX9_init 35 = .ok (.newarray .int, 2) := by decide +kernel
theorem dX9_init_37 : decode cX9_init 37 = .ok (.putfield 21, 3) := by decide +kernel
theorem dX9_init_40 : decode cX9_init 40 = .ok (.return_, 1) := by decide +kernel
theorem dX9_clear_0 : decode cX9_clear 0 = .ok (.aload_n 0, 1) := by decide +kernel
theorem dX9_clear_1 : decode cX9_clear 1 = .ok (.iconst 1, 1) := by decide +kernel
theorem dX9_clear_2 : decode cX9_clear 2 = .ok (.putfield 24, 3) := by decide +kernel
theorem dX9_clear_5 : decode cX9_clear 5 = .ok (.return_, 1) := by decide +kernel
theorem dX9_below_0 : decode cX9_below 0 = .ok (.aload_n 0, 1) := by decide +kernel
theorem dX9_below_1 : decode cX9_below 1 = .ok (.getfield 9, 3) := by decide +kernel
theorem dX9_below_4 : decode cX9_below 4 = .ok (.iload_n 1, 1) := by decide +kernel
theorem dX9_below_5 : decode cX9_below 5 = .ok (.invokestatic 28, 3) := by decide +kernel
theorem dX9_below_8 : decode cX9_below 8 = .ok (.ireturn, 1) := by decide +kernel
theorem dX9_height_0 : decode cX9_height 0 = .ok (.aload_n 0, 1) := by decide +kernel
theorem dX9_height_1 : decode cX9_height 1 = .ok (.getfield 15, 3) := by decide +kernel
theorem dX9_height_4 : decode cX9_height 4 = .ok (.iload_n 1, 1) := by decide +kernel
theorem dX9_height_5 : decode cX9_height 5 = .ok (.invokestatic 28, 3) := by decide +kernel
theorem dX9_height_8 : decode cX9_height 8 = .ok (.ireturn, 1) := by decide +kernel
theorem dX9_expression_0 : decode cX9_expression 0 = .ok (.aload_n 0, 1) := by decide +kernel
theorem dX9_expression_1 : decode cX9_expression 1 = .ok (.getfield 18, 3) := by decide +kernel
theorem dX9_expression_4 : decode cX9_expression 4 = .ok (.iload_n 1, 1) := by decide +kernel
theorem dX9_expression_5 : decode cX9_expression 5 = .ok (.invokestatic 28, 3) := by decide +kernel
theorem dX9_expression_8 : decode cX9_expression 8 = .ok (.ireturn, 1) := by decide +kernel
theorem dX9_scope_0 : decode cX9_scope 0 = .ok (.aload_n 0, 1) := by decide +kernel
theorem dX9_scope_1 : decode cX9_scope 1 = .ok (.getfield 21, 3) := by decide +kernel
theorem dX9_scope_4 : decode cX9_scope 4 = .ok (.iload_n 1, 1) := by decide +kernel
theorem dX9_scope_5 : decode cX9_scope 5 = .ok (.invokestatic 28, 3) := by decide +kernel
theorem dX9_scope_8 : decode cX9_scope 8 = .ok (.ireturn, 1) := by decide +kernel
theorem dX9_add_0 : decode cX9_add 0 = .ok (.aload_n 0, 1) := by decide +kernel
theorem dX9_add_1 : decode cX9_add 1 = .ok (.getfield 24, 3) := by decide +kernel
theorem dX9_add_4 : decode cX9_add 4 = .ok (.sipush 301, 3) := by decide +kernel
theorem dX9_add_7 : decode cX9_add 7 = .ok (.if_icmp .lt 5, 3) := by decide +kernel
theorem dX9_add_10 : decode cX9_add 10 = .ok (.iload_n 1, 1) := by decide +kernel
theorem dX9_add_11 : decode cX9_add 11 = .ok (.ireturn, 1) := by decide +kernel
theorem dX9_add_12 : decode cX9_add 12 = .ok (.aload_n 0, 1) := by decide +kernel
theorem dX9_add_13 : decode cX9_add 13 = .ok (.getfield 24, 3) := by decide +kernel
theorem dX9_add_16 : decode cX9_add 16 = .ok (.istore 4, 2) := by decide +kernel
theorem dX9_add_18 : decode cX9_add 18 = .ok (.aload_n 0, 1) := by decide +kernel
theorem dX9_add_19 : decode cX9_add 19 = .ok (.dup, 1) := by decide +kernel
theorem dX9_add_20 : decode cX9_add 20 = .ok (.getfield 24, 3) := by decide +kernel
theorem dX9_add_23 : decode cX9_add 23 = .ok (.iconst 1, 1) := by decide +kernel
theorem dX9_add_24 : decode cX9_add 24 = .ok (.iadd, 1) := by decide +kernel
theorem dX9_add_25 : decode cX9_add 25 = .ok (.putfield 24, 3) := by decide +kernel
theorem dX9_add_28 : decode cX9_add 28 = .ok (.aload_n 0, 1) := by decide +kernel
theorem dX9_add_29 : decode cX9_add 29 = .ok (.getfield 9, 3) := by decide +kernel
theorem dX9_add_32 : decode cX9_add 32 = .ok (.iload 4, 2) := by decide +kernel
theorem dX9_add_34 : decode cX9_add 34 = .ok (.iload_n 1, 1) := by decide +kernel
theorem dX9_add_35 : decode cX9_add 35 = .ok (.invokestatic 32, 3) := by decide +kernel
theorem dX9_add_38 : decode cX9_add 38 = .ok (.aload_n 0, 1) := by decide +kernel
theorem dX9_add_39 : decode cX9_add 39 = .ok (.getfield 15, 3) := by decide +kernel
theorem dX9_add_42 : decode cX9_add 42 = .ok (.iload 4, 2) := by decide +kernel
theorem dX9_add_44 : decode cX9_add 44 = .ok (.aload_n 0, 1) := by decide +kernel
theorem dX9_add_45 : decode cX9_add 45 = .ok (.iload_n 1, 1) := by decide +kernel
theorem dX9_add_46 : decode cX9_add 46 = .ok (.invokevirtual 36, 3) := by decide +kernel
theorem dX9_add_49 : decode cX9_add 49 = .ok (.iconst 1, 1) := by decide +kernel
theorem dX9_add_50 : decode cX9_add 50 = .ok (.iadd, 1) := by decide +kernel
theorem dX9_add_51 : decode cX9_add 51 = .ok (.invokestatic 32, 3) := by decide +kernel
theorem dX9_add_54 : decode cX9_add 54 = .ok (.aload_n 0, 1) := by decide +kernel
theorem dX9_add_55 : decode cX9_add 55 = .ok (.getfield 18, 3) := by decide +kernel
theorem dX9_add_58 : decode cX9_add 58 = .ok (.iload 4, 2) := by decide +kernel
theorem dX9_add_60 : decode cX9_add 60 = .ok (.iload_n 2, 1) := by decide +kernel
theorem dX9_add_61 : decode cX9_add 61 = .ok (.invokestatic 32, 3) := by decide +kernel
theorem dX9_add_64 : decode cX9_add 64 = .ok (.aload_n 0, 1) := by decide +kernel
theorem dX9_add_65 : decode cX9_add 65 = .ok (.getfield 21, 3) := by decide +kernel
theorem dX9_add_68 : decode cX9_add 68 = .ok (.iload 4, 2) := by decide +kernel
theorem dX9_add_70 : decode cX9_add 70 = .ok (.iload_n 3, 1) := by decide +kernel
theorem dX9_add_71 : decode cX9_add 71 = .ok (.invokestatic 32, 3) := by decide +kernel
theorem dX9_add_74 : decode cX9_add 74 = .ok (.iload 4, 2) := by decide +kernel
theorem dX9_add_76 : decode cX9_add 76 = .ok (.ireturn, 1) := by decide +kernel
theorem dX9_next_0 : decode cX9_next 0 = .ok (.iload_n 2, 1) := by decide +kernel
theorem dX9_next_1 : decode cX9_next 1 = .ok (.istore_n 3, 1) := by decide +kernel
theorem dX9_next_2 : decode cX9_next 2 = .ok (.aload_n 0, 1) := by decide +kernel
theorem dX9_next_3 : decode cX9_next 3 = .ok (.iload_n 2, 1) := by decide +kernel
theorem dX9_next_4 : decode cX9_next 4 = .ok (.invokevirtual 36, 3) := by decide +kernel
theorem dX9_next_7 : decode cX9_next 7 = .ok (.aload_n 0, 1) := by decide +kernel
theorem dX9_next_8 : decode cX9_next 8 = .ok (.iload_n 1, 1) := by decide +kernel
theorem dX9_next_9 : decode cX9_next 9 = .ok (.invokevirtual 36, 3) := by decide +kernel
theorem dX9_next_12 : decode cX9_next 12 = .ok (.isub, 1) := by decide +kernel
theorem dX9_next_13 : decode cX9_next 13 = .ok (.istore 4, 2) := by decide +kernel
theorem dX9_next_15 : decode cX9_next 15 = .ok (.iload 4, 2) := by decide +kernel
theorem dX9_next_17 : decode cX9_next 17 = .ok (.iconst 1, 1) := by decide +kernel
theorem dX9_next_18 : decode cX9_next 18 = .ok (.if_icmp .le 15, 3) := by decide +kernel
theorem dX9_next_21 : decode cX9_next 21 = .ok (.aload_n 0, 1) := by decide +kernel
theorem dX9_next_22 : decode cX9_next 22 = .ok (.iload_n 3, 1) := by decide +kernel
theorem dX9_next_23 : decode cX9_next 23 = .ok (.invokevirtual 40, 3) := by decide +kernel
theorem dX9_next_26 : decode cX9_next 26 = .ok (.istore_n 3, 1) := by decide +kernel
theorem dX9_next_27 : decode cX9_next 27 = .ok (.iinc 4 (-1), 3) := by decide +kernel
theorem dX9_next_30 : decode cX9_next 30 = .ok (.goto (-15), 3) := by decide +kernel
theorem dX9_next_33 : decode cX9_next 33 = .ok (.iload_n 3, 1) := by decide +kernel
theorem dX9_next_34 : decode cX9_next 34 = .ok (.ifCond .eq 16, 3) := by decide +kernel
theorem dX9_next_37 : decode cX9_next 37 = .ok (.aload_n 0, 1) := by decide +kernel
theorem dX9_next_38 : decode cX9_next 38 = .ok (.iload_n 3, 1) := by decide +kernel
theorem dX9_next_39 : decode cX9_next 39 = .ok (.invokevirtual 40, 3) := by decide +kernel
theorem dX9_next_42 : decode cX9_next 42 = .ok (.iload_n 1, 1) := by decide +kernel
theorem dX9_next_43 : decode cX9_next 43 = .ok (.if_icmp .ne 7, 3) := by decide +kernel
theorem dX9_next_46 : decode cX9_next 46 = .ok (.iload_n 3, 1) := by decide +kernel
theorem dX9_next_47 : decode cX9_next 47 = .ok (.goto 4, 3) := by decide +kernel
theorem dX9_next_50 : decode cX9_next 50 = .ok (.iconst 0, 1) := by decide +kernel
theorem dX9_next_51 : decode cX9_next 51 = .ok (.ireturn, 1) := by decide +kernel
theorem dX9_copyFrom_0 : decode cX9_copyFrom 0 = .ok (.aload_n 0, 1) := by decide +kernel
theorem dX9_copyFrom_1 : decode cX9_copyFrom 1 = .ok (.aload_n 1, 1) := by decide +kernel
theorem dX9_copyFrom_2 : decode cX9_copyFrom 2 = .ok (.getfield 24, 3) := by decide +kernel
theorem dX9_copyFrom_5 : decode cX9_copyFrom 5 = .ok (.putfield 24, 3) := by decide +kernel
theorem dX9_copyFrom_8 : decode cX9_copyFrom 8 = .ok (.aload_n 1, 1) := by decide +kernel
theorem dX9_copyFrom_9 : decode cX9_copyFrom 9 = .ok (.getfield 9, 3) := by decide +kernel
theorem dX9_copyFrom_12 : decode cX9_copyFrom 12 = .ok (.aload_n 0, 1) := by decide +kernel
theorem dX9_copyFrom_13 : decode cX9_copyFrom 13 = .ok (.getfield 9, 3) := by decide +kernel
theorem dX9_copyFrom_16 : decode cX9_copyFrom 16 = .ok (.invokestatic 42, 3) := by decide +kernel
theorem dX9_copyFrom_19 : decode cX9_copyFrom 19 = .ok (.aload_n 1, 1) := by decide +kernel
theorem dX9_copyFrom_20 : decode cX9_copyFrom 20 = .ok (.getfield 15, 3) := by decide +kernel
theorem dX9_copyFrom_23 : decode cX9_copyFrom 23 = .ok (.aload_n 0, 1) := by decide +kernel
theorem dX9_copyFrom_24 : decode cX9_copyFrom 24 = .ok (.getfield 15, 3) := by decide +kernel
theorem dX9_copyFrom_27 : decode cX9_copyFrom 27 = .ok (.invokestatic 42, 3) := by decide +kernel
theorem dX9_copyFrom_30 : decode cX9_copyFrom 30 = .ok (.aload_n 1, 1) := by decide +kernel
theorem dX9_copyFrom_31 : decode cX9_copyFrom 31 = .ok (.getfield 18, 3) := by decide +kernel
theorem dX9_copyFrom_34 : decode cX9_copyFrom 34 = .ok (.aload_n 0, 1) := by decide +kernel
theorem dX9_copyFrom_35 : decode cX9_copyFrom 35 = .ok (.getfield 18, 3) := by decide +kernel
theorem dX9_copyFrom_38 : decode cX9_copyFrom 38 = .ok (.invokestatic 42, 3) := by decide +kernel
theorem dX9_copyFrom_41 : decode cX9_copyFrom 41 = .ok (.aload_n 1, 1) := by decide +kernel
theorem dX9_copyFrom_42 : decode cX9_copyFrom 42 = .ok (.getfield 21, 3) := by decide +kernel
theorem dX9_copyFrom_45 : decode cX9_copyFrom 45 = .ok (.aload_n 0, 1) := by decide +kernel
theorem dX9_copyFrom_46 : decode cX9_copyFrom 46 = .ok (.getfield 21, 3) := by decide +kernel
theorem dX9_copyFrom_49 : decode cX9_copyFrom 49 = .ok (.invokestatic 42, 3) := by decide +kernel
theorem dX9_copyFrom_52 : decode cX9_copyFrom 52 = .ok (.return_, 1) := by decide +kernel
theorem dX10_init_0 : decode cX10_init 0 = .ok (.aload_n 0, 1) := by decide +kernel
theorem dX10_init_1 : decode cX10_init 1 = .ok (.invokespecial 3, 3) := by decide +kernel
theorem dX10_init_4 : decode cX10_init 4 = .ok (.aload_n 0, 1) := by decide +kernel
theorem dX10_init_5 : decode cX10_init 5 = .ok (.iconst 4, 1) := by decide +kernel
theorem dX10_init_6 : decode cX10_init 6 = .ok (.newarray .int, 2) := by decide +kernel
theorem dX10_init_8 : decode cX10_init 8 = .ok (.putfield 9, 3) := by decide +kernel
theorem dX10_init_11 : decode cX10_init 11 = .ok (.aload_n 0, 1) := by decide +kernel
theorem dX10_init_12 : decode cX10_init 12 = .ok (.iconst 3, 1) := by decide +kernel
theorem dX10_init_13 : decode cX10_init 13 = .ok (.newarray .int, 2) := by decide +kernel
theorem dX10_init_15 : decode cX10_init 15 = .ok (.putfield 15, 3) := by decide +kernel
theorem dX10_init_18 : decode cX10_init 18 = .ok (.iconst 0, 1) := by decide +kernel
theorem dX10_init_19 : decode cX10_init 19 = .ok (.istore_n 1, 1) := by decide +kernel
theorem dX10_init_20 : decode cX10_init 20 = .ok (.iload_n 1, 1) := by decide +kernel
theorem dX10_init_21 : decode cX10_init 21 = .ok (.aload_n 0, 1) := by decide +kernel
theorem dX10_init_22 : decode cX10_init 22 = .ok (.getfield 15, 3) := by decide +kernel
theorem dX10_init_25 : decode cX10_init 25 = .ok (.arraylength, 1) := by decide +kernel
theorem dX10_init_26 : decode cX10_init 26 = .ok (.if_icmp .ge 17, 3) := by decide +kernel
theorem dX10_init_29 : decode cX10_init 29 = .ok (.aload_n 0, 1) := by decide +kernel
theorem dX10_init_30 : decode cX10_init 30 = .ok (.getfield 15, 3) := by decide +kernel
theorem dX10_init_33 : decode cX10_init 33 = .ok (.iload_n 1, 1) := by decide +kernel
theorem dX10_init_34 : decode cX10_init 34 = .ok (.bipush (-5), 2) := by decide +kernel
theorem dX10_init_36 : decode cX10_init 36 = .ok (.iastore, 1) := by decide +kernel
theorem dX10_init_37 : decode cX10_init 37 = .ok (.iinc 1 1, 3) := by decide +kernel
theorem dX10_init_40 : decode cX10_init 40 = .ok (.goto (-20), 3) := by decide +kernel
theorem dX10_init_43 : decode cX10_init 43 = .ok (.return_, 1) := by decide +kernel
theorem dX10_copyFrom_0 : decode cX10_copyFrom 0 = .ok (.aload_n 1, 1) := by decide +kernel
theorem dX10_copyFrom_1 : decode cX10_copyFrom 1 = .ok (.getfield 9, 3) := by decide +kernel
theorem dX10_copyFrom_4 : decode cX10_copyFrom 4 = .ok (.aload_n 0, 1) := by decide +kernel
theorem dX10_copyFrom_5 : decode cX10_copyFrom 5 = .ok (.getfield 9, 3) := by decide +kernel
theorem dX10_copyFrom_8 : decode cX10_copyFrom 8 = .ok (.invokestatic 18, 3) := by decide +kernel
theorem dX10_copyFrom_11 : decode cX10_copyFrom 11 = .ok (.aload_n 1, 1) := by decide +kernel
theorem dX10_copyFrom_12 : decode cX10_copyFrom 12 = .ok (.getfield 15, 3) := by decide +kernel
theorem dX10_copyFrom_15 : decode cX10_copyFrom 15 = .ok (.aload_n 0, 1) := by decide +kernel
theorem dX10_copyFrom_16 : decode cX10_copyFrom 16 = .ok (.getfield 15, 3) := by decide +kernel
theorem dX10_copyFrom_19 : decode cX10_copyFrom 19 = .ok (.invokestatic 18, 3) := by decide +kernel
theorem dX10_copyFrom_22 : decode cX10_copyFrom 22 = .ok (.return_, 1) := by decide +kernel
theorem dX11_init_0 : decode cX11_init 0 = .ok (.aload_n 0, 1) := by decide +kernel
theorem dX11_init_1 : decode cX11_init 1 = .ok (.invokespecial 5, 3) := by decide +kernel
theorem dX11_init_4 : decode cX11_init 4 = .ok (.aload_n 0, 1) := by decide +kernel
theorem dX11_init_5 : decode cX11_init 5 = .ok (.new 11, 3) := by decide +kernel
theorem dX11_init_8 : decode cX11_init 8 = .ok (.dup, 1) := by decide +kernel
theorem dX11_init_9 : decode cX11_init 9 = .ok (.invokespecial 13, 3) := by decide +kernel
theorem dX11_init_12 : decode cX11_init 12 = .ok (.putfield 14, 3) := by decide +kernel
theorem dX11_init_15 : decode cX11_init 15 = .ok (.aload_n 0, 1) := by decide +kernel
theorem dX11_init_16 : decode cX11_init 16 = .ok (.new 18, 3) := by decide +kernel
theorem dX11_init_19 : decode cX11_init 19 = .ok (.dup, 1) := by decide +kernel
theorem dX11_init_20 : decode cX11_init 20 = .ok (.aload_n 0, 1) := by decide +kernel
theorem dX11_init_21 : decode cX11_init 21 = .ok (.getfield 14, 3) := by decide +kernel
theorem dX11_init_24 : decode cX11_init 24 = .ok (.invokespecial 20, 3) := by decide +kernel
theorem dX11_init_27 : decode cX11_init 27 = .ok (.putfield 23, 3) := by decide +kernel
theorem dX11_init_30 : decode cX11_init 30 = .ok (.aload_n 0, 1) := by decide +kernel
theorem dX11_init_31 : decode cX11_init 31 = .ok (.new 27, 3) := by decide +kernel
theorem dX11_init_34 : decode cX11_init 34 = .ok (.dup, 1) := by decide +kernel
theorem dX11_init_35 : decode cX11_init 35 = .ok (.aload_n 0, 1) := by decide +kernel
theorem dX11_init_36 : decode cX11_init 36 = .ok (.getfield 14, 3) := by decide +kernel
theorem dX11_init_39 : decode cX11_init 39 = .ok (.invokespecial 29, 3) := by decide +kernel
theorem dX11_init_42 : decode cX11_init 42 = .ok (.putfield 30, 3) := by decide +kernel
theorem dX11_init_45 : decode cX11_init 45 = .ok (.aload_n 0, 1) := by decide +kernel
theorem dX11_init_46 : decode cX11_init 46 = .ok (.new 27, 3) := by decide +kernel
theorem dX11_init_49 : decode cX11_init 49 = .ok (.dup, 1) := by decide +kernel
theorem dX11_init_50 : decode cX11_init 50 = .ok (.aload_n 0, 1) := by decide +kernel
theorem dX11_init_51 : decode cX11_init 51 = .ok (.getfield 14, 3) := by decide +kernel
theorem dX11_init_54 : decode cX11_init 54 = .ok (.invokespecial 29, 3) := by decide +kernel
theorem dX11_init_57 : decode cX11_init 57 = .ok (.putfield 34, 3) := by decide +kernel
theorem dX11_init_60 : decode cX11_init 60 = .ok (.aload_n 0, 1) := by decide +kernel
theorem dX11_init_61 : decode cX11_init 61 = .ok (.new 37, 3) := by decide +kernel
theorem dX11_init_64 : decode cX11_init 64 = .ok (.dup, 1) := by decide +kernel
theorem dX11_init_65 : decode cX11_init 65 = .ok (.invokespecial 39, 3) := by decide +kernel
theorem dX11_init_68 : decode cX11_init 68 = .ok (.putfield 40, 3) := by decide +kernel
theorem dX11_init_71 : decode cX11_init 71 = .ok (.aload_n 0, 1) := by decide +kernel
theorem dX11_init_72 : decode cX11_init 72 = .ok (.new 44, 3) := by decide +kernel
theorem dX11_init_75 : decode cX11_init 75 = .ok (.dup, 1) := by decide +kernel
theorem dX11_init_76 : decode cX11_init 76 = .ok (.aload_n 0, 1) := by decide +kernel
theorem dX11_init_77 : decode cX11_init 77 = .ok (.getfield 14, 3) := by decide +kernel
theorem dX11_init_80 : decode cX11_init 80 = .ok (.aload_n 0, 1) := by decide +kernel
theorem dX11_init_81 : decode cX11_init 81 = .ok (.getfield 40, 3) := by decide +kernel
theorem dX11_init_84 : decode cX11_init 84 = .ok (.invokespecial 46, 3) := by decide +kernel
theorem dX11_init_87 : decode cX11_init 87 = .ok (.putfield 49, 3) := by decide +kernel
theorem dX11_init_90 : decode cX11_init 90 = .ok (.aload_n 0, 1) := by decide +kernel
theorem dX11_init_91 : decode cX11_init 91 = .ok (.new 53, 3) := by decide +kernel
theorem dX11_init_94 : decode cX11_init 94 = .ok (.dup, 1) := by decide +kernel
theorem dX11_init_95 : decode cX11_init 95 = .ok (.invokespecial 55, 3) := by decide +kernel
theorem dX11_init_98 : decode cX11_init 98 = .ok (.putfield 56, 3) := by decide +kernel
theorem dX11_init_101 : decode cX11_init 101 = .ok (.aload_n 0, 1) := by decide +kernel
theorem dX11_init_102 : decode cX11_init 102 = .ok (.bipush 6, 2) := by decide +kernel
theorem dX11_init_104 : decode cX11_init 104 = .ok (.anewarray 60, 3) := by decide +kernel
theorem dX11_init_107 : decode cX11_init 107 = .ok (.putfield 62, 3) := by decide +kernel
theorem dX11_init_110 : decode cX11_init 110 = .ok (.iconst 0, 1) := by decide +kernel
theorem dX11_init_111 : decode cX11_init 111 = .ok (.istore_n 1, 1) := by decide +kernel
theorem dX11_init_112 : decode cX11_init 112 = .ok (.iload_n 1, 1) := by decide +kernel
theorem dX11_init_113 : decode cX11_init 113 = .ok (.aload_n 0, 1) := by decide +kernel
theorem dX11_init_114 : decode cX11_init 114 = .ok (.getfield 62, 3) := by decide +kernel
theorem dX11_init_117 : decode cX11_init 117 = .ok (.arraylength, 1) := by decide +kernel
theorem dX11_init_118 : decode cX11_init 118 = .ok (.if_icmp .ge 22, 3) := by decide +kernel
theorem dX11_init_121 : decode cX11_init 121 = .ok (.aload_n 0, 1) := by decide +kernel
theorem dX11_init_122 : decode cX11_init 122 = .ok (.getfield 62, 3) := by decide +kernel
theorem dX11_init_125 : decode cX11_init 125 = .ok (.iload_n 1, 1) := by decide +kernel
theorem dX11_init_126 : decode cX11_init 126 = .ok (.new 60, 3) := by decide +kernel
theorem dX11_init_129 : decode cX11_init 129 = .ok (.dup, 1) := by decide +kernel
theorem dX11_init_130 : decode cX11_init 130 = .ok (.invokespecial 66, 3) := by decide +kernel
theorem dX11_init_133 : decode cX11_init 133 = .ok (.aastore, 1) := by decide +kernel
theorem dX11_init_134 : decode cX11_init 134 = .ok (.iinc 1 1, 3) := by decide +kernel
theorem dX11_init_137 : decode cX11_init 137 = .ok (.goto (-25), 3) := by decide +kernel
theorem dX11_init_140 : decode cX11_init 140 = .ok (.return_, 1) := by decide +kernel
theorem dX11_feed_0 : decode cX11_feed 0 = .ok (.iload_n 1, 1) := by decide +kernel
theorem dX11_feed_1 : decode cX11_feed 1 = .ok (.ifCond .lt 9, 3) := by decide +kernel
theorem dX11_feed_4 : decode cX11_feed 4 = .ok (.iload_n 1, 1) := by decide +kernel
theorem dX11_feed_5 : decode cX11_feed 5 = .ok (.bipush 127, 2) := by decide +kernel
theorem dX11_feed_7 : decode cX11_feed 7 = .ok (.if_icmp .le 6, 3) := by decide +kernel
theorem dX11_feed_10 : decode cX11_feed 10 = .ok (.bipush (-2), 2) := by decide +kernel
theorem dX11_feed_12 : decode cX11_feed 12 = .ok (.ireturn, 1) := by decide +kernel
theorem dX11_feed_13 : decode cX11_feed 13 = .ok (.aload_n 0, 1) := by decide +kernel
theorem dX11_feed_14 : decode cX11_feed 14 = .ok (.getfield 23, 3) := by decide +kernel
theorem dX11_feed_17 : decode cX11_feed 17 = .ok (.iload_n 1, 1) := by decide +kernel
theorem dX11_feed_18 : decode cX11_feed 18 = .ok (.invokevirtual 67, 3) := by decide +kernel
theorem dX11_feed_21 : decode cX11_feed 21 = .ok (.ireturn, 1) := by decide +kernel
theorem dX11_line_0 : decode cX11_line 0 = .ok (.aload_n 0, 1) := by decide +kernel
theorem dX11_line_1 : decode cX11_line 1 = .ok (.getfield 14, 3) := by decide +kernel
theorem dX11_line_4 : decode cX11_line 4 = .ok (.getfield 71, 3) := by decide +kernel
theorem dX11_line_7 : decode cX11_line 7 = .ok (.bipush 8, 2) := by decide +kernel
theorem dX11_line_9 : decode cX11_line 9 = .ok (.if_icmp .lt 8, 3) := by decide +kernel
theorem dX11_line_12 : decode cX11_line 12 = .ok (.bipush (-4), 2) := by decide +kernel
theorem dX11_line_14 : decode cX11_line 14 = .ok (.goto 10, 3) := by decide +kernel
theorem dX11_line_17 : decode cX11_line 17 = .ok (.aload_n 0, 1) := by decide +kernel
theorem dX11_line_18 : decode cX11_line 18 = .ok (.getfield 23, 3) := by decide +kernel
theorem dX11_line_21 : decode cX11_line 21 = .ok (.invokevirtual 75, 3) := by decide +kernel
theorem dX11_line_24 : decode cX11_line 24 = .ok (.ireturn, 1) := by decide +kernel
theorem dX11_of_0 : decode cX11_of 0 = .ok (.aload_n 0, 1) := by decide +kernel
theorem dX11_of_1 : decode cX11_of 1 = .ok (.getfield 14, 3) := by decide +kernel
theorem dX11_of_4 : decode cX11_of 4 = .ok (.iload_n 1, 1) := by decide +kernel
theorem dX11_of_5 : decode cX11_of 5 = .ok (.invokevirtual 79, 3) := by decide +kernel
theorem dX11_of_8 : decode cX11_of 8 = .ok (.ifCond .eq 12, 3) := by decide +kernel
theorem dX11_of_11 : decode cX11_of 11 = .ok (.iload_n 2, 1) := by decide +kernel
theorem dX11_of_12 : decode cX11_of 12 = .ok (.ifCond .lt 8, 3) := by decide +kernel
theorem dX11_of_15 : decode cX11_of 15 = .ok (.iload_n 2, 1) := by decide +kernel
theorem dX11_of_16 : decode cX11_of 16 = .ok (.iconst 4, 1) := by decide +kernel
theorem dX11_of_17 : decode cX11_of 17 = .ok (.if_icmp .lt 5, 3) := by decide +kernel
theorem dX11_of_20 : decode cX11_of 20 = .ok (.iconst (-1), 1) := by decide +kernel
theorem dX11_of_21 : decode cX11_of 21 = .ok (.ireturn, 1) := by decide +kernel
theorem dX11_of_22 : decode cX11_of 22 = .ok (.aload_n 0, 1) := by decide +kernel
theorem dX11_of_23 : decode cX11_of 23 = .ok (.getfield 14, 3) := by decide +kernel
theorem dX11_of_26 : decode cX11_of 26 = .ok (.iload_n 1, 1) := by decide +kernel
theorem dX11_of_27 : decode cX11_of 27 = .ok (.iload_n 2, 1) := by decide +kernel
theorem dX11_of_28 : decode cX11_of 28 = .ok (.invokevirtual 83, 3) := by decide +kernel
theorem dX11_of_31 : decode cX11_of 31 = .ok (.ireturn, 1) := by decide +kernel
theorem dX11_define_0 : decode cX11_define 0 = .ok (.iload_n 1, 1) := by decide +kernel
theorem dX11_define_1 : decode cX11_define 1 = .ok (.invokestatic 87, 3) := by decide +kernel
theorem dX11_define_4 : decode cX11_define 4 = .ok (.ifCond .eq 19, 3) := by decide +kernel
theorem dX11_define_7 : decode cX11_define 7 = .ok (.iload_n 2, 1) := by decide +kernel
theorem dX11_define_8 : decode cX11_define 8 = .ok (.iconst (-1), 1) := by decide +kernel
theorem dX11_define_9 : decode cX11_define 9 = .ok (.if_icmp .eq 16, 3) := by decide +kernel
theorem dX11_define_12 : decode cX11_define 12 = .ok (.aload_n 0, 1) := by decide +kernel
theorem dX11_define_13 : decode cX11_define 13 = .ok (.getfield 14, 3) := by decide +kernel
theorem dX11_define_16 : decode cX11_define 16 = .ok (.iload_n 2, 1) := by decide +kernel
theorem dX11_define_17 : decode cX11_define 17 = .ok (.invokevirtual 79, 3) := by decide +kernel
theorem dX11_define_20 : decode cX11_define 20 = .ok (.ifCond .ne 5, 3) := by decide +kernel
theorem dX11_define_23 : decode cX11_define 23 = .ok (.iconst (-1), 1) := by decide +kernel
theorem dX11_define_24 : decode cX11_define 24 = .ok (.ireturn, 1) := by decide +kernel
theorem dX11_define_25 : decode cX11_define 25 = .ok (.aload_n 0, 1) := by decide +kernel
theorem dX11_define_26 : decode cX11_define 26 = .ok (.getfield 30, 3) := by decide +kernel
theorem dX11_define_29 : decode cX11_define 29 = .ok (.getfield 90, 3) := by decide +kernel
theorem dX11_define_32 : decode cX11_define 32 = .ok (.getfield 93, 3) := by decide +kernel
theorem dX11_define_35 : decode cX11_define 35 = .ok (.iload_n 1, 1) := by decide +kernel
theorem dX11_define_36 : decode cX11_define 36 = .ok (.invokestatic 97, 3) := by decide +kernel
theorem dX11_define_39 : decode cX11_define 39 = .ok (.istore_n 3, 1) := by decide +kernel
theorem dX11_define_40 : decode cX11_define 40 = .ok (.aload_n 0, 1) := by decide +kernel
theorem dX11_define_41 : decode cX11_define 41 = .ok (.getfield 30, 3) := by decide +kernel
theorem dX11_define_44 : decode cX11_define 44 = .ok (.getfield 90, 3) := by decide +kernel
theorem dX11_define_47 : decode cX11_define 47 = .ok (.getfield 93, 3) := by decide +kernel
theorem dX11_define_50 : decode cX11_define 50 = .ok (.iload_n 1, 1) := by decide +kernel
theorem dX11_define_51 : decode cX11_define 51 = .ok (.iload_n 2, 1) := by decide +kernel
theorem dX11_define_52 : decode cX11_define 52 = .ok (.iconst (-1), 1) := by decide +kernel
theorem dX11_define_53 : decode cX11_define 53 = .ok (.if_icmp .ne 8, 3) := by decide +kernel
theorem dX11_define_56 : decode cX11_define 56 = .ok (.bipush (-5), 2) := by decide +kernel
theorem dX11_define_58 : decode cX11_define 58 = .ok (.goto 4, 3) := by decide +kernel
theorem dX11_define_61 : decode cX11_define 61 = .ok (.iload_n 2, 1) := by decide +kernel
theorem dX11_define_62 : decode cX11_define 62 = .ok (.invokestatic 101, 3) := by decide +kernel
theorem dX11_define_65 : decode cX11_define 65 = .ok (.iload_n 3, 1) := by decide +kernel
theorem dX11_define_66 : decode cX11_define 66 = .ok (.ireturn, 1) := by decide +kernel
theorem dX11_value_0 : decode cX11_value 0 = .ok (.iload_n 1, 1) := by decide +kernel
theorem dX11_value_1 : decode cX11_value 1 = .ok (.invokestatic 105, 3) := by decide +kernel
theorem dX11_value_4 : decode cX11_value 4 = .ok (.ifCond .ne 7, 3) := by decide +kernel
theorem dX11_value_7 : decode cX11_value 7 = .ok (.ldc2_w 108, 3) := by decide +kernel
theorem dX11_value_10 : decode cX11_value 10 = .ok (.lreturn, 1) := by decide +kernel
theorem dX11_value_11 : decode cX11_value 11 = .ok (.aload_n 0, 1) := by decide +kernel
theorem dX11_value_12 : decode cX11_value 12 = .ok (.getfield 30, 3) := by decide +kernel
theorem dX11_value_15 : decode cX11_value 15 = .ok (.getfield 90, 3) := by decide +kernel
theorem dX11_value_18 : decode cX11_value 18 = .ok (.getfield 110, 3) := by decide +kernel
theorem dX11_value_21 : decode cX11_value 21 = .ok (.iload_n 1, 1) := by decide +kernel
theorem dX11_value_22 : decode cX11_value 22 = .ok (.invokestatic 97, 3) := by decide +kernel
theorem dX11_value_25 : decode cX11_value 25 = .ok (.istore_n 3, 1) := by decide +kernel
theorem dX11_value_26 : decode cX11_value 26 = .ok (.aload_n 0, 1) := by decide +kernel
theorem dX11_value_27 : decode cX11_value 27 = .ok (.getfield 30, 3) := by decide +kernel
theorem dX11_value_30 : decode cX11_value 30 = .ok (.getfield 90, 3) := by decide +kernel
theorem dX11_value_33 : decode cX11_value 33 = .ok (.getfield 110, 3) := by decide +kernel
theorem dX11_value_36 : decode cX11_value 36 = .ok (.iload_n 1, 1) := by decide +kernel
theorem dX11_value_37 : decode cX11_value 37 = .ok (.iload_n 2, 1) := by decide +kernel
theorem dX11_value_38 : decode cX11_value 38 = .ok (.invokestatic 101, 3) := by decide +kernel
theorem dX11_value_41 : decode cX11_value 41 = .ok (.iload_n 3, 1) := by decide +kernel
theorem dX11_value_42 : decode cX11_value 42 = .ok (.i2l, 1) := by decide +kernel
theorem dX11_value_43 : decode cX11_value 43 = .ok (.lreturn, 1) := by decide +kernel
theorem dX11_begin_0 : decode cX11_begin 0 = .ok (.aload_n 0, 1) := by decide +kernel
theorem dX11_begin_1 : decode cX11_begin 1 = .ok (.getfield 14, 3) := by decide +kernel
theorem dX11_begin_4 : decode cX11_begin 4 = .ok (.iload_n 1, 1) := by decide +kernel
theorem dX11_begin_5 : decode cX11_begin 5 = .ok (.invokevirtual 79, 3) := by decide +kernel
theorem dX11_begin_8 : decode cX11_begin 8 = .ok (.ifCond .ne 5, 3) := by decide +kernel
theorem dX11_begin_11 : decode cX11_begin 11 = .ok (.iconst (-1), 1) := by decide +kernel
theorem dX11_begin_12 : decode cX11_begin 12 = .ok (.ireturn, 1) := by decide +kernel
theorem dX11_begin_13 : decode cX11_begin 13 = .ok (.aload_n 0, 1) := by decide +kernel
theorem dX11_begin_14 : decode cX11_begin 14 = .ok (.getfield 30, 3) := by decide +kernel
theorem dX11_begin_17 : decode cX11_begin 17 = .ok (.getfield 113, 3) := by decide +kernel
theorem dX11_begin_20 : decode cX11_begin 20 = .ok (.iload_n 1, 1) := by decide +kernel
theorem dX11_begin_21 : decode cX11_begin 21 = .ok (.invokevirtual 116, 3) := by decide +kernel
theorem dX11_begin_24 : decode cX11_begin 24 = .ok (.aload_n 0, 1) := by decide +kernel
theorem dX11_begin_25 : decode cX11_begin 25 = .ok (.getfield 14, 3) := by decide +kernel
theorem dX11_begin_28 : decode cX11_begin 28 = .ok (.iload_n 1, 1) := by decide +kernel
theorem dX11_begin_29 : decode cX11_begin 29 = .ok (.iconst 0, 1) := by decide +kernel
theorem dX11_begin_30 : decode cX11_begin 30 = .ok (.invokevirtual 83, 3) := by decide +kernel
theorem dX11_begin_33 : decode cX11_begin 33 = .ok (.ireturn, 1) := by decide +kernel
theorem dX11_step_0 : decode cX11_step 0 = .ok (.iload_n 1, 1) := by decide +kernel
theorem dX11_step_1 : decode cX11_step 1 = .ok (.ifCond .lt 10, 3) := by decide +kernel
theorem dX11_step_4 : decode cX11_step 4 = .ok (.iload_n 1, 1) := by decide +kernel
theorem dX11_step_5 : decode cX11_step 5 = .ok (.sipush 300, 3) := by decide +kernel
theorem dX11_step_8 : decode cX11_step 8 = .ok (.if_icmp .le 6, 3) := by decide +kernel
theorem dX11_step_11 : decode cX11_step 11 = .ok (.bipush (-2), 2) := by decide +kernel
theorem dX11_step_13 : decode cX11_step 13 = .ok (.ireturn, 1) := by decide +kernel
theorem dX11_step_14 : decode cX11_step 14 = .ok (.aload_n 0, 1) := by decide +kernel
theorem dX11_step_15 : decode cX11_step 15 = .ok (.getfield 30, 3) := by decide +kernel
theorem dX11_step_18 : decode cX11_step 18 = .ok (.getfield 113, 3) := by decide +kernel
theorem dX11_step_21 : decode cX11_step 21 = .ok (.getfield 120, 3) := by decide +kernel
theorem dX11_step_24 : decode cX11_step 24 = .ok (.getfield 123, 3) := by decide +kernel
theorem dX11_step_27 : decode cX11_step 27 = .ok (.bipush (-5), 2) := by decide +kernel
theorem dX11_step_29 : decode cX11_step 29 = .ok (.if_icmp .ne 17, 3) := by decide +kernel
theorem dX11_step_32 : decode cX11_step 32 = .ok (.aload_n 0, 1) := by decide +kernel
theorem dX11_step_33 : decode cX11_step 33 = .ok (.getfield 30, 3) := by decide +kernel
theorem dX11_step_36 : decode cX11_step 36 = .ok (.getfield 113, 3) := by decide +kernel
theorem dX11_step_39 : decode cX11_step 39 = .ok (.iload_n 1, 1) := by decide +kernel
theorem dX11_step_40 : decode cX11_step 40 = .ok (.invokevirtual 126, 3) := by decide +kernel
theorem dX11_step_43 : decode cX11_step 43 = .ok (.goto 5, 3) := by decide +kernel
theorem dX11_step_46 : decode cX11_step 46 = .ok (.bipush (-3), 2) := by decide +kernel
theorem dX11_step_48 : decode cX11_step 48 = .ok (.ireturn, 1) := by decide +kernel
theorem dX11_run_0 : decode cX11_run 0 = .ok (.aload_n 0, 1) := by decide +kernel
theorem dX11_run_1 : decode cX11_run 1 = .ok (.getfield 14, 3) := by decide +kernel
theorem dX11_run_4 : decode cX11_run 4 = .ok (.iload_n 1, 1) := by decide +kernel
theorem dX11_run_5 : decode cX11_run 5 = .ok (.invokevirtual 79, 3) := by decide +kernel
theorem dX11_run_8 : decode cX11_run 8 = .ok (.ifCond .ne 5, 3) := by decide +kernel
theorem dX11_run_11 : decode cX11_run 11 = .ok (.iconst (-1), 1) := by decide +kernel
theorem dX11_run_12 : decode cX11_run 12 = .ok (.ireturn, 1) := by decide +kernel
theorem dX11_run_13 : decode cX11_run 13 = .ok (.aload_n 0, 1) := by decide +kernel
theorem dX11_run_14 : decode cX11_run 14 = .ok (.getfield 30, 3) := by decide +kernel
theorem dX11_run_17 : decode cX11_run 17 = .ok (.getfield 113, 3) := by decide +kernel
theorem dX11_run_20 : decode cX11_run 20 = .ok (.iload_n 1, 1) := by decide +kernel
theorem dX11_run_21 : decode cX11_run 21 = .ok (.invokevirtual 116, 3) := by decide +kernel
theorem dX11_run_24 : decode cX11_run 24 = .ok (.aload_n 0, 1) := by decide +kernel
theorem dX11_run_25 : decode cX11_run 25 = .ok (.getfield 30, 3) := by decide +kernel
theorem dX11_run_28 : decode cX11_run 28 = .ok (.getfield 113, 3) := by decide +kernel
theorem dX11_run_31 : decode cX11_run 31 = .ok (.sipush 300, 3) := by decide +kernel
theorem dX11_run_34 : decode cX11_run 34 = .ok (.invokevirtual 126, 3) := by decide +kernel
theorem dX11_run_37 : decode cX11_run 37 = .ok (.pop, 1) := by decide +kernel
theorem dX11_run_38 : decode cX11_run 38 = .ok (.aload_n 0, 1) := by decide +kernel
theorem dX11_run_39 : decode cX11_run 39 = .ok (.getfield 30, 3) := by decide +kernel
theorem dX11_run_42 : decode cX11_run 42 = .ok (.getfield 113, 3) := by decide +kernel
theorem dX11_run_45 : decode cX11_run 45 = .ok (.getfield 120, 3) := by decide +kernel
theorem dX11_run_48 : decode cX11_run 48 = .ok (.getfield 123, 3) := by decide +kernel
theorem dX11_run_51 : decode cX11_run 51 = .ok (.ireturn, 1) := by decide +kernel
theorem dX11_told_0 : decode cX11_told 0 = .ok (.iload_n 1, 1) := by decide +kernel
theorem dX11_told_1 : decode cX11_told 1 = .ok (.iconst 5, 1) := by decide +kernel
theorem dX11_told_2 : decode cX11_told 2 = .ok (.if_icmp .lt 21, 3) := by decide +kernel
theorem dX11_told_5 : decode cX11_told 5 = .ok (.iload_n 1, 1) := by decide +kernel
theorem dX11_told_6 : decode cX11_told 6 = .ok (.bipush 8, 2) := by decide +kernel
theorem dX11_told_8 : decode cX11_told 8 = .ok (.if_icmp .gt 15, 3) := by decide +kernel
theorem dX11_told_11 : decode cX11_told 11 = .ok (.aload_n 0, 1) := by decide +kernel
theorem dX11_told_12 : decode cX11_told 12 = .ok (.getfield 30, 3) := by decide +kernel
theorem dX11_told_15 : decode cX11_told 15 = .ok (.getfield 113, 3) := by decide +kernel
theorem dX11_told_18 : decode cX11_told 18 = .ok (.iload_n 1, 1) := by decide +kernel
theorem dX11_told_19 : decode cX11_told 19 = .ok (.invokevirtual 129, 3) := by decide +kernel
theorem dX11_told_22 : decode cX11_told 22 = .ok (.lreturn, 1) := by decide +kernel
theorem dX11_told_23 : decode cX11_told 23 = .ok (.iload_n 1, 1) := by decide +kernel
theorem dX11_told_24 : decode cX11_told 24 = .ok (.bipush 10, 2) := by decide +kernel
theorem dX11_told_26 : decode cX11_told 26 = .ok (.if_icmp .lt 32, 3) := by decide +kernel
theorem dX11_told_29 : decode cX11_told 29 = .ok (.iload_n 1, 1) := by decide +kernel
theorem dX11_told_30 : decode cX11_told 30 = .ok (.bipush 10, 2) := by decide +kernel
theorem dX11_told_32 : decode cX11_told 32 = .ok (.isub, 1) := by decide +kernel
theorem dX11_told_33 : decode cX11_told 33 = .ok (.invokestatic 105, 3) := by decide +kernel
theorem dX11_told_36 : decode cX11_told 36 = .ok (.ifCond .eq 22, 3) := by decide +kernel
theorem dX11_told_39 : decode cX11_told 39 = .ok (.aload_n 0, 1) := by decide +kernel
theorem dX11_told_40 : decode cX11_told 40 = .ok (.getfield 30, 3) := by decide +kernel
theorem dX11_told_43 : decode cX11_told 43 = .ok (.getfield 90, 3) := by decide +kernel
theorem dX11_told_46 : decode cX11_told 46 = .ok (.getfield 110, 3) := by decide +kernel
theorem dX11_told_49 : decode cX11_told 49 = .ok (.iload_n 1, 1) := by decide +kernel
theorem dX11_told_50 : decode cX11_told 50 = .ok (.bipush 10, 2) := by decide +kernel
theorem dX11_told_52 : decode cX11_told 52 = .ok (.isub, 1) := by decide +kernel
theorem dX11_told_53 : decode cX11_told 53 = .ok (.invokestatic 97, 3) := by decide +kernel
theorem dX11_told_56 : decode cX11_told 56 = .ok (.i2l, 1) := by decide +kernel
theorem dX11_told_57 : decode cX11_told 57 = .ok (.lreturn, 1) := by decide +kernel
theorem dX11_told_58 : decode cX11_told 58 = .ok (.iload_n 1, 1) := by decide +kernel
theorem dX11_told_59 : decode cX11_told 59 = .ok (.bipush 20, 2) := by decide +kernel
theorem dX11_told_61 : decode cX11_told 61 = .ok (.if_icmp .lt 32, 3) := by decide +kernel
theorem dX11_told_64 : decode cX11_told 64 = .ok (.iload_n 1, 1) := by decide +kernel
theorem dX11_told_65 : decode cX11_told 65 = .ok (.bipush 20, 2) := by decide +kernel
theorem dX11_told_67 : decode cX11_told 67 = .ok (.isub, 1) := by decide +kernel
theorem dX11_told_68 : decode cX11_told 68 = .ok (.invokestatic 87, 3) := by decide +kernel
theorem dX11_told_71 : decode cX11_told 71 = .ok (.ifCond .eq 22, 3) := by decide +kernel
theorem dX11_told_74 : decode cX11_told 74 = .ok (.aload_n 0, 1) := by decide +kernel
theorem dX11_told_75 : decode cX11_told 75 = .ok (.getfield 30, 3) := by decide +kernel
theorem dX11_told_78 : decode cX11_told 78 = .ok (.getfield 90, 3) := by decide +kernel
theorem dX11_told_81 : decode cX11_told 81 = .ok (.getfield 93, 3) := by decide +kernel
theorem dX11_told_84 : decode cX11_told 84 = .ok (.iload_n 1, 1) := by decide +kernel
theorem dX11_told_85 : decode cX11_told 85 = .ok (.bipush 20, 2) := by decide +kernel
theorem dX11_told_87 : decode cX11_told 87 = .ok (.isub, 1) := by decide +kernel
theorem dX11_told_88 : decode cX11_told 88 = .ok (.invokestatic 97, 3) := by decide +kernel
theorem dX11_told_91 : decode cX11_told 91 = .ok (.i2l, 1) := by decide +kernel
theorem dX11_told_92 : decode cX11_told 92 = .ok (.lreturn, 1) := by decide +kernel
theorem dX11_told_93 : decode cX11_told 93 = .ok (.aload_n 0, 1) := by decide +kernel
theorem dX11_told_94 : decode cX11_told 94 = .ok (.getfield 30, 3) := by decide +kernel
theorem dX11_told_97 : decode cX11_told 97 = .ok (.getfield 113, 3) := by decide +kernel
theorem dX11_told_100 : decode cX11_told 100 = .ok (.getfield 120, 3) := by decide +kernel
theorem dX11_told_103 : decode cX11_told 103 = .ok (.iload_n 1, 1) := by decide +kernel
theorem dX11_told_104 : decode cX11_told 104 = .ok (.invokevirtual 133, 3) := by decide +kernel
theorem dX11_told_107 : decode cX11_told 107 = .ok (.lreturn, 1) := by decide +kernel
theorem dX11_on_0 : decode cX11_on 0 = .ok (.aload_n 0, 1) := by decide +kernel
theorem dX11_on_1 : decode cX11_on 1 = .ok (.getfield 14, 3) := by decide +kernel
theorem dX11_on_4 : decode cX11_on 4 = .ok (.iload_n 1, 1) := by decide +kernel
theorem dX11_on_5 : decode cX11_on 5 = .ok (.invokevirtual 79, 3) := by decide +kernel
theorem dX11_on_8 : decode cX11_on 8 = .ok (.ifCond .ne 7, 3) := by decide +kernel
theorem dX11_on_11 : decode cX11_on 11 = .ok (.ldc2_w 108, 3) := by decide +kernel
theorem dX11_on_14 : decode cX11_on 14 = .ok (.lreturn, 1) := by decide +kernel
theorem dX11_on_15 : decode cX11_on 15 = .ok (.aload_n 0, 1) := by decide +kernel
theorem dX11_on_16 : decode cX11_on 16 = .ok (.getfield 40, 3) := by decide +kernel
theorem dX11_on_19 : decode cX11_on 19 = .ok (.aload_n 0, 1) := by decide +kernel
theorem dX11_on_20 : decode cX11_on 20 = .ok (.getfield 30, 3) := by decide +kernel
theorem dX11_on_23 : decode cX11_on 23 = .ok (.getfield 90, 3) := by decide +kernel
theorem dX11_on_26 : decode cX11_on 26 = .ok (.invokevirtual 136, 3) := by decide +kernel
theorem dX11_on_29 : decode cX11_on 29 = .ok (.aload_n 0, 1) := by decide +kernel
theorem dX11_on_30 : decode cX11_on 30 = .ok (.iload_n 1, 1) := by decide +kernel
theorem dX11_on_31 : decode cX11_on 31 = .ok (.invokevirtual 140, 3) := by decide +kernel
theorem dX11_on_34 : decode cX11_on 34 = .ok (.iload_n 2, 1) := by decide +kernel
theorem dX11_on_35 : decode cX11_on 35 = .ok (.invokevirtual 133, 3) := by decide +kernel
theorem dX11_on_38 : decode cX11_on 38 = .ok (.lreturn, 1) := by decide +kernel
theorem dX11_see_0 : decode cX11_see 0 = .ok (.iload_n 1, 1) := by decide +kernel
theorem dX11_see_1 : decode cX11_see 1 = .ok (.iconst (-1), 1) := by decide +kernel
theorem dX11_see_2 : decode cX11_see 2 = .ok (.if_icmp .ne 14, 3) := by decide +kernel
theorem dX11_see_5 : decode cX11_see 5 = .ok (.aload_n 0, 1) := by decide +kernel
theorem dX11_see_6 : decode cX11_see 6 = .ok (.getfield 30, 3) := by decide +kernel
theorem dX11_see_9 : decode cX11_see 9 = .ok (.getfield 144, 3) := by decide +kernel
theorem dX11_see_12 : decode cX11_see 12 = .ok (.invokevirtual 148, 3) := by decide +kernel
theorem dX11_see_15 : decode cX11_see 15 = .ok (.ireturn, 1) := by decide +kernel
theorem dX11_see_16 : decode cX11_see 16 = .ok (.iload_n 1, 1) := by decide +kernel
theorem dX11_see_17 : decode cX11_see 17 = .ok (.ifCond .lt 9, 3) := by decide +kernel
theorem dX11_see_20 : decode cX11_see 20 = .ok (.iload_n 1, 1) := by decide +kernel
theorem dX11_see_21 : decode cX11_see 21 = .ok (.bipush 40, 2) := by decide +kernel
theorem dX11_see_23 : decode cX11_see 23 = .ok (.if_icmp .lt 8, 3) := by decide +kernel
theorem dX11_see_26 : decode cX11_see 26 = .ok (.bipush (-2), 2) := by decide +kernel
theorem dX11_see_28 : decode cX11_see 28 = .ok (.goto 15, 3) := by decide +kernel
theorem dX11_see_31 : decode cX11_see 31 = .ok (.aload_n 0, 1) := by decide +kernel
theorem dX11_see_32 : decode cX11_see 32 = .ok (.getfield 30, 3) := by decide +kernel
theorem dX11_see_35 : decode cX11_see 35 = .ok (.getfield 144, 3) := by decide +kernel
theorem dX11_see_38 : decode cX11_see 38 = .ok (.iload_n 1, 1) := by decide +kernel
theorem dX11_see_39 : decode cX11_see 39 = .ok (.iload_n 2, 1) := by decide +kernel
theorem dX11_see_40 : decode cX11_see 40 = .ok (.invokevirtual 153, 3) := by decide +kernel
theorem dX11_see_43 : decode cX11_see 43 = .ok (.ireturn, 1) := by decide +kernel
theorem dX11_fits_0 : decode cX11_fits 0 = .ok (.aload_n 0, 1) := by decide +kernel
theorem dX11_fits_1 : decode cX11_fits 1 = .ok (.getfield 14, 3) := by decide +kernel
theorem dX11_fits_4 : decode cX11_fits 4 = .ok (.iload_n 1, 1) := by decide +kernel
theorem dX11_fits_5 : decode cX11_fits 5 = .ok (.invokevirtual 79, 3) := by decide +kernel
theorem dX11_fits_8 : decode cX11_fits 8 = .ok (.ifCond .eq 19, 3) := by decide +kernel
theorem dX11_fits_11 : decode cX11_fits 11 = .ok (.iload_n 2, 1) := by decide +kernel
theorem dX11_fits_12 : decode cX11_fits 12 = .ok (.invokestatic 105, 3) := by decide +kernel
theorem dX11_fits_15 : decode cX11_fits 15 = .ok (.ifCond .eq 12, 3) := by decide +kernel
theorem dX11_fits_18 : decode cX11_fits 18 = .ok (.iload_n 3, 1) := by decide +kernel
theorem dX11_fits_19 : decode cX11_fits 19 = .ok (.ifCond .lt 8, 3) := by decide +kernel
theorem dX11_fits_22 : decode cX11_fits 22 = .ok (.iload_n 3, 1) := by decide +kernel
theorem dX11_fits_23 : decode cX11_fits 23 = .ok (.iconst 1, 1) := by decide +kernel
theorem dX11_fits_24 : decode cX11_fits 24 = .ok (.if_icmp .le 5, 3) := by decide +kernel
theorem dX11_fits_27 : decode cX11_fits 27 = .ok (.iconst (-1), 1) := by decide +kernel
theorem dX11_fits_28 : decode cX11_fits 28 = .ok (.ireturn, 1) := by decide +kernel
theorem dX11_fits_29 : decode cX11_fits 29 = .ok (.iconst 0, 1) := by decide +kernel
theorem dX11_fits_30 : decode cX11_fits 30 = .ok (.istore 4, 2) := by decide +kernel
theorem dX11_fits_32 : decode cX11_fits 32 = .ok (.bipush (-5), 2) := by decide +kernel
theorem dX11_fits_34 : decode cX11_fits 34 = .ok (.istore 5, 2) := by decide +kernel
theorem dX11_fits_36 : decode cX11_fits 36 = .ok (.iconst 0, 1) := by decide +kernel
theorem dX11_fits_37 : decode cX11_fits 37 = .ok (.istore 6, 2) := by decide +kernel
theorem dX11_fits_39 : decode cX11_fits 39 = .ok (.iload 6, 2) := by decide +kernel
theorem dX11_fits_41 : decode cX11_fits 41 = .ok (.bipush 20, 2) := by decide +kernel
theorem dX11_fits_43 : decode cX11_fits 43 = .ok (.if_icmp .ge 49, 3) := by decide +kernel
theorem dX11_fits_46 : decode cX11_fits 46 = .ok (.aload_n 0, 1) := by decide +kernel
theorem dX11_fits_47 : decode cX11_fits 47 = .ok (.iload_n 1, 1) := by decide +kernel
theorem dX11_fits_48 : decode cX11_fits 48 = .ok (.iload_n 2, 1) := by decide +kernel
theorem dX11_fits_49 : decode cX11_fits 49 = .ok (.iload 6, 2) := by decide +kernel
theorem dX11_fits_51 : decode cX11_fits 51 = .ok (.invokevirtual 156, 3) := by decide +kernel
theorem dX11_fits_54 : decode cX11_fits 54 = .ok (.aload_n 0, 1) := by decide +kernel
theorem dX11_fits_55 : decode cX11_fits 55 = .ok (.getfield 30, 3) := by decide +kernel
theorem dX11_fits_58 : decode cX11_fits 58 = .ok (.getfield 144, 3) := by decide +kernel
theorem dX11_fits_61 : decode cX11_fits 61 = .ok (.invokevirtual 160, 3) := by decide +kernel
theorem dX11_fits_64 : decode cX11_fits 64 = .ok (.ifCond .eq 22, 3) := by decide +kernel
theorem dX11_fits_67 : decode cX11_fits 67 = .ok (.iinc 4 1, 3) := by decide +kernel
theorem dX11_fits_70 : decode cX11_fits 70 = .ok (.iload 5, 2) := by decide +kernel
theorem dX11_fits_72 : decode cX11_fits 72 = .ok (.bipush (-5), 2) := by decide +kernel
theorem dX11_fits_74 : decode cX11_fits 74 = .ok (.if_icmp .ne 8, 3) := by decide +kernel
theorem dX11_fits_77 : decode cX11_fits 77 = .ok (.iload 6, 2) := by decide +kernel
theorem dX11_fits_79 : decode cX11_fits 79 = .ok (.goto 5, 3) := by decide +kernel
theorem dX11_fits_82 : decode cX11_fits 82 = .ok (.iload 5, 2) := by decide +kernel
theorem dX11_fits_84 : decode cX11_fits 84 = .ok (.istore 5, 2) := by decide +kernel
theorem dX11_fits_86 : decode cX11_fits 86 = .ok (.iinc 6 1, 3) := by decide +kernel
theorem dX11_fits_89 : decode cX11_fits 89 = .ok (.goto (-50), 3) := by decide +kernel
theorem dX11_fits_92 : decode cX11_fits 92 = .ok (.iload_n 3, 1) := by decide +kernel
theorem dX11_fits_93 : decode cX11_fits 93 = .ok (.ifCond .ne 8, 3) := by decide +kernel
theorem dX11_fits_96 : decode cX11_fits 96 = .ok (.iload 4, 2) := by decide +kernel
theorem dX11_fits_98 : decode cX11_fits 98 = .ok (.goto 5, 3) := by decide +kernel
theorem dX11_fits_101 : decode cX11_fits 101 = .ok (.iload 5, 2) := by decide +kernel
theorem dX11_fits_103 : decode cX11_fits 103 = .ok (.ireturn, 1) := by decide +kernel
theorem dX11_alike_0 : decode cX11_alike 0 = .ok (.aload_n 0, 1) := by decide +kernel
theorem dX11_alike_1 : decode cX11_alike 1 = .ok (.getfield 14, 3) := by decide +kernel
theorem dX11_alike_4 : decode cX11_alike 4 = .ok (.iload_n 1, 1) := by decide +kernel
theorem dX11_alike_5 : decode cX11_alike 5 = .ok (.invokevirtual 79, 3) := by decide +kernel
theorem dX11_alike_8 : decode cX11_alike 8 = .ok (.ifCond .eq 14, 3) := by decide +kernel
theorem dX11_alike_11 : decode cX11_alike 11 = .ok (.aload_n 0, 1) := by decide +kernel
theorem dX11_alike_12 : decode cX11_alike 12 = .ok (.getfield 14, 3) := by decide +kernel
theorem dX11_alike_15 : decode cX11_alike 15 = .ok (.iload_n 2, 1) := by decide +kernel
theorem dX11_alike_16 : decode cX11_alike 16 = .ok (.invokevirtual 79, 3) := by decide +kernel
theorem dX11_alike_19 : decode cX11_alike 19 = .ok (.ifCond .ne 5, 3) := by decide +kernel
theorem dX11_alike_22 : decode cX11_alike 22 = .ok (.iconst (-1), 1) := by decide +kernel
theorem dX11_alike_23 : decode cX11_alike 23 = .ok (.ireturn, 1) := by decide +kernel
theorem dX11_alike_24 : decode cX11_alike 24 = .ok (.aload_n 0, 1) := by decide +kernel
theorem dX11_alike_25 : decode cX11_alike 25 = .ok (.getfield 40, 3) := by decide +kernel
theorem dX11_alike_28 : decode cX11_alike 28 = .ok (.aload_n 0, 1) := by decide +kernel
theorem dX11_alike_29 : decode cX11_alike 29 = .ok (.getfield 30, 3) := by decide +kernel
theorem dX11_alike_32 : decode cX11_alike 32 = .ok (.getfield 90, 3) := by decide +kernel
theorem dX11_alike_35 : decode cX11_alike 35 = .ok (.invokevirtual 136, 3) := by decide +kernel
theorem dX11_alike_38 : decode cX11_alike 38 = .ok (.aload_n 0, 1) := by decide +kernel
theorem dX11_alike_39 : decode cX11_alike 39 = .ok (.getfield 56, 3) := by decide +kernel
theorem dX11_alike_42 : decode cX11_alike 42 = .ok (.aload_n 0, 1) := by decide +kernel
theorem dX11_alike_43 : decode cX11_alike 43 = .ok (.iload_n 1, 1) := by decide +kernel
theorem dX11_alike_44 : decode cX11_alike 44 = .ok (.invokevirtual 140, 3) := by decide +kernel
theorem dX11_alike_47 : decode cX11_alike 47 = .ok (.invokevirtual 164, 3) := by decide +kernel
theorem dX11_alike_50 : decode cX11_alike 50 = .ok (.aload_n 0, 1) := by decide +kernel
theorem dX11_alike_51 : decode cX11_alike 51 = .ok (.getfield 40, 3) := by decide +kernel
theorem dX11_alike_54 : decode cX11_alike 54 = .ok (.aload_n 0, 1) := by decide +kernel
theorem dX11_alike_55 : decode cX11_alike 55 = .ok (.getfield 30, 3) := by decide +kernel
theorem dX11_alike_58 : decode cX11_alike 58 = .ok (.getfield 90, 3) := by decide +kernel
theorem dX11_alike_61 : decode cX11_alike 61 = .ok (.invokevirtual 136, 3) := by decide +kernel
theorem dX11_alike_64 : decode cX11_alike 64 = .ok (.aload_n 0, 1) := by decide +kernel
theorem dX11_alike_65 : decode cX11_alike 65 = .ok (.iload_n 2, 1) := by decide +kernel
theorem dX11_alike_66 : decode cX11_alike 66 = .ok (.invokevirtual 140, 3) := by decide +kernel
theorem dX11_alike_69 : decode cX11_alike 69 = .ok (.aload_n 0, 1) := by decide +kernel
theorem dX11_alike_70 : decode cX11_alike 70 = .ok (.getfield 56, 3) := by decide +kernel
theorem dX11_alike_73 : decode cX11_alike 73 = .ok (.invokevirtual 167, 3) := by decide +kernel
theorem dX11_alike_76 : decode cX11_alike 76 = .ok (.ifCond .eq 7, 3) := by decide +kernel
theorem dX11_alike_79 : decode cX11_alike 79 = .ok (.iconst 1, 1) := by decide +kernel
theorem dX11_alike_80 : decode cX11_alike 80 = .ok (.goto 4, 3) := by decide +kernel
theorem dX11_alike_83 : decode cX11_alike 83 = .ok (.iconst 0, 1) := by decide +kernel
theorem dX11_alike_84 : decode cX11_alike 84 = .ok (.ireturn, 1) := by decide +kernel
theorem dX11_odds_0 : decode cX11_odds 0 = .ok (.aload_n 0, 1) := by decide +kernel
theorem dX11_odds_1 : decode cX11_odds 1 = .ok (.getfield 14, 3) := by decide +kernel
theorem dX11_odds_4 : decode cX11_odds 4 = .ok (.iload_n 1, 1) := by decide +kernel
theorem dX11_odds_5 : decode cX11_odds 5 = .ok (.invokevirtual 79, 3) := by decide +kernel
theorem dX11_odds_8 : decode cX11_odds 8 = .ok (.ifCond .eq 19, 3) := by decide +kernel
theorem dX11_odds_11 : decode cX11_odds 11 = .ok (.iload_n 2, 1) := by decide +kernel
theorem dX11_odds_12 : decode cX11_odds 12 = .ok (.invokestatic 105, 3) := by decide +kernel
theorem dX11_odds_15 : decode cX11_odds 15 = .ok (.ifCond .eq 12, 3) := by decide +kernel
theorem dX11_odds_18 : decode cX11_odds 18 = .ok (.iload_n 3, 1) := by decide +kernel
theorem dX11_odds_19 : decode cX11_odds 19 = .ok (.ifCond .lt 8, 3) := by decide +kernel
theorem dX11_odds_22 : decode cX11_odds 22 = .ok (.iload_n 3, 1) := by decide +kernel
theorem dX11_odds_23 : decode cX11_odds 23 = .ok (.iconst 1, 1) := by decide +kernel
theorem dX11_odds_24 : decode cX11_odds 24 = .ok (.if_icmp .le 7, 3) := by decide +kernel
theorem dX11_odds_27 : decode cX11_odds 27 = .ok (.ldc2_w 108, 3) := by decide +kernel
theorem dX11_odds_30 : decode cX11_odds 30 = .ok (.lreturn, 1) := by decide +kernel
theorem dX11_odds_31 : decode cX11_odds 31 = .ok (.iconst 0, 1) := by decide +kernel
theorem dX11_odds_32 : decode cX11_odds 32 = .ok (.istore 4, 2) := by decide +kernel
theorem dX11_odds_34 : decode cX11_odds 34 = .ok (.iconst 0, 1) := by decide +kernel
theorem dX11_odds_35 : decode cX11_odds 35 = .ok (.istore 5, 2) := by decide +kernel
theorem dX11_odds_37 : decode cX11_odds 37 = .ok (.iload 5, 2) := by decide +kernel
theorem dX11_odds_39 : decode cX11_odds 39 = .ok (.bipush 10, 2) := by decide +kernel
theorem dX11_odds_41 : decode cX11_odds 41 = .ok (.if_icmp .ge 42, 3) := by decide +kernel
theorem dX11_odds_44 : decode cX11_odds 44 = .ok (.aload_n 0, 1) := by decide +kernel
theorem dX11_odds_45 : decode cX11_odds 45 = .ok (.iload_n 1, 1) := by decide +kernel
theorem dX11_odds_46 : decode cX11_odds 46 = .ok (.iload_n 2, 1) := by decide +kernel
theorem dX11_odds_47 : decode cX11_odds 47 = .ok (.iload 5, 2) := by decide +kernel
theorem dX11_odds_49 : decode cX11_odds 49 = .ok (.invokevirtual 156, 3) := by decide +kernel
theorem dX11_odds_52 : decode cX11_odds 52 = .ok (.iconst 1, 1) := by decide +kernel
theorem dX11_odds_53 : decode cX11_odds 53 = .ok (.invokevirtual 133, 3) := by decide +kernel
theorem dX11_odds_56 : decode cX11_odds 56 = .ok (.lstore 6, 2) := by decide +kernel
theorem dX11_odds_58 : decode cX11_odds 58 = .ok (.lload 6, 2) := by decide +kernel
theorem dX11_odds_60 : decode cX11_odds 60 = .ok (.ldc2_w 108, 3) := by decide +kernel
theorem dX11_odds_63 : decode cX11_odds 63 = .ok (.lcmp, 1) := by decide +kernel
theorem dX11_odds_64 : decode cX11_odds 64 = .ok (.ifCond .eq 13, 3) := by decide +kernel
theorem dX11_odds_67 : decode cX11_odds 67 = .ok (.lload 6, 2) := by decide +kernel
theorem dX11_odds_69 : decode cX11_odds 69 = .ok (.lconst 0, 1) := by decide +kernel
theorem dX11_odds_70 : decode cX11_odds 70 = .ok (.lcmp, 1) := by decide +kernel
theorem dX11_odds_71 : decode cX11_odds 71 = .ok (.ifCond .eq 6, 3) := by decide +kernel
theorem dX11_odds_74 : decode cX11_odds 74 = .ok (.iinc 4 1, 3) := by decide +kernel
theorem dX11_odds_77 : decode cX11_odds 77 = .ok (.iinc 5 1, 3) := by decide +kernel
theorem dX11_odds_80 : decode cX11_odds 80 = .ok (.goto (-43), 3) := by decide +kernel
theorem dX11_odds_83 : decode cX11_odds 83 = .ok (.iload 4, 2) := by decide +kernel
theorem dX11_odds_85 : decode cX11_odds 85 = .ok (.i2l, 1) := by decide +kernel
theorem dX11_odds_86 : decode cX11_odds 86 = .ok (.bipush 10, 2) := by decide +kernel
theorem dX11_odds_88 : decode cX11_odds 88 = .ok (.iload_n 3, 1) := by decide +kernel
theorem dX11_odds_89 : decode cX11_odds 89 = .ok (.invokestatic 171, 3) := by decide +kernel
theorem dX11_odds_92 : decode cX11_odds 92 = .ok (.lreturn, 1) := by decide +kernel
theorem dX11_mean_0 : decode cX11_mean 0 = .ok (.aload_n 0, 1) := by decide +kernel
theorem dX11_mean_1 : decode cX11_mean 1 = .ok (.getfield 14, 3) := by decide +kernel
theorem dX11_mean_4 : decode cX11_mean 4 = .ok (.iload_n 1, 1) := by decide +kernel
theorem dX11_mean_5 : decode cX11_mean 5 = .ok (.invokevirtual 79, 3) := by decide +kernel
theorem dX11_mean_8 : decode cX11_mean 8 = .ok (.ifCond .eq 12, 3) := by decide +kernel
theorem dX11_mean_11 : decode cX11_mean 11 = .ok (.iload_n 2, 1) := by decide +kernel
theorem dX11_mean_12 : decode cX11_mean 12 = .ok (.ifCond .lt 8, 3) := by decide +kernel
theorem dX11_mean_15 : decode cX11_mean 15 = .ok (.iload_n 2, 1) := by decide +kernel
theorem dX11_mean_16 : decode cX11_mean 16 = .ok (.iconst 1, 1) := by decide +kernel
theorem dX11_mean_17 : decode cX11_mean 17 = .ok (.if_icmp .le 7, 3) := by decide +kernel
theorem dX11_mean_20 : decode cX11_mean 20 = .ok (.ldc2_w 108, 3) := by decide +kernel
theorem dX11_mean_23 : decode cX11_mean 23 = .ok (.lreturn, 1) := by decide +kernel
theorem dX11_mean_24 : decode cX11_mean 24 = .ok (.aload_n 0, 1) := by decide +kernel
theorem dX11_mean_25 : decode cX11_mean 25 = .ok (.getfield 40, 3) := by decide +kernel
theorem dX11_mean_28 : decode cX11_mean 28 = .ok (.aload_n 0, 1) := by decide +kernel
theorem dX11_mean_29 : decode cX11_mean 29 = .ok (.getfield 30, 3) := by decide +kernel
theorem dX11_mean_32 : decode cX11_mean 32 = .ok (.getfield 90, 3) := by decide +kernel
theorem dX11_mean_35 : decode cX11_mean 35 = .ok (.invokevirtual 136, 3) := by decide +kernel
theorem dX11_mean_38 : decode cX11_mean 38 = .ok (.aload_n 0, 1) := by decide +kernel
theorem dX11_mean_39 : decode cX11_mean 39 = .ok (.iload_n 1, 1) := by decide +kernel
theorem dX11_mean_40 : decode cX11_mean 40 = .ok (.invokevirtual 140, 3) := by decide +kernel
theorem dX11_mean_43 : decode cX11_mean 43 = .ok (.astore_n 3, 1) := by decide +kernel
theorem dX11_mean_44 : decode cX11_mean 44 = .ok (.aload_n 3, 1) := by decide +kernel
theorem dX11_mean_45 : decode cX11_mean 45 = .ok (.getfield 175, 3) := by decide +kernel
theorem dX11_mean_48 : decode cX11_mean 48 = .ok (.ifCond .ne 9, 3) := by decide +kernel
theorem dX11_mean_51 : decode cX11_mean 51 = .ok (.ldc2_w 108, 3) := by decide +kernel
theorem dX11_mean_54 : decode cX11_mean 54 = .ok (.goto 15, 3) := by decide +kernel
theorem dX11_mean_57 : decode cX11_mean 57 = .ok (.aload_n 3, 1) := by decide +kernel
theorem dX11_mean_58 : decode cX11_mean 58 = .ok (.invokevirtual 176, 3) := by decide +kernel
theorem dX11_mean_61 : decode cX11_mean 61 = .ok (.aload_n 3, 1) := by decide +kernel
theorem dX11_mean_62 : decode cX11_mean 62 = .ok (.getfield 175, 3) := by decide +kernel
theorem dX11_mean_65 : decode cX11_mean 65 = .ok (.iload_n 2, 1) := by decide +kernel
theorem dX11_mean_66 : decode cX11_mean 66 = .ok (.invokestatic 171, 3) := by decide +kernel
theorem dX11_mean_69 : decode cX11_mean 69 = .ok (.lreturn, 1) := by decide +kernel
theorem dX11_tryOut_0 : decode cX11_tryOut 0 = .ok (.aload_n 0, 1) := by decide +kernel
theorem dX11_tryOut_1 : decode cX11_tryOut 1 = .ok (.getfield 49, 3) := by decide +kernel
theorem dX11_tryOut_4 : decode cX11_tryOut 4 = .ok (.iload_n 1, 1) := by decide +kernel
theorem dX11_tryOut_5 : decode cX11_tryOut 5 = .ok (.invokevirtual 116, 3) := by decide +kernel
theorem dX11_tryOut_8 : decode cX11_tryOut 8 = .ok (.aload_n 0, 1) := by decide +kernel
theorem dX11_tryOut_9 : decode cX11_tryOut 9 = .ok (.getfield 49, 3) := by decide +kernel
theorem dX11_tryOut_12 : decode cX11_tryOut 12 = .ok (.sipush 300, 3) := by decide +kernel
theorem dX11_tryOut_15 : decode cX11_tryOut 15 = .ok (.invokevirtual 126, 3) := by decide +kernel
theorem dX11_tryOut_18 : decode cX11_tryOut 18 = .ok (.pop, 1) := by decide +kernel
theorem dX11_tryOut_19 : decode cX11_tryOut 19 = .ok (.aload_n 0, 1) := by decide +kernel
theorem dX11_tryOut_20 : decode cX11_tryOut 20 = .ok (.getfield 49, 3) := by decide +kernel
theorem dX11_tryOut_23 : decode cX11_tryOut 23 = .ok (.getfield 120, 3) := by decide +kernel
theorem dX11_tryOut_26 : decode cX11_tryOut 26 = .ok (.areturn, 1) := by decide +kernel
theorem dX11_tryWith_0 : decode cX11_tryWith 0 = .ok (.aload_n 0, 1) := by decide +kernel
theorem dX11_tryWith_1 : decode cX11_tryWith 1 = .ok (.getfield 40, 3) := by decide +kernel
theorem dX11_tryWith_4 : decode cX11_tryWith 4 = .ok (.aload_n 0, 1) := by decide +kernel
theorem dX11_tryWith_5 : decode cX11_tryWith 5 = .ok (.getfield 30, 3) := by decide +kernel
theorem dX11_tryWith_8 : decode cX11_tryWith 8 = .ok (.getfield 90, 3) := by decide +kernel
theorem dX11_tryWith_11 : decode cX11_tryWith 11 = .ok (.invokevirtual 136, 3) := by decide +kernel
theorem dX11_tryWith_14 : decode cX11_tryWith 14 = .ok (.aload_n 0, 1) := by decide +kernel
theorem dX11_tryWith_15 : decode cX11_tryWith 15 = .ok (.getfield 40, 3) := by decide +kernel
theorem dX11_tryWith_18 : decode cX11_tryWith 18 = .ok (.getfield 110, 3) := by decide +kernel
theorem dX11_tryWith_21 : decode cX11_tryWith 21 = .ok (.iload_n 2, 1) := by decide +kernel
theorem dX11_tryWith_22 : decode cX11_tryWith 22 = .ok (.iload_n 3, 1) := by decide +kernel
theorem dX11_tryWith_23 : decode cX11_tryWith 23 = .ok (.invokestatic 101, 3) := by decide +kernel
theorem dX11_tryWith_26 : decode cX11_tryWith 26 = .ok (.aload_n 0, 1) := by decide +kernel
theorem dX11_tryWith_27 : decode cX11_tryWith 27 = .ok (.getfield 49, 3) := by decide +kernel
theorem dX11_tryWith_30 : decode cX11_tryWith 30 = .ok (.iload_n 1, 1) := by decide +kernel
theorem dX11_tryWith_31 : decode cX11_tryWith 31 = .ok (.invokevirtual 116, 3) := by decide +kernel
theorem dX11_tryWith_34 : decode cX11_tryWith 34 = .ok (.aload_n 0, 1) := by decide +kernel
theorem dX11_tryWith_35 : decode cX11_tryWith 35 = .ok (.getfield 49, 3) := by decide +kernel
theorem dX11_tryWith_38 : decode cX11_tryWith 38 = .ok (.sipush 300, 3) := by decide +kernel
theorem dX11_tryWith_41 : decode cX11_tryWith 41 = .ok (.invokevirtual 126, 3) := by decide +kernel
theorem dX11_tryWith_44 : decode cX11_tryWith 44 = .ok (.pop, 1) := by decide +kernel
theorem dX11_tryWith_45 : decode cX11_tryWith 45 = .ok (.aload_n 0, 1) := by decide +kernel
theorem dX11_tryWith_46 : decode cX11_tryWith 46 = .ok (.getfield 49, 3) := by decide +kernel
theorem dX11_tryWith_49 : decode cX11_tryWith 49 = .ok (.getfield 120, 3) := by decide +kernel
theorem dX11_tryWith_52 : decode cX11_tryWith 52 = .ok (.areturn, 1) := by decide +kernel
theorem dX11_inLowestTerms_0 : decode cX11_inLowestTerms 0 = .ok (.iconst 1, 1) := by decide +kernel
theorem dX11_inLowestTerms_1 : decode cX11_inLowestTerms 1 = .ok (.istore 4, 2) := by decide +kernel
theorem dX11_inLowestTerms_3 : decode cX11_inLowestTerms 3 = .ok (.iconst 2, 1) := by decide +kernel
theorem dX11_inLowestTerms_4 : decode cX11_inLowestTerms 4 = .ok (.istore 5, 2) := by decide +kernel
theorem dX11_inLowestTerms_6 : decode cX11_inLowestTerms 6 = .ok (.iload 5, 2) := by decide +kernel
theorem dX11_inLowestTerms_8 : decode cX11_inLowestTerms 8 = .ok (.iload_n 2, 1) := by decide +kernel
theorem dX11_inLowestTerms_9 : decode cX11_inLowestTerms 9 = .ok (.if_icmp .gt 30, 3) := by decide +kernel
theorem dX11_inLowestTerms_12 : decode cX11_inLowestTerms 12 = .ok (.lload_n 0, 1) := by decide +kernel
theorem dX11_inLowestTerms_13 : decode cX11_inLowestTerms 13 = .ok (.iload 5, 2) := by decide +kernel
theorem dX11_inLowestTerms_15 : decode cX11_inLowestTerms 15 = .ok (.i2l, 1) := by decide +kernel
theorem dX11_inLowestTerms_16 : decode cX11_inLowestTerms 16 = .ok (.lrem, 1) := by decide +kernel
theorem dX11_inLowestTerms_17 : decode cX11_inLowestTerms 17 = .ok (.lconst 0, 1) := by decide +kernel
theorem dX11_inLowestTerms_18 : decode cX11_inLowestTerms 18 = .ok (.lcmp, 1) := by decide +kernel
theorem dX11_inLowestTerms_19 : decode cX11_inLowestTerms 19 = .ok (.ifCond .ne 14, 3) := by decide +kernel
theorem dX11_inLowestTerms_22 : decode cX11_inLowestTerms 22 = .ok (.iload_n 2, 1) := by decide +kernel
theorem dX11_inLowestTerms_23 : decode cX11_inLowestTerms 23 = .ok (.iload 5, 2) := by decide +kernel
theorem dX11_inLowestTerms_25 : decode cX11_inLowestTerms 25 = .ok (.irem, 1) := by decide +kernel
theorem dX11_inLowestTerms_26 : decode cX11_inLowestTerms 26 = .ok (.ifCond .ne 7, 3) := by decide +kernel
theorem dX11_inLowestTerms_29 : decode cX11_inLowestTerms 29 = .ok (.iload 5, 2) := by decide +kernel
theorem dX11_inLowestTerms_31 : decode cX11_inLowestTerms 31 = .ok (.istore 4, 2) := by decide +kernel
theorem dX11_inLowestTerms_33 : decode cX11_inLowestTerms 33 = .ok (.iinc 5 1, 3) := by decide +kernel
theorem dX11_inLowestTerms_36 : decode cX11_inLowestTerms 36 = .ok (.goto (-30), 3) := by decide +kernel
theorem dX11_inLowestTerms_39 : decode cX11_inLowestTerms 39 = .ok (.iload_n 3, 1) := by decide +kernel
theorem dX11_inLowestTerms_40 : decode cX11_inLowestTerms 40 = .ok (.ifCond .ne 11, 3) := by decide +kernel
theorem dX11_inLowestTerms_43 : decode cX11_inLowestTerms 43 = .ok (.lload_n 0, 1) := by decide +kernel
theorem dX11_inLowestTerms_44 : decode cX11_inLowestTerms 44 = .ok (.iload 4, 2) := by decide +kernel
theorem dX11_inLowestTerms_46 : decode cX11_inLowestTerms 46 = .ok (.i2l, 1) := by decide +kernel
theorem dX11_inLowestTerms_47 : decode cX11_inLowestTerms 47 = .ok (.ldiv, 1) := by decide +kernel
theorem dX11_inLowestTerms_48 : decode cX11_inLowestTerms 48 = .ok (.goto 8, 3) := by decide +kernel
theorem dX11_inLowestTerms_51 : decode cX11_inLowestTerms 51 = .ok (.iload_n 2, 1) := by decide +kernel
theorem dX11_inLowestTerms_52 : decode cX11_inLowestTerms 52 = .ok (.iload 4, 2) := by decide +kernel
theorem dX11_inLowestTerms_54 : decode cX11_inLowestTerms 54 = .ok (.idiv, 1) := by decide +kernel
theorem dX11_inLowestTerms_55 : decode cX11_inLowestTerms 55 = .ok (.i2l, 1) := by decide +kernel
theorem dX11_inLowestTerms_56 : decode cX11_inLowestTerms 56 = .ok (.lreturn, 1) := by decide +kernel
theorem dX11_plan_0 : decode cX11_plan 0 = .ok (.iload_n 1, 1) := by decide +kernel
theorem dX11_plan_1 : decode cX11_plan 1 = .ok (.iconst (-1), 1) := by decide +kernel
theorem dX11_plan_2 : decode cX11_plan 2 = .ok (.if_icmp .ne 14, 3) := by decide +kernel
theorem dX11_plan_5 : decode cX11_plan 5 = .ok (.aload_n 0, 1) := by decide +kernel
theorem dX11_plan_6 : decode cX11_plan 6 = .ok (.getfield 30, 3) := by decide +kernel
theorem dX11_plan_9 : decode cX11_plan 9 = .ok (.getfield 180, 3) := by decide +kernel
theorem dX11_plan_12 : decode cX11_plan 12 = .ok (.invokevirtual 148, 3) := by decide +kernel
theorem dX11_plan_15 : decode cX11_plan 15 = .ok (.ireturn, 1) := by decide +kernel
theorem dX11_plan_16 : decode cX11_plan 16 = .ok (.iload_n 1, 1) := by decide +kernel
theorem dX11_plan_17 : decode cX11_plan 17 = .ok (.ifCond .ne 14, 3) := by decide +kernel
theorem dX11_plan_20 : decode cX11_plan 20 = .ok (.aload_n 0, 1) := by decide +kernel
theorem dX11_plan_21 : decode cX11_plan 21 = .ok (.getfield 14, 3) := by decide +kernel
theorem dX11_plan_24 : decode cX11_plan 24 = .ok (.iload_n 2, 1) := by decide +kernel
theorem dX11_plan_25 : decode cX11_plan 25 = .ok (.invokevirtual 79, 3) := by decide +kernel
theorem dX11_plan_28 : decode cX11_plan 28 = .ok (.ifCond .ne 27, 3) := by decide +kernel
theorem dX11_plan_31 : decode cX11_plan 31 = .ok (.iload_n 1, 1) := by decide +kernel
theorem dX11_plan_32 : decode cX11_plan 32 = .ok (.iconst 1, 1) := by decide +kernel
theorem dX11_plan_33 : decode cX11_plan 33 = .ok (.if_icmp .ne 10, 3) := by decide +kernel
theorem dX11_plan_36 : decode cX11_plan 36 = .ok (.iload_n 2, 1) := by decide +kernel
theorem dX11_plan_37 : decode cX11_plan 37 = .ok (.invokestatic 105, 3) := by decide +kernel
theorem dX11_plan_40 : decode cX11_plan 40 = .ok (.ifCond .ne 15, 3) := by decide +kernel
theorem dX11_plan_43 : decode cX11_plan 43 = .ok (.iload_n 1, 1) := by decide +kernel
theorem dX11_plan_44 : decode cX11_plan 44 = .ok (.iconst 2, 1) := by decide +kernel
theorem dX11_plan_45 : decode cX11_plan 45 = .ok (.if_icmp .ne 14, 3) := by decide +kernel
theorem dX11_plan_48 : decode cX11_plan 48 = .ok (.iload_n 2, 1) := by decide +kernel
theorem dX11_plan_49 : decode cX11_plan 49 = .ok (.invokestatic 87, 3) := by decide +kernel
theorem dX11_plan_52 : decode cX11_plan 52 = .ok (.ifCond .eq 7, 3) := by decide +kernel
theorem dX11_plan_55 : decode cX11_plan 55 = .ok (.iconst 1, 1) := by decide +kernel
theorem dX11_plan_56 : decode cX11_plan 56 = .ok (.goto 4, 3) := by decide +kernel
theorem dX11_plan_59 : decode cX11_plan 59 = .ok (.iconst 0, 1) := by decide +kernel
theorem dX11_plan_60 : decode cX11_plan 60 = .ok (.istore_n 3, 1) := by decide +kernel
theorem dX11_plan_61 : decode cX11_plan 61 = .ok (.iload_n 3, 1) := by decide +kernel
theorem dX11_plan_62 : decode cX11_plan 62 = .ok (.ifCond .eq 18, 3) := by decide +kernel
theorem dX11_plan_65 : decode cX11_plan 65 = .ok (.aload_n 0, 1) := by decide +kernel
theorem dX11_plan_66 : decode cX11_plan 66 = .ok (.getfield 30, 3) := by decide +kernel
theorem dX11_plan_69 : decode cX11_plan 69 = .ok (.getfield 180, 3) := by decide +kernel
theorem dX11_plan_72 : decode cX11_plan 72 = .ok (.iload_n 1, 1) := by decide +kernel
theorem dX11_plan_73 : decode cX11_plan 73 = .ok (.iload_n 2, 1) := by decide +kernel
theorem dX11_plan_74 : decode cX11_plan 74 = .ok (.invokevirtual 153, 3) := by decide +kernel
theorem dX11_plan_77 : decode cX11_plan 77 = .ok (.goto 4, 3) := by decide +kernel
theorem dX11_plan_80 : decode cX11_plan 80 = .ok (.iconst (-1), 1) := by decide +kernel
theorem dX11_plan_81 : decode cX11_plan 81 = .ok (.ireturn, 1) := by decide +kernel
theorem dX11_ends_0 : decode cX11_ends 0 = .ok (.iload_n 1, 1) := by decide +kernel
theorem dX11_ends_1 : decode cX11_ends 1 = .ok (.invokestatic 105, 3) := by decide +kernel
theorem dX11_ends_4 : decode cX11_ends 4 = .ok (.ifCond .ne 7, 3) := by decide +kernel
theorem dX11_ends_7 : decode cX11_ends 7 = .ok (.ldc2_w 108, 3) := by decide +kernel
theorem dX11_ends_10 : decode cX11_ends 10 = .ok (.lreturn, 1) := by decide +kernel
theorem dX11_ends_11 : decode cX11_ends 11 = .ok (.aload_n 0, 1) := by decide +kernel
theorem dX11_ends_12 : decode cX11_ends 12 = .ok (.getfield 40, 3) := by decide +kernel
theorem dX11_ends_15 : decode cX11_ends 15 = .ok (.aload_n 0, 1) := by decide +kernel
theorem dX11_ends_16 : decode cX11_ends 16 = .ok (.getfield 30, 3) := by decide +kernel
theorem dX11_ends_19 : decode cX11_ends 19 = .ok (.getfield 90, 3) := by decide +kernel
theorem dX11_ends_22 : decode cX11_ends 22 = .ok (.invokevirtual 136, 3) := by decide +kernel
theorem dX11_ends_25 : decode cX11_ends 25 = .ok (.iconst 0, 1) := by decide +kernel
theorem dX11_ends_26 : decode cX11_ends 26 = .ok (.istore_n 2, 1) := by decide +kernel
theorem dX11_ends_27 : decode cX11_ends 27 = .ok (.iload_n 2, 1) := by decide +kernel
theorem dX11_ends_28 : decode cX11_ends 28 = .ok (.aload_n 0, 1) := by decide +kernel
theorem dX11_ends_29 : decode cX11_ends 29 = .ok (.getfield 30, 3) := by decide +kernel
theorem dX11_ends_32 : decode cX11_ends 32 = .ok (.getfield 180, 3) := by decide +kernel
theorem dX11_ends_35 : decode cX11_ends 35 = .ok (.getfield 183, 3) := by decide +kernel
theorem dX11_ends_38 : decode cX11_ends 38 = .ok (.if_icmp .ge 101, 3) := by decide +kernel
theorem dX11_ends_41 : decode cX11_ends 41 = .ok (.aload_n 0, 1) := by decide +kernel
theorem dX11_ends_42 : decode cX11_ends 42 = .ok (.getfield 30, 3) := by decide +kernel
theorem dX11_ends_45 : decode cX11_ends 45 = .ok (.getfield 180, 3) := by decide +kernel
theorem dX11_ends_48 : decode cX11_ends 48 = .ok (.getfield 184, 3) := by decide +kernel
theorem dX11_ends_51 : decode cX11_ends 51 = .ok (.iload_n 2, 1) := by decide +kernel
theorem dX11_ends_52 : decode cX11_ends 52 = .ok (.invokestatic 97, 3) := by decide +kernel
theorem dX11_ends_55 : decode cX11_ends 55 = .ok (.istore_n 3, 1) := by decide +kernel
theorem dX11_ends_56 : decode cX11_ends 56 = .ok (.aload_n 0, 1) := by decide +kernel
theorem dX11_ends_57 : decode cX11_ends 57 = .ok (.getfield 30, 3) := by decide +kernel
theorem dX11_ends_60 : decode cX11_ends 60 = .ok (.getfield 180, 3) := by decide +kernel
theorem dX11_ends_63 : decode cX11_ends 63 = .ok (.getfield 187, 3) := by decide +kernel
theorem dX11_ends_66 : decode cX11_ends 66 = .ok (.iload_n 2, 1) := by decide +kernel
theorem dX11_ends_67 : decode cX11_ends 67 = .ok (.invokestatic 97, 3) := by decide +kernel
theorem dX11_ends_70 : decode cX11_ends 70 = .ok (.lookupswitch 50 #[(0, 26), (1, 35)], 26) := by decide +kernel
theorem dX11_ends_96 : decode cX11_ends 96 = .ok (.aload_n 0, 1) := by decide +kernel
theorem dX11_ends_97 : decode cX11_ends 97 = .ok (.iload_n 3, 1) := by decide +kernel
theorem dX11_ends_98 : decode cX11_ends 98 = .ok (.invokevirtual 140, 3) := by decide +kernel
theorem dX11_ends_101 : decode cX11_ends 101 = .ok (.pop, 1) := by decide +kernel
theorem dX11_ends_102 : decode cX11_ends 102 = .ok (.goto 31, 3) := by decide +kernel
theorem dX11_ends_105 : decode cX11_ends 105 = .ok (.aload_n 0, 1) := by decide +kernel
theorem dX11_ends_106 : decode cX11_ends 106 = .ok (.getfield 40, 3) := by decide +kernel
theorem dX11_ends_109 : decode cX11_ends 109 = .ok (.getfield 110, 3) := by decide +kernel
theorem dX11_ends_112 : decode cX11_ends 112 = .ok (.iload_n 3, 1) := by decide +kernel
theorem dX11_ends_113 : decode cX11_ends 113 = .ok (.iconst 0, 1) := by decide +kernel
theorem dX11_ends_114 : decode cX11_ends 114 = .ok (.invokestatic 101, 3) := by decide +kernel
theorem dX11_ends_117 : decode cX11_ends 117 = .ok (.goto 16, 3) := by decide +kernel
theorem dX11_ends_120 : decode cX11_ends 120 = .ok (.aload_n 0, 1) := by decide +kernel
theorem dX11_ends_121 : decode cX11_ends 121 = .ok (.getfield 40, 3) := by decide +kernel
theorem dX11_ends_124 : decode cX11_ends 124 = .ok (.getfield 93, 3) := by decide +kernel
theorem dX11_ends_127 : decode cX11_ends 127 = .ok (.iload_n 3, 1) := by decide +kernel
theorem dX11_ends_128 : decode cX11_ends 128 = .ok (.bipush (-5), 2) := by decide +kernel
theorem dX11_ends_130 : decode cX11_ends 130 = .ok (.invokestatic 101, 3) := by decide +kernel
theorem dX11_ends_133 : decode cX11_ends 133 = .ok (.iinc 2 1, 3) := by decide +kernel
theorem dX11_ends_136 : decode cX11_ends 136 = .ok (.goto (-109), 3) := by decide +kernel
theorem dX11_ends_139 : decode cX11_ends 139 = .ok (.aload_n 0, 1) := by decide +kernel
theorem dX11_ends_140 : decode cX11_ends 140 = .ok (.getfield 40, 3) := by decide +kernel
theorem dX11_ends_143 : decode cX11_ends 143 = .ok (.getfield 110, 3) := by decide +kernel
theorem dX11_ends_146 : decode cX11_ends 146 = .ok (.iload_n 1, 1) := by decide +kernel
theorem dX11_ends_147 : decode cX11_ends 147 = .ok (.invokestatic 97, 3) := by decide +kernel
theorem dX11_ends_150 : decode cX11_ends 150 = .ok (.i2l, 1) := by decide +kernel
theorem dX11_ends_151 : decode cX11_ends 151 = .ok (.lreturn, 1) := by decide +kernel
theorem dX11_book_0 : decode cX11_book 0 = .ok (.iload_n 1, 1) := by decide +kernel
theorem dX11_book_1 : decode cX11_book 1 = .ok (.iconst (-1), 1) := by decide +kernel
theorem dX11_book_2 : decode cX11_book 2 = .ok (.if_icmp .ne 14, 3) := by decide +kernel
theorem dX11_book_5 : decode cX11_book 5 = .ok (.aload_n 0, 1) := by decide +kernel
theorem dX11_book_6 : decode cX11_book 6 = .ok (.getfield 30, 3) := by decide +kernel
theorem dX11_book_9 : decode cX11_book 9 = .ok (.getfield 190, 3) := by decide +kernel
theorem dX11_book_12 : decode cX11_book 12 = .ok (.invokevirtual 148, 3) := by decide +kernel
theorem dX11_book_15 : decode cX11_book 15 = .ok (.ireturn, 1) := by decide +kernel
theorem dX11_book_16 : decode cX11_book 16 = .ok (.iload_n 1, 1) := by decide +kernel
theorem dX11_book_17 : decode cX11_book 17 = .ok (.invokestatic 105, 3) := by decide +kernel
theorem dX11_book_20 : decode cX11_book 20 = .ok (.ifCond .eq 18, 3) := by decide +kernel
theorem dX11_book_23 : decode cX11_book 23 = .ok (.aload_n 0, 1) := by decide +kernel
theorem dX11_book_24 : decode cX11_book 24 = .ok (.getfield 30, 3) := by decide +kernel
theorem dX11_book_27 : decode cX11_book 27 = .ok (.getfield 190, 3) := by decide +kernel
theorem dX11_book_30 : decode cX11_book 30 = .ok (.iload_n 1, 1) := by decide +kernel
theorem dX11_book_31 : decode cX11_book 31 = .ok (.iload_n 2, 1) := by decide +kernel
theorem dX11_book_32 : decode cX11_book 32 = .ok (.invokevirtual 153, 3) := by decide +kernel
theorem dX11_book_35 : decode cX11_book 35 = .ok (.goto 4, 3) := by decide +kernel
theorem dX11_book_38 : decode cX11_book 38 = .ok (.iconst (-1), 1) := by decide +kernel
theorem dX11_book_39 : decode cX11_book 39 = .ok (.ireturn, 1) := by decide +kernel
theorem dX11_looked_0 : decode cX11_looked 0 = .ok (.iconst 0, 1) := by decide +kernel
theorem dX11_looked_1 : decode cX11_looked 1 = .ok (.istore_n 1, 1) := by decide +kernel
theorem dX11_looked_2 : decode cX11_looked 2 = .ok (.iload_n 1, 1) := by decide +kernel
theorem dX11_looked_3 : decode cX11_looked 3 = .ok (.aload_n 0, 1) := by decide +kernel
theorem dX11_looked_4 : decode cX11_looked 4 = .ok (.getfield 30, 3) := by decide +kernel
theorem dX11_looked_7 : decode cX11_looked 7 = .ok (.getfield 190, 3) := by decide +kernel
theorem dX11_looked_10 : decode cX11_looked 10 = .ok (.getfield 183, 3) := by decide +kernel
theorem dX11_looked_13 : decode cX11_looked 13 = .ok (.if_icmp .ge 55, 3) := by decide +kernel
theorem dX11_looked_16 : decode cX11_looked 16 = .ok (.aload_n 0, 1) := by decide +kernel
theorem dX11_looked_17 : decode cX11_looked 17 = .ok (.getfield 30, 3) := by decide +kernel
theorem dX11_looked_20 : decode cX11_looked 20 = .ok (.getfield 90, 3) := by decide +kernel
theorem dX11_looked_23 : decode cX11_looked 23 = .ok (.getfield 110, 3) := by decide +kernel
theorem dX11_looked_26 : decode cX11_looked 26 = .ok (.aload_n 0, 1) := by decide +kernel
theorem dX11_looked_27 : decode cX11_looked 27 = .ok (.getfield 30, 3) := by decide +kernel
theorem dX11_looked_30 : decode cX11_looked 30 = .ok (.getfield 190, 3) := by decide +kernel
theorem dX11_looked_33 : decode cX11_looked 33 = .ok (.getfield 187, 3) := by decide +kernel
theorem dX11_looked_36 : decode cX11_looked 36 = .ok (.iload_n 1, 1) := by decide +kernel
theorem dX11_looked_37 : decode cX11_looked 37 = .ok (.invokestatic 97, 3) := by decide +kernel
theorem dX11_looked_40 : decode cX11_looked 40 = .ok (.invokestatic 97, 3) := by decide +kernel
theorem dX11_looked_43 : decode cX11_looked 43 = .ok (.aload_n 0, 1) := by decide +kernel
theorem dX11_looked_44 : decode cX11_looked 44 = .ok (.getfield 30, 3) := by decide +kernel
theorem dX11_looked_47 : decode cX11_looked 47 = .ok (.getfield 190, 3) := by decide +kernel
theorem dX11_looked_50 : decode cX11_looked 50 = .ok (.getfield 184, 3) := by decide +kernel
theorem dX11_looked_53 : decode cX11_looked 53 = .ok (.iload_n 1, 1) := by decide +kernel
theorem dX11_looked_54 : decode cX11_looked 54 = .ok (.invokestatic 97, 3) := by decide +kernel
theorem dX11_looked_57 : decode cX11_looked 57 = .ok (.if_icmp .eq 5, 3) := by decide +kernel
theorem dX11_looked_60 : decode cX11_looked 60 = .ok (.iload_n 1, 1) := by decide +kernel
theorem dX11_looked_61 : decode cX11_looked 61 = .ok (.ireturn, 1) := by decide +kernel
theorem dX11_looked_62 : decode cX11_looked 62 = .ok (.iinc 1 1, 3) := by decide +kernel
theorem dX11_looked_65 : decode cX11_looked 65 = .ok (.goto (-63), 3) := by decide +kernel
theorem dX11_looked_68 : decode cX11_looked 68 = .ok (.bipush (-5), 2) := by decide +kernel
theorem dX11_looked_70 : decode cX11_looked 70 = .ok (.ireturn, 1) := by decide +kernel
theorem dX11_judge_0 : decode cX11_judge 0 = .ok (.aload_n 0, 1) := by decide +kernel
theorem dX11_judge_1 : decode cX11_judge 1 = .ok (.iload_n 1, 1) := by decide +kernel
theorem dX11_judge_2 : decode cX11_judge 2 = .ok (.invokevirtual 193, 3) := by decide +kernel
theorem dX11_judge_5 : decode cX11_judge 5 = .ok (.astore_n 3, 1) := by decide +kernel
theorem dX11_judge_6 : decode cX11_judge 6 = .ok (.aload_n 3, 1) := by decide +kernel
theorem dX11_judge_7 : decode cX11_judge 7 = .ok (.ifnonnull 5, 3) := by decide +kernel
theorem dX11_judge_10 : decode cX11_judge 10 = .ok (.iconst (-1), 1) := by decide +kernel
theorem dX11_judge_11 : decode cX11_judge 11 = .ok (.ireturn, 1) := by decide +kernel
theorem dX11_judge_12 : decode cX11_judge 12 = .ok (.aload_n 3, 1) := by decide +kernel
theorem dX11_judge_13 : decode cX11_judge 13 = .ok (.getfield 197, 3) := by decide +kernel
theorem dX11_judge_16 : decode cX11_judge 16 = .ok (.iconst (-1), 1) := by decide +kernel
theorem dX11_judge_17 : decode cX11_judge 17 = .ok (.if_icmp .eq 14, 3) := by decide +kernel
theorem dX11_judge_20 : decode cX11_judge 20 = .ok (.aload_n 3, 1) := by decide +kernel
theorem dX11_judge_21 : decode cX11_judge 21 = .ok (.getfield 197, 3) := by decide +kernel
theorem dX11_judge_24 : decode cX11_judge 24 = .ok (.iconst 2, 1) := by decide +kernel
theorem dX11_judge_25 : decode cX11_judge 25 = .ok (.if_icmp .eq 6, 3) := by decide +kernel
theorem dX11_judge_28 : decode cX11_judge 28 = .ok (.bipush (-12), 2) := by decide +kernel
theorem dX11_judge_30 : decode cX11_judge 30 = .ok (.ireturn, 1) := by decide +kernel
theorem dX11_judge_31 : decode cX11_judge 31 = .ok (.aload_n 0, 1) := by decide +kernel
theorem dX11_judge_32 : decode cX11_judge 32 = .ok (.getfield 30, 3) := by decide +kernel
theorem dX11_judge_35 : decode cX11_judge 35 = .ok (.getfield 113, 3) := by decide +kernel
theorem dX11_judge_38 : decode cX11_judge 38 = .ok (.getfield 120, 3) := by decide +kernel
theorem dX11_judge_41 : decode cX11_judge 41 = .ok (.astore 4, 2) := by decide +kernel
theorem dX11_judge_43 : decode cX11_judge 43 = .ok (.iconst 0, 1) := by decide +kernel
theorem dX11_judge_44 : decode cX11_judge 44 = .ok (.istore 5, 2) := by decide +kernel
theorem dX11_judge_46 : decode cX11_judge 46 = .ok (.iload 5, 2) := by decide +kernel
theorem dX11_judge_48 : decode cX11_judge 48 = .ok (.aload 4, 2) := by decide +kernel
theorem dX11_judge_50 : decode cX11_judge 50 = .ok (.getfield 175, 3) := by decide +kernel
theorem dX11_judge_53 : decode cX11_judge 53 = .ok (.if_icmp .ge 63, 3) := by decide +kernel
theorem dX11_judge_56 : decode cX11_judge 56 = .ok (.aload_n 3, 1) := by decide +kernel
theorem dX11_judge_57 : decode cX11_judge 57 = .ok (.iload_n 2, 1) := by decide +kernel
theorem dX11_judge_58 : decode cX11_judge 58 = .ok (.invokevirtual 200, 3) := by decide +kernel
theorem dX11_judge_61 : decode cX11_judge 61 = .ok (.ifCond .eq 14, 3) := by decide +kernel
theorem dX11_judge_64 : decode cX11_judge 64 = .ok (.iload_n 2, 1) := by decide +kernel
theorem dX11_judge_65 : decode cX11_judge 65 = .ok (.aload_n 3, 1) := by decide +kernel
theorem dX11_judge_66 : decode cX11_judge 66 = .ok (.getfield 201, 3) := by decide +kernel
theorem dX11_judge_69 : decode cX11_judge 69 = .ok (.iload 5, 2) := by decide +kernel
theorem dX11_judge_71 : decode cX11_judge 71 = .ok (.isub, 1) := by decide +kernel
theorem dX11_judge_72 : decode cX11_judge 72 = .ok (.if_icmp .lt 9, 3) := by decide +kernel
theorem dX11_judge_75 : decode cX11_judge 75 = .ok (.bipush 100, 2) := by decide +kernel
theorem dX11_judge_77 : decode cX11_judge 77 = .ok (.iload 5, 2) := by decide +kernel
theorem dX11_judge_79 : decode cX11_judge 79 = .ok (.iadd, 1) := by decide +kernel
theorem dX11_judge_80 : decode cX11_judge 80 = .ok (.ireturn, 1) := by decide +kernel
theorem dX11_judge_81 : decode cX11_judge 81 = .ok (.aload_n 3, 1) := by decide +kernel
theorem dX11_judge_82 : decode cX11_judge 82 = .ok (.getfield 202, 3) := by decide +kernel
theorem dX11_judge_85 : decode cX11_judge 85 = .ok (.iload_n 2, 1) := by decide +kernel
theorem dX11_judge_86 : decode cX11_judge 86 = .ok (.iload 5, 2) := by decide +kernel
theorem dX11_judge_88 : decode cX11_judge 88 = .ok (.iadd, 1) := by decide +kernel
theorem dX11_judge_89 : decode cX11_judge 89 = .ok (.invokestatic 206, 3) := by decide +kernel
theorem dX11_judge_92 : decode cX11_judge 92 = .ok (.aload 4, 2) := by decide +kernel
theorem dX11_judge_94 : decode cX11_judge 94 = .ok (.getfield 209, 3) := by decide +kernel
theorem dX11_judge_97 : decode cX11_judge 97 = .ok (.iload 5, 2) := by decide +kernel
theorem dX11_judge_99 : decode cX11_judge 99 = .ok (.invokestatic 97, 3) := by decide +kernel
theorem dX11_judge_102 : decode cX11_judge 102 = .ok (.i2l, 1) := by decide +kernel
theorem dX11_judge_103 : decode cX11_judge 103 = .ok (.lcmp, 1) := by decide +kernel
theorem dX11_judge_104 : decode cX11_judge 104 = .ok (.ifCond .eq 6, 3) := by decide +kernel
theorem dX11_judge_107 : decode cX11_judge 107 = .ok (.iload 5, 2) := by decide +kernel
theorem dX11_judge_109 : decode cX11_judge 109 = .ok (.ireturn, 1) := by decide +kernel
theorem dX11_judge_110 : decode cX11_judge 110 = .ok (.iinc 5 1, 3) := by decide +kernel
theorem dX11_judge_113 : decode cX11_judge 113 = .ok (.goto (-67), 3) := by decide +kernel
theorem dX11_judge_116 : decode cX11_judge 116 = .ok (.bipush (-5), 2) := by decide +kernel
theorem dX11_judge_118 : decode cX11_judge 118 = .ok (.ireturn, 1) := by decide +kernel
theorem dX11_image_0 : decode cX11_image 0 = .ok (.aload_n 0, 1) := by decide +kernel
theorem dX11_image_1 : decode cX11_image 1 = .ok (.getfield 34, 3) := by decide +kernel
theorem dX11_image_4 : decode cX11_image 4 = .ok (.aload_n 0, 1) := by decide +kernel
theorem dX11_image_5 : decode cX11_image 5 = .ok (.getfield 30, 3) := by decide +kernel
theorem dX11_image_8 : decode cX11_image 8 = .ok (.invokevirtual 212, 3) := by decide +kernel
theorem dX11_image_11 : decode cX11_image 11 = .ok (.aload_n 0, 1) := by decide +kernel
theorem dX11_image_12 : decode cX11_image 12 = .ok (.iconst 1, 1) := by decide +kernel
theorem dX11_image_13 : decode cX11_image 13 = .ok (.putfield 215, 3) := by decide +kernel
theorem dX11_image_16 : decode cX11_image 16 = .ok (.aload_n 0, 1) := by decide +kernel
theorem dX11_image_17 : decode cX11_image 17 = .ok (.getfield 14, 3) := by decide +kernel
theorem dX11_image_20 : decode cX11_image 20 = .ok (.getfield 71, 3) := by decide +kernel
theorem dX11_image_23 : decode cX11_image 23 = .ok (.ireturn, 1) := by decide +kernel
theorem dX11_undo_0 : decode cX11_undo 0 = .ok (.aload_n 0, 1) := by decide +kernel
theorem dX11_undo_1 : decode cX11_undo 1 = .ok (.getfield 215, 3) := by decide +kernel
theorem dX11_undo_4 : decode cX11_undo 4 = .ok (.ifCond .ne 6, 3) := by decide +kernel
theorem dX11_undo_7 : decode cX11_undo 7 = .ok (.bipush (-3), 2) := by decide +kernel
theorem dX11_undo_9 : decode cX11_undo 9 = .ok (.ireturn, 1) := by decide +kernel
theorem dX11_undo_10 : decode cX11_undo 10 = .ok (.aload_n 0, 1) := by decide +kernel
theorem dX11_undo_11 : decode cX11_undo 11 = .ok (.getfield 30, 3) := by decide +kernel
theorem dX11_undo_14 : decode cX11_undo 14 = .ok (.aload_n 0, 1) := by decide +kernel
theorem dX11_undo_15 : decode cX11_undo 15 = .ok (.getfield 34, 3) := by decide +kernel
theorem dX11_undo_18 : decode cX11_undo 18 = .ok (.invokevirtual 212, 3) := by decide +kernel
theorem dX11_undo_21 : decode cX11_undo 21 = .ok (.aload_n 0, 1) := by decide +kernel
theorem dX11_undo_22 : decode cX11_undo 22 = .ok (.getfield 14, 3) := by decide +kernel
theorem dX11_undo_25 : decode cX11_undo 25 = .ok (.getfield 71, 3) := by decide +kernel
theorem dX11_undo_28 : decode cX11_undo 28 = .ok (.ireturn, 1) := by decide +kernel
theorem dX11_count_0 : decode cX11_count 0 = .ok (.iload_n 1, 1) := by decide +kernel
theorem dX11_count_1 : decode cX11_count 1 = .ok (.tableswitch 84 0 4 #[35, 43, 54, 65, 76], 35) := by decide +kernel
theorem dX11_count_36 : decode cX11_count 36 = .ok (.aload_n 0, 1) := by decide +kernel
theorem dX11_count_37 : decode cX11_count 37 = .ok (.getfield 14, 3) := by decide +kernel
theorem dX11_count_40 : decode cX11_count 40 = .ok (.getfield 71, 3) := by decide +kernel
theorem dX11_count_43 : decode cX11_count 43 = .ok (.ireturn, 1) := by decide +kernel
theorem dX11_count_44 : decode cX11_count 44 = .ok (.aload_n 0, 1) := by decide +kernel
theorem dX11_count_45 : decode cX11_count 45 = .ok (.getfield 30, 3) := by decide +kernel
theorem dX11_count_48 : decode cX11_count 48 = .ok (.getfield 144, 3) := by decide +kernel
theorem dX11_count_51 : decode cX11_count 51 = .ok (.getfield 183, 3) := by decide +kernel
theorem dX11_count_54 : decode cX11_count 54 = .ok (.ireturn, 1) := by decide +kernel
theorem dX11_count_55 : decode cX11_count 55 = .ok (.aload_n 0, 1) := by decide +kernel
theorem dX11_count_56 : decode cX11_count 56 = .ok (.getfield 30, 3) := by decide +kernel
theorem dX11_count_59 : decode cX11_count 59 = .ok (.getfield 180, 3) := by decide +kernel
theorem dX11_count_62 : decode cX11_count 62 = .ok (.getfield 183, 3) := by decide +kernel
theorem dX11_count_65 : decode cX11_count 65 = .ok (.ireturn, 1) := by decide +kernel
theorem dX11_count_66 : decode cX11_count 66 = .ok (.aload_n 0, 1) := by decide +kernel
theorem dX11_count_67 : decode cX11_count 67 = .ok (.getfield 30, 3) := by decide +kernel
theorem dX11_count_70 : decode cX11_count 70 = .ok (.getfield 190, 3) := by decide +kernel
theorem dX11_count_73 : decode cX11_count 73 = .ok (.getfield 183, 3) := by decide +kernel
theorem dX11_count_76 : decode cX11_count 76 = .ok (.ireturn, 1) := by decide +kernel
theorem dX11_count_77 : decode cX11_count 77 = .ok (.aload_n 0, 1) := by decide +kernel
theorem dX11_count_78 : decode cX11_count 78 = .ok (.getfield 23, 3) := by decide +kernel
theorem dX11_count_81 : decode cX11_count 81 = .ok (.getfield 219, 3) := by decide +kernel
theorem dX11_count_84 : decode cX11_count 84 = .ok (.ireturn, 1) := by decide +kernel
theorem dX11_count_85 : decode cX11_count 85 = .ok (.bipush (-2), 2) := by decide +kernel
theorem dX11_count_87 : decode cX11_count 87 = .ok (.ireturn, 1) := by decide +kernel
theorem dX11_tape_0 : decode cX11_tape 0 = .ok (.aload_n 0, 1) := by decide +kernel
theorem dX11_tape_1 : decode cX11_tape 1 = .ok (.iload_n 1, 1) := by decide +kernel
theorem dX11_tape_2 : decode cX11_tape 2 = .ok (.invokevirtual 193, 3) := by decide +kernel
theorem dX11_tape_5 : decode cX11_tape 5 = .ok (.astore 4, 2) := by decide +kernel
theorem dX11_tape_7 : decode cX11_tape 7 = .ok (.aload 4, 2) := by decide +kernel
theorem dX11_tape_9 : decode cX11_tape 9 = .ok (.ifnonnull 5, 3) := by decide +kernel
theorem dX11_tape_12 : decode cX11_tape 12 = .ok (.iconst (-1), 1) := by decide +kernel
theorem dX11_tape_13 : decode cX11_tape 13 = .ok (.ireturn, 1) := by decide +kernel
theorem dX11_tape_14 : decode cX11_tape 14 = .ok (.iload_n 2, 1) := by decide +kernel
theorem dX11_tape_15 : decode cX11_tape 15 = .ok (.iconst (-1), 1) := by decide +kernel
theorem dX11_tape_16 : decode cX11_tape 16 = .ok (.if_icmp .ne 12, 3) := by decide +kernel
theorem dX11_tape_19 : decode cX11_tape 19 = .ok (.aload 4, 2) := by decide +kernel
theorem dX11_tape_21 : decode cX11_tape 21 = .ok (.iload_n 2, 1) := by decide +kernel
theorem dX11_tape_22 : decode cX11_tape 22 = .ok (.iconst 0, 1) := by decide +kernel
theorem dX11_tape_23 : decode cX11_tape 23 = .ok (.invokevirtual 220, 3) := by decide +kernel
theorem dX11_tape_26 : decode cX11_tape 26 = .ok (.iconst 1, 1) := by decide +kernel
theorem dX11_tape_27 : decode cX11_tape 27 = .ok (.ireturn, 1) := by decide +kernel
theorem dX11_tape_28 : decode cX11_tape 28 = .ok (.iload_n 2, 1) := by decide +kernel
theorem dX11_tape_29 : decode cX11_tape 29 = .ok (.ifCond .lt 14, 3) := by decide +kernel
theorem dX11_tape_32 : decode cX11_tape 32 = .ok (.iload_n 2, 1) := by decide +kernel
theorem dX11_tape_33 : decode cX11_tape 33 = .ok (.iconst 4, 1) := by decide +kernel
theorem dX11_tape_34 : decode cX11_tape 34 = .ok (.if_icmp .gt 9, 3) := by decide +kernel
theorem dX11_tape_37 : decode cX11_tape 37 = .ok (.iload_n 3, 1) := by decide +kernel
theorem dX11_tape_38 : decode cX11_tape 38 = .ok (.bipush 60, 2) := by decide +kernel
theorem dX11_tape_40 : decode cX11_tape 40 = .ok (.if_icmp .le 6, 3) := by decide +kernel
theorem dX11_tape_43 : decode cX11_tape 43 = .ok (.bipush (-2), 2) := by decide +kernel
theorem dX11_tape_45 : decode cX11_tape 45 = .ok (.ireturn, 1) := by decide +kernel
theorem dX11_tape_46 : decode cX11_tape 46 = .ok (.iload_n 3, 1) := by decide +kernel
theorem dX11_tape_47 : decode cX11_tape 47 = .ok (.ifCond .ge 6, 3) := by decide +kernel
theorem dX11_tape_50 : decode cX11_tape 50 = .ok (.bipush (-14), 2) := by decide +kernel
theorem dX11_tape_52 : decode cX11_tape 52 = .ok (.ireturn, 1) := by decide +kernel
theorem dX11_tape_53 : decode cX11_tape 53 = .ok (.aload 4, 2) := by decide +kernel
theorem dX11_tape_55 : decode cX11_tape 55 = .ok (.iload_n 2, 1) := by decide +kernel
theorem dX11_tape_56 : decode cX11_tape 56 = .ok (.iload_n 3, 1) := by decide +kernel
theorem dX11_tape_57 : decode cX11_tape 57 = .ok (.invokevirtual 220, 3) := by decide +kernel
theorem dX11_tape_60 : decode cX11_tape 60 = .ok (.iconst 1, 1) := by decide +kernel
theorem dX11_tape_61 : decode cX11_tape 61 = .ok (.ireturn, 1) := by decide +kernel
theorem dX11_item_0 : decode cX11_item 0 = .ok (.aload_n 0, 1) := by decide +kernel
theorem dX11_item_1 : decode cX11_item 1 = .ok (.iload_n 1, 1) := by decide +kernel
theorem dX11_item_2 : decode cX11_item 2 = .ok (.invokevirtual 193, 3) := by decide +kernel
theorem dX11_item_5 : decode cX11_item 5 = .ok (.astore 5, 2) := by decide +kernel
theorem dX11_item_7 : decode cX11_item 7 = .ok (.aload 5, 2) := by decide +kernel
theorem dX11_item_9 : decode cX11_item 9 = .ok (.ifnonnull 5, 3) := by decide +kernel
theorem dX11_item_12 : decode cX11_item 12 = .ok (.iconst (-1), 1) := by decide +kernel
theorem dX11_item_13 : decode cX11_item 13 = .ok (.ireturn, 1) := by decide +kernel
theorem dX11_item_14 : decode cX11_item 14 = .ok (.aload 5, 2) := by decide +kernel
theorem dX11_item_16 : decode cX11_item 16 = .ok (.getfield 197, 3) := by decide +kernel
theorem dX11_item_19 : decode cX11_item 19 = .ok (.iconst (-1), 1) := by decide +kernel
theorem dX11_item_20 : decode cX11_item 20 = .ok (.if_icmp .ne 6, 3) := by decide +kernel
theorem dX11_item_23 : decode cX11_item 23 = .ok (.bipush (-11), 2) := by decide +kernel
theorem dX11_item_25 : decode cX11_item 25 = .ok (.ireturn, 1) := by decide +kernel
theorem dX11_item_26 : decode cX11_item 26 = .ok (.aload 5, 2) := by decide +kernel
theorem dX11_item_28 : decode cX11_item 28 = .ok (.iload_n 2, 1) := by decide +kernel
theorem dX11_item_29 : decode cX11_item 29 = .ok (.invokevirtual 200, 3) := by decide +kernel
theorem dX11_item_32 : decode cX11_item 32 = .ok (.ifCond .ne 6, 3) := by decide +kernel
theorem dX11_item_35 : decode cX11_item 35 = .ok (.bipush (-13), 2) := by decide +kernel
theorem dX11_item_37 : decode cX11_item 37 = .ok (.ireturn, 1) := by decide +kernel
theorem dX11_item_38 : decode cX11_item 38 = .ok (.aload 5, 2) := by decide +kernel
theorem dX11_item_40 : decode cX11_item 40 = .ok (.getfield 202, 3) := by decide +kernel
theorem dX11_item_43 : decode cX11_item 43 = .ok (.iload_n 2, 1) := by decide +kernel
theorem dX11_item_44 : decode cX11_item 44 = .ok (.aload 5, 2) := by decide +kernel
theorem dX11_item_46 : decode cX11_item 46 = .ok (.lload_n 3, 1) := by decide +kernel
theorem dX11_item_47 : decode cX11_item 47 = .ok (.invokevirtual 224, 3) := by decide +kernel
theorem dX11_item_50 : decode cX11_item 50 = .ok (.invokestatic 228, 3) := by decide +kernel
theorem dX11_item_53 : decode cX11_item 53 = .ok (.iconst 1, 1) := by decide +kernel
theorem dX11_item_54 : decode cX11_item 54 = .ok (.ireturn, 1) := by decide +kernel
theorem dX11_read_0 : decode cX11_read 0 = .ok (.aload_n 0, 1) := by decide +kernel
theorem dX11_read_1 : decode cX11_read 1 = .ok (.iload_n 1, 1) := by decide +kernel
theorem dX11_read_2 : decode cX11_read 2 = .ok (.invokevirtual 193, 3) := by decide +kernel
theorem dX11_read_5 : decode cX11_read 5 = .ok (.astore_n 3, 1) := by decide +kernel
theorem dX11_read_6 : decode cX11_read 6 = .ok (.aload_n 3, 1) := by decide +kernel
theorem dX11_read_7 : decode cX11_read 7 = .ok (.ifnull 22, 3) := by decide +kernel
theorem dX11_read_10 : decode cX11_read 10 = .ok (.aload_n 3, 1) := by decide +kernel
theorem dX11_read_11 : decode cX11_read 11 = .ok (.iload_n 2, 1) := by decide +kernel
theorem dX11_read_12 : decode cX11_read 12 = .ok (.invokevirtual 200, 3) := by decide +kernel
theorem dX11_read_15 : decode cX11_read 15 = .ok (.ifCond .eq 14, 3) := by decide +kernel
theorem dX11_read_18 : decode cX11_read 18 = .ok (.aload_n 3, 1) := by decide +kernel
theorem dX11_read_19 : decode cX11_read 19 = .ok (.getfield 202, 3) := by decide +kernel
theorem dX11_read_22 : decode cX11_read 22 = .ok (.iload_n 2, 1) := by decide +kernel
theorem dX11_read_23 : decode cX11_read 23 = .ok (.invokestatic 206, 3) := by decide +kernel
theorem dX11_read_26 : decode cX11_read 26 = .ok (.goto 6, 3) := by decide +kernel
theorem dX11_read_29 : decode cX11_read 29 = .ok (.ldc2_w 108, 3) := by decide +kernel
theorem dX11_read_32 : decode cX11_read 32 = .ok (.lreturn, 1) := by decide +kernel
theorem dX11_shift_0 : decode cX11_shift 0 = .ok (.aload_n 0, 1) := by decide +kernel
theorem dX11_shift_1 : decode cX11_shift 1 = .ok (.iload_n 1, 1) := by decide +kernel
theorem dX11_shift_2 : decode cX11_shift 2 = .ok (.invokevirtual 193, 3) := by decide +kernel
theorem dX11_shift_5 : decode cX11_shift 5 = .ok (.astore 6, 2) := by decide +kernel
theorem dX11_shift_7 : decode cX11_shift 7 = .ok (.aload_n 0, 1) := by decide +kernel
theorem dX11_shift_8 : decode cX11_shift 8 = .ok (.iload_n 3, 1) := by decide +kernel
theorem dX11_shift_9 : decode cX11_shift 9 = .ok (.invokevirtual 193, 3) := by decide +kernel
theorem dX11_shift_12 : decode cX11_shift 12 = .ok (.astore 7, 2) := by decide +kernel
theorem dX11_shift_14 : decode cX11_shift 14 = .ok (.aload 6, 2) := by decide +kernel
theorem dX11_shift_16 : decode cX11_shift 16 = .ok (.ifnull 8, 3) := by decide +kernel
theorem dX11_shift_19 : decode cX11_shift 19 = .ok (.aload 7, 2) := by decide +kernel
theorem dX11_shift_21 : decode cX11_shift 21 = .ok (.ifnonnull 5, 3) := by decide +kernel
theorem dX11_shift_24 : decode cX11_shift 24 = .ok (.iconst (-1), 1) := by decide +kernel
theorem dX11_shift_25 : decode cX11_shift 25 = .ok (.ireturn, 1) := by decide +kernel
theorem dX11_shift_26 : decode cX11_shift 26 = .ok (.aload 6, 2) := by decide +kernel
theorem dX11_shift_28 : decode cX11_shift 28 = .ok (.getfield 197, 3) := by decide +kernel
theorem dX11_shift_31 : decode cX11_shift 31 = .ok (.iconst (-1), 1) := by decide +kernel
theorem dX11_shift_32 : decode cX11_shift 32 = .ok (.if_icmp .eq 12, 3) := by decide +kernel
theorem dX11_shift_35 : decode cX11_shift 35 = .ok (.aload 7, 2) := by decide +kernel
theorem dX11_shift_37 : decode cX11_shift 37 = .ok (.getfield 197, 3) := by decide +kernel
theorem dX11_shift_40 : decode cX11_shift 40 = .ok (.iconst (-1), 1) := by decide +kernel
theorem dX11_shift_41 : decode cX11_shift 41 = .ok (.if_icmp .ne 6, 3) := by decide +kernel
theorem dX11_shift_44 : decode cX11_shift 44 = .ok (.bipush (-11), 2) := by decide +kernel
theorem dX11_shift_46 : decode cX11_shift 46 = .ok (.ireturn, 1) := by decide +kernel
theorem dX11_shift_47 : decode cX11_shift 47 = .ok (.aload 6, 2) := by decide +kernel
theorem dX11_shift_49 : decode cX11_shift 49 = .ok (.getfield 197, 3) := by decide +kernel
theorem dX11_shift_52 : decode cX11_shift 52 = .ok (.aload 7, 2) := by decide +kernel
theorem dX11_shift_54 : decode cX11_shift 54 = .ok (.getfield 197, 3) := by decide +kernel
theorem dX11_shift_57 : decode cX11_shift 57 = .ok (.if_icmp .eq 6, 3) := by decide +kernel
theorem dX11_shift_60 : decode cX11_shift 60 = .ok (.bipush (-12), 2) := by decide +kernel
theorem dX11_shift_62 : decode cX11_shift 62 = .ok (.ireturn, 1) := by decide +kernel
theorem dX11_shift_63 : decode cX11_shift 63 = .ok (.iload 5, 2) := by decide +kernel
theorem dX11_shift_65 : decode cX11_shift 65 = .ok (.ifCond .lt 37, 3) := by decide +kernel
theorem dX11_shift_68 : decode cX11_shift 68 = .ok (.iload_n 2, 1) := by decide +kernel
theorem dX11_shift_69 : decode cX11_shift 69 = .ok (.ifCond .lt 33, 3) := by decide +kernel
theorem dX11_shift_72 : decode cX11_shift 72 = .ok (.iload 4, 2) := by decide +kernel
theorem dX11_shift_74 : decode cX11_shift 74 = .ok (.ifCond .lt 28, 3) := by decide +kernel
theorem dX11_shift_77 : decode cX11_shift 77 = .ok (.iload 5, 2) := by decide +kernel
theorem dX11_shift_79 : decode cX11_shift 79 = .ok (.aload 6, 2) := by decide +kernel
theorem dX11_shift_81 : decode cX11_shift 81 = .ok (.getfield 201, 3) := by decide +kernel
theorem dX11_shift_84 : decode cX11_shift 84 = .ok (.iload_n 2, 1) := by decide +kernel
theorem dX11_shift_85 : decode cX11_shift 85 = .ok (.isub, 1) := by decide +kernel
theorem dX11_shift_86 : decode cX11_shift 86 = .ok (.if_icmp .gt 16, 3) := by decide +kernel
theorem dX11_shift_89 : decode cX11_shift 89 = .ok (.iload 5, 2) := by decide +kernel
theorem dX11_shift_91 : decode cX11_shift 91 = .ok (.aload 7, 2) := by decide +kernel
theorem dX11_shift_93 : decode cX11_shift 93 = .ok (.getfield 201, 3) := by decide +kernel
theorem dX11_shift_96 : decode cX11_shift 96 = .ok (.iload 4, 2) := by decide +kernel
theorem dX11_shift_98 : decode cX11_shift 98 = .ok (.isub, 1) := by decide +kernel
theorem dX11_shift_99 : decode cX11_shift 99 = .ok (.if_icmp .le 6, 3) := by decide +kernel
theorem dX11_shift_102 : decode cX11_shift 102 = .ok (.bipush (-13), 2) := by decide +kernel
theorem dX11_shift_104 : decode cX11_shift 104 = .ok (.ireturn, 1) := by decide +kernel
theorem dX11_shift_105 : decode cX11_shift 105 = .ok (.aload 6, 2) := by decide +kernel
theorem dX11_shift_107 : decode cX11_shift 107 = .ok (.getfield 202, 3) := by decide +kernel
theorem dX11_shift_110 : decode cX11_shift 110 = .ok (.iload_n 2, 1) := by decide +kernel
theorem dX11_shift_111 : decode cX11_shift 111 = .ok (.aload 7, 2) := by decide +kernel
theorem dX11_shift_113 : decode cX11_shift 113 = .ok (.getfield 202, 3) := by decide +kernel
theorem dX11_shift_116 : decode cX11_shift 116 = .ok (.iload 4, 2) := by decide +kernel
theorem dX11_shift_118 : decode cX11_shift 118 = .ok (.iload 5, 2) := by decide +kernel
theorem dX11_shift_120 : decode cX11_shift 120 = .ok (.invokestatic 231, 3) := by decide +kernel
theorem dX11_shift_123 : decode cX11_shift 123 = .ok (.iload 5, 2) := by decide +kernel
theorem dX11_shift_125 : decode cX11_shift 125 = .ok (.ireturn, 1) := by decide +kernel
theorem dX11_tapeOf_0 : decode cX11_tapeOf 0 = .ok (.iload_n 1, 1) := by decide +kernel
theorem dX11_tapeOf_1 : decode cX11_tapeOf 1 = .ok (.ifCond .lt 21, 3) := by decide +kernel
theorem dX11_tapeOf_4 : decode cX11_tapeOf 4 = .ok (.iload_n 1, 1) := by decide +kernel
theorem dX11_tapeOf_5 : decode cX11_tapeOf 5 = .ok (.aload_n 0, 1) := by decide +kernel
theorem dX11_tapeOf_6 : decode cX11_tapeOf 6 = .ok (.getfield 62, 3) := by decide +kernel
theorem dX11_tapeOf_9 : decode cX11_tapeOf 9 = .ok (.arraylength, 1) := by decide +kernel
theorem dX11_tapeOf_10 : decode cX11_tapeOf 10 = .ok (.if_icmp .ge 12, 3) := by decide +kernel
theorem dX11_tapeOf_13 : decode cX11_tapeOf 13 = .ok (.aload_n 0, 1) := by decide +kernel
theorem dX11_tapeOf_14 : decode cX11_tapeOf 14 = .ok (.getfield 62, 3) := by decide +kernel
theorem dX11_tapeOf_17 : decode cX11_tapeOf 17 = .ok (.iload_n 1, 1) := by decide +kernel
theorem dX11_tapeOf_18 : decode cX11_tapeOf 18 = .ok (.aaload, 1) := by decide +kernel
theorem dX11_tapeOf_19 : decode cX11_tapeOf 19 = .ok (.goto 4, 3) := by decide +kernel
theorem dX11_tapeOf_22 : decode cX11_tapeOf 22 = .ok (.aconst_null, 1) := by decide +kernel
theorem dX11_tapeOf_23 : decode cX11_tapeOf 23 = .ok (.areturn, 1) := by decide +kernel
theorem dX11_isName_0 : decode cX11_isName 0 = .ok (.iload_n 0, 1) := by decide +kernel
theorem dX11_isName_1 : decode cX11_isName 1 = .ok (.ifCond .lt 12, 3) := by decide +kernel
theorem dX11_isName_4 : decode cX11_isName 4 = .ok (.iload_n 0, 1) := by decide +kernel
theorem dX11_isName_5 : decode cX11_isName 5 = .ok (.iconst 4, 1) := by decide +kernel
theorem dX11_isName_6 : decode cX11_isName 6 = .ok (.if_icmp .ge 7, 3) := by decide +kernel
theorem dX11_isName_9 : decode cX11_isName 9 = .ok (.iconst 1, 1) := by decide +kernel
theorem dX11_isName_10 : decode cX11_isName 10 = .ok (.goto 4, 3) := by decide +kernel
theorem dX11_isName_13 : decode cX11_isName 13 = .ok (.iconst 0, 1) := by decide +kernel
theorem dX11_isName_14 : decode cX11_isName 14 = .ok (.ireturn, 1) := by decide +kernel
theorem dX11_isFunction_0 : decode cX11_isFunction 0 = .ok (.iload_n 0, 1) := by decide +kernel
theorem dX11_isFunction_1 : decode cX11_isFunction 1 = .ok (.ifCond .lt 12, 3) := by decide +kernel
theorem dX11_isFunction_4 : decode cX11_isFunction 4 = .ok (.iload_n 0, 1) := by decide +kernel
theorem dX11_isFunction_5 : decode cX11_isFunction 5 = .ok (.iconst 3, 1) := by decide +kernel
theorem dX11_isFunction_6 : decode cX11_isFunction 6 = .ok (.if_icmp .ge 7, 3) := by decide +kernel
theorem dX11_isFunction_9 : decode cX11_isFunction 9 = .ok (.iconst 1, 1) := by decide +kernel
theorem dX11_isFunction_10 : decode cX11_isFunction 10 = .ok (.goto 4, 3) := by decide +kernel
theorem dX11_isFunction_13 : decode cX11_isFunction 13 = .ok (.iconst 0, 1) := by decide +kernel
theorem dX11_isFunction_14 : decode cX11_isFunction 14 = .ok (.ireturn, 1) := by decide +kernel
theorem dX11_isNumber_0 : decode cX11_isNumber 0 = .ok (.lload_n 0, 1) := by decide +kernel
theorem dX11_isNumber_1 : decode cX11_isNumber 1 = .ok (.lload_n 0, 1) := by decide +kernel
theorem dX11_isNumber_2 : decode cX11_isNumber 2 = .ok (.l2i, 1) := by decide +kernel
theorem dX11_isNumber_3 : decode cX11_isNumber 3 = .ok (.i2l, 1) := by decide +kernel
theorem dX11_isNumber_4 : decode cX11_isNumber 4 = .ok (.lcmp, 1) := by decide +kernel
theorem dX11_isNumber_5 : decode cX11_isNumber 5 = .ok (.ifCond .ne 7, 3) := by decide +kernel
theorem dX11_isNumber_8 : decode cX11_isNumber 8 = .ok (.iconst 1, 1) := by decide +kernel
theorem dX11_isNumber_9 : decode cX11_isNumber 9 = .ok (.goto 4, 3) := by decide +kernel
theorem dX11_isNumber_12 : decode cX11_isNumber 12 = .ok (.iconst 0, 1) := by decide +kernel
theorem dX11_isNumber_13 : decode cX11_isNumber 13 = .ok (.ireturn, 1) := by decide +kernel
theorem dX11_at_0 : decode cX11_at 0 = .ok (.iload_n 1, 1) := by decide +kernel
theorem dX11_at_1 : decode cX11_at 1 = .ok (.ifCond .lt 15, 3) := by decide +kernel
theorem dX11_at_4 : decode cX11_at 4 = .ok (.iload_n 1, 1) := by decide +kernel
theorem dX11_at_5 : decode cX11_at 5 = .ok (.aload_n 0, 1) := by decide +kernel
theorem dX11_at_6 : decode cX11_at 6 = .ok (.arraylength, 1) := by decide +kernel
theorem dX11_at_7 : decode cX11_at 7 = .ok (.if_icmp .ge 9, 3) := by decide +kernel
theorem dX11_at_10 : decode cX11_at 10 = .ok (.aload_n 0, 1) := by decide +kernel
theorem dX11_at_11 : decode cX11_at 11 = .ok (.iload_n 1, 1) := by decide +kernel
theorem dX11_at_12 : decode cX11_at 12 = .ok (.iaload, 1) := by decide +kernel
theorem dX11_at_13 : decode cX11_at 13 = .ok (.goto 4, 3) := by decide +kernel
theorem dX11_at_16 : decode cX11_at 16 = .ok (.iconst 0, 1) := by decide +kernel
theorem dX11_at_17 : decode cX11_at 17 = .ok (.ireturn, 1) := by decide +kernel
theorem dX11_at__0 : decode cX11_at_ 0 = .ok (.iload_n 1, 1) := by decide +kernel
theorem dX11_at__1 : decode cX11_at_ 1 = .ok (.ifCond .lt 15, 3) := by decide +kernel
theorem dX11_at__4 : decode cX11_at_ 4 = .ok (.iload_n 1, 1) := by decide +kernel
theorem dX11_at__5 : decode cX11_at_ 5 = .ok (.aload_n 0, 1) := by decide +kernel
theorem dX11_at__6 : decode cX11_at_ 6 = .ok (.arraylength, 1) := by decide +kernel
theorem dX11_at__7 : decode cX11_at_ 7 = .ok (.if_icmp .ge 9, 3) := by decide +kernel
theorem dX11_at__10 : decode cX11_at_ 10 = .ok (.aload_n 0, 1) := by decide +kernel
theorem dX11_at__11 : decode cX11_at_ 11 = .ok (.iload_n 1, 1) := by decide +kernel
theorem dX11_at__12 : decode cX11_at_ 12 = .ok (.laload, 1) := by decide +kernel
theorem dX11_at__13 : decode cX11_at_ 13 = .ok (.goto 4, 3) := by decide +kernel
theorem dX11_at__16 : decode cX11_at_ 16 = .ok (.lconst 0, 1) := by decide +kernel
theorem dX11_at__17 : decode cX11_at_ 17 = .ok (.lreturn, 1) := by decide +kernel
theorem dX11_put_0 : decode cX11_put 0 = .ok (.iload_n 1, 1) := by decide +kernel
theorem dX11_put_1 : decode cX11_put 1 = .ok (.ifCond .lt 13, 3) := by decide +kernel
theorem dX11_put_4 : decode cX11_put 4 = .ok (.iload_n 1, 1) := by decide +kernel
theorem dX11_put_5 : decode cX11_put 5 = .ok (.aload_n 0, 1) := by decide +kernel
theorem dX11_put_6 : decode cX11_put 6 = .ok (.arraylength, 1) := by decide +kernel
theorem dX11_put_7 : decode cX11_put 7 = .ok (.if_icmp .ge 7, 3) := by decide +kernel
theorem dX11_put_10 : decode cX11_put 10 = .ok (.aload_n 0, 1) := by decide +kernel
theorem dX11_put_11 : decode cX11_put 11 = .ok (.iload_n 1, 1) := by decide +kernel
theorem dX11_put_12 : decode cX11_put 12 = .ok (.iload_n 2, 1) := by decide +kernel
theorem dX11_put_13 : decode cX11_put 13 = .ok (.iastore, 1) := by decide +kernel
theorem dX11_put_14 : decode cX11_put 14 = .ok (.return_, 1) := by decide +kernel
theorem dX11_put__0 : decode cX11_put_ 0 = .ok (.iload_n 1, 1) := by decide +kernel
theorem dX11_put__1 : decode cX11_put_ 1 = .ok (.ifCond .lt 13, 3) := by decide +kernel
theorem dX11_put__4 : decode cX11_put_ 4 = .ok (.iload_n 1, 1) := by decide +kernel
theorem dX11_put__5 : decode cX11_put_ 5 = .ok (.aload_n 0, 1) := by decide +kernel
theorem dX11_put__6 : decode cX11_put_ 6 = .ok (.arraylength, 1) := by decide +kernel
theorem dX11_put__7 : decode cX11_put_ 7 = .ok (.if_icmp .ge 7, 3) := by decide +kernel
theorem dX11_put__10 : decode cX11_put_ 10 = .ok (.aload_n 0, 1) := by decide +kernel
theorem dX11_put__11 : decode cX11_put_ 11 = .ok (.iload_n 1, 1) := by decide +kernel
theorem dX11_put__12 : decode cX11_put_ 12 = .ok (.lload_n 2, 1) := by decide +kernel
theorem dX11_put__13 : decode cX11_put_ 13 = .ok (.lastore, 1) := by decide +kernel
theorem dX11_put__14 : decode cX11_put_ 14 = .ok (.return_, 1) := by decide +kernel
theorem dX11_copyRow_0 : decode cX11_copyRow 0 = .ok (.aload_n 0, 1) := by decide +kernel
theorem dX11_copyRow_1 : decode cX11_copyRow 1 = .ok (.iconst 0, 1) := by decide +kernel
theorem dX11_copyRow_2 : decode cX11_copyRow 2 = .ok (.aload_n 1, 1) := by decide +kernel
theorem dX11_copyRow_3 : decode cX11_copyRow 3 = .ok (.iconst 0, 1) := by decide +kernel
theorem dX11_copyRow_4 : decode cX11_copyRow 4 = .ok (.aload_n 0, 1) := by decide +kernel
theorem dX11_copyRow_5 : decode cX11_copyRow 5 = .ok (.arraylength, 1) := by decide +kernel
theorem dX11_copyRow_6 : decode cX11_copyRow 6 = .ok (.aload_n 1, 1) := by decide +kernel
theorem dX11_copyRow_7 : decode cX11_copyRow 7 = .ok (.arraylength, 1) := by decide +kernel
theorem dX11_copyRow_8 : decode cX11_copyRow 8 = .ok (.invokestatic 237, 3) := by decide +kernel
theorem dX11_copyRow_11 : decode cX11_copyRow 11 = .ok (.invokestatic 231, 3) := by decide +kernel
theorem dX11_copyRow_14 : decode cX11_copyRow 14 = .ok (.return_, 1) := by decide +kernel
theorem dX11_copyRow__0 : decode cX11_copyRow_ 0 = .ok (.aload_n 0, 1) := by decide +kernel
theorem dX11_copyRow__1 : decode cX11_copyRow_ 1 = .ok (.iconst 0, 1) := by decide +kernel
theorem dX11_copyRow__2 : decode cX11_copyRow_ 2 = .ok (.aload_n 1, 1) := by decide +kernel
theorem dX11_copyRow__3 : decode cX11_copyRow_ 3 = .ok (.iconst 0, 1) := by decide +kernel
theorem dX11_copyRow__4 : decode cX11_copyRow_ 4 = .ok (.aload_n 0, 1) := by decide +kernel
theorem dX11_copyRow__5 : decode cX11_copyRow_ 5 = .ok (.arraylength, 1) := by decide +kernel
theorem dX11_copyRow__6 : decode cX11_copyRow_ 6 = .ok (.aload_n 1, 1) := by decide +kernel
theorem dX11_copyRow__7 : decode cX11_copyRow_ 7 = .ok (.arraylength, 1) := by decide +kernel
theorem dX11_copyRow__8 : decode cX11_copyRow_ 8 = .ok (.invokestatic 237, 3) := by decide +kernel
theorem dX11_copyRow__11 : decode cX11_copyRow_ 11 = .ok (.invokestatic 231, 3) := by decide +kernel
theorem dX11_copyRow__14 : decode cX11_copyRow_ 14 = .ok (.return_, 1) := by decide +kernel
theorem dX12_init_0 : decode cX12_init 0 = .ok (.aload_n 0, 1) := by decide +kernel
theorem dX12_init_1 : decode cX12_init 1 = .ok (.invokespecial 3, 3) := by decide +kernel
theorem dX12_init_4 : decode cX12_init 4 = .ok (.aload_n 0, 1) := by decide +kernel
theorem dX12_init_5 : decode cX12_init 5 = .ok (.sipush 5880, 3) := by decide +kernel
theorem dX12_init_8 : decode cX12_init 8 = .ok (.newarray .int, 2) := by decide +kernel
theorem dX12_init_10 : decode cX12_init 10 = .ok (.putfield 11, 3) := by decide +kernel
theorem dX12_init_13 : decode cX12_init 13 = .ok (.aload_n 0, 1) := by decide +kernel
theorem dX12_init_14 : decode cX12_init 14 = .ok (.sipush 5880, 3) := by decide +kernel
theorem dX12_init_17 : decode cX12_init 17 = .ok (.newarray .int, 2) := by decide +kernel
theorem dX12_init_19 : decode cX12_init 19 = .ok (.putfield 15, 3) := by decide +kernel
theorem dX12_init_22 : decode cX12_init 22 = .ok (.aload_n 0, 1) := by decide +kernel
theorem dX12_init_23 : decode cX12_init 23 = .ok (.sipush 5880, 3) := by decide +kernel
theorem dX12_init_26 : decode cX12_init 26 = .ok (.newarray .int, 2) := by decide +kernel
theorem dX12_init_28 : decode cX12_init 28 = .ok (.putfield 18, 3) := by decide +kernel
theorem dX12_init_31 : decode cX12_init 31 = .ok (.aload_n 0, 1) := by decide +kernel
theorem dX12_init_32 : decode cX12_init 32 = .ok (.sipush 808, 3) := by decide +kernel
theorem dX12_init_35 : decode cX12_init 35 = .ok (.newarray .int, 2) := by decide +kernel
theorem dX12_init_37 : decode cX12_init 37 = .ok (.putfield 21, 3) := by decide +kernel
theorem dX12_init_40 : decode cX12_init 40 = .ok (.aload_n 0, 1) := by decide +kernel
theorem dX12_init_41 : decode cX12_init 41 = .ok (.sipush 808, 3) := by decide +kernel
theorem dX12_init_44 : decode cX12_init 44 = .ok (.newarray .int, 2) := by decide +kernel
theorem dX12_init_46 : decode cX12_init 46 = .ok (.putfield 24, 3) := by decide +kernel
theorem dX12_init_49 : decode cX12_init 49 = .ok (.aload_n 0, 1) := by decide +kernel
theorem dX12_init_50 : decode cX12_init 50 = .ok (.sipush 808, 3) := by decide +kernel
theorem dX12_init_53 : decode cX12_init 53 = .ok (.newarray .int, 2) := by decide +kernel
theorem dX12_init_55 : decode cX12_init 55 = .ok (.putfield 27, 3) := by decide +kernel
theorem dX12_init_58 : decode cX12_init 58 = .ok (.aload_n 0, 1) := by decide +kernel
theorem dX12_init_59 : decode cX12_init 59 = .ok (.sipush 4040, 3) := by decide +kernel
theorem dX12_init_62 : decode cX12_init 62 = .ok (.newarray .int, 2) := by decide +kernel
theorem dX12_init_64 : decode cX12_init 64 = .ok (.putfield 30, 3) := by decide +kernel
theorem dX12_init_67 : decode cX12_init 67 = .ok (.aload_n 0, 1) := by decide +kernel
theorem dX12_init_68 : decode cX12_init 68 = .ok (.bipush 8, 2) := by decide +kernel
theorem dX12_init_70 : decode cX12_init 70 = .ok (.newarray .int, 2) := by decide +kernel
theorem dX12_init_72 : decode cX12_init 72 = .ok (.putfield 33, 3) := by decide +kernel
theorem dX12_init_75 : decode cX12_init 75 = .ok (.aload_n 0, 1) := by decide +kernel
theorem dX12_init_76 : decode cX12_init 76 = .ok (.bipush 100, 2) := by decide +kernel
theorem dX12_init_78 : decode cX12_init 78 = .ok (.newarray .int, 2) := by decide +kernel
theorem dX12_init_80 : decode cX12_init 80 = .ok (.putfield 36, 3) := by decide +kernel
theorem dX12_init_83 : decode cX12_init 83 = .ok (.aload_n 0, 1) := by decide +kernel
theorem dX12_init_84 : decode cX12_init 84 = .ok (.sipush 5880, 3) := by decide +kernel
theorem dX12_init_87 : decode cX12_init 87 = .ok (.newarray .int, 2) := by decide +kernel
theorem dX12_init_89 : decode cX12_init 89 = .ok (.putfield 39, 3) := by decide +kernel
theorem dX12_init_92 : decode cX12_init 92 = .ok (.aload_n 0, 1) := by decide +kernel
theorem dX12_init_93 : decode cX12_init 93 = .ok (.bipush 6, 2) := by decide +kernel
theorem dX12_init_95 : decode cX12_init 95 = .ok (.newarray .int, 2) := by decide +kernel
theorem dX12_init_97 : decode cX12_init 97 = .ok (.dup, 1) := by decide +kernel
theorem dX12_init_98 : decode cX12_init 98 = .ok (.iconst 0, 1) := by decide +kernel
theorem dX12_init_99 : decode cX12_init 99 = .ok (.iconst (-1), 1) := by decide +kernel
theorem dX12_init_100 : decode cX12_init 100 = .ok (.iastore, 1) := by decide +kernel
theorem dX12_init_101 : decode cX12_init 101 = .ok (.dup, 1) := by decide +kernel
theorem dX12_init_102 : decode cX12_init 102 = .ok (.iconst 1, 1) := by decide +kernel
theorem dX12_init_103 : decode cX12_init 103 = .ok (.iconst (-1), 1) := by decide +kernel
theorem dX12_init_104 : decode cX12_init 104 = .ok (.iastore, 1) := by decide +kernel
theorem dX12_init_105 : decode cX12_init 105 = .ok (.dup, 1) := by decide +kernel
theorem dX12_init_106 : decode cX12_init 106 = .ok (.iconst 2, 1) := by decide +kernel
theorem dX12_init_107 : decode cX12_init 107 = .ok (.iconst (-1), 1) := by decide +kernel
theorem dX12_init_108 : decode cX12_init 108 = .ok (.iastore, 1) := by decide +kernel
theorem dX12_init_109 : decode cX12_init 109 = .ok (.dup, 1) := by decide +kernel
theorem dX12_init_110 : decode cX12_init 110 = .ok (.iconst 3, 1) := by decide +kernel
theorem dX12_init_111 : decode cX12_init 111 = .ok (.iconst (-1), 1) := by decide +kernel
theorem dX12_init_112 : decode cX12_init 112 = .ok (.iastore, 1) := by decide +kernel
theorem dX12_init_113 : decode cX12_init 113 = .ok (.dup, 1) := by decide +kernel
theorem dX12_init_114 : decode cX12_init 114 = .ok (.iconst 4, 1) := by decide +kernel
theorem dX12_init_115 : decode cX12_init 115 = .ok (.iconst (-1), 1) := by decide +kernel
theorem dX12_init_116 : decode cX12_init 116 = .ok (.iastore, 1) := by decide +kernel
theorem dX12_init_117 : decode cX12_init 117 = .ok (.dup, 1) := by decide +kernel
theorem dX12_init_118 : decode cX12_init 118 = .ok (.iconst 5, 1) := by decide +kernel
theorem dX12_init_119 : decode cX12_init 119 = .ok (.iconst (-1), 1) := by decide +kernel
theorem dX12_init_120 : decode cX12_init 120 = .ok (.iastore, 1) := by decide +kernel
theorem dX12_init_121 : decode cX12_init 121 = .ok (.putfield 42, 3) := by decide +kernel
theorem dX12_init_124 : decode cX12_init 124 = .ok (.aload_n 0, 1) := by decide +kernel
theorem dX12_init_125 : decode cX12_init 125 = .ok (.bipush 6, 2) := by decide +kernel
theorem dX12_init_127 : decode cX12_init 127 = .ok (.newarray .int, 2) := by decide +kernel
theorem dX12_init_129 : decode cX12_init 129 = .ok (.putfield 45, 3) := by decide +kernel
theorem dX12_init_132 : decode cX12_init 132 = .ok (.aload_n 0, 1) := by decide +kernel
theorem dX12_init_133 : decode cX12_init 133 = .ok (.sipush 360, 3) := by decide +kernel
theorem dX12_init_136 : decode cX12_init 136 = .ok (.newarray .long, 2) := by decide +kernel
theorem dX12_init_138 : decode cX12_init 138 = .ok (.putfield 48, 3) := by decide +kernel
theorem dX12_init_141 : decode cX12_init 141 = .ok (.aload_n 0, 1) := by decide +kernel
theorem dX12_init_142 : decode cX12_init 142 = .ok (.getfield 11, 3) := by decide +kernel
theorem dX12_init_145 : decode cX12_init 145 = .ok (.bipush 7, 2) := by decide +kernel
theorem dX12_init_147 : decode cX12_init 147 = .ok (.bipush (-9), 2) := by decide +kernel
theorem dX12_init_149 : decode cX12_init 149 = .ok (.iastore, 1) := by decide +kernel
theorem dX12_init_150 : decode cX12_init 150 = .ok (.iconst 0, 1) := by decide +kernel
theorem dX12_init_151 : decode cX12_init 151 = .ok (.istore_n 1, 1) := by decide +kernel
theorem dX12_init_152 : decode cX12_init 152 = .ok (.iload_n 1, 1) := by decide +kernel
theorem dX12_init_153 : decode cX12_init 153 = .ok (.iconst 3, 1) := by decide +kernel
theorem dX12_init_154 : decode cX12_init 154 = .ok (.if_icmp .ge 19, 3) := by decide +kernel
theorem dX12_init_157 : decode cX12_init 157 = .ok (.aload_n 0, 1) := by decide +kernel
theorem dX12_init_158 : decode cX12_init 158 = .ok (.getfield 11, 3) := by decide +kernel
theorem dX12_init_161 : decode cX12_init 161 = .ok (.iconst 4, 1) := by decide +kernel
theorem dX12_init_162 : decode cX12_init 162 = .ok (.iload_n 1, 1) := by decide +kernel
theorem dX12_init_163 : decode cX12_init 163 = .ok (.iadd, 1) := by decide +kernel
theorem dX12_init_164 : decode cX12_init 164 = .ok (.bipush (-5), 2) := by decide +kernel
theorem dX12_init_166 : decode cX12_init 166 = .ok (.iastore, 1) := by decide +kernel
theorem dX12_init_167 : decode cX12_init 167 = .ok (.iinc 1 1, 3) := by decide +kernel
theorem dX12_init_170 : decode cX12_init 170 = .ok (.goto (-18), 3) := by decide +kernel
theorem dX12_init_173 : decode cX12_init 173 = .ok (.return_, 1) := by decide +kernel
theorem dX12_in_0 : decode cX12_in 0 = .ok (.lload_n 0, 1) := by decide +kernel
theorem dX12_in_1 : decode cX12_in 1 = .ok (.lload_n 2, 1) := by decide +kernel
theorem dX12_in_2 : decode cX12_in 2 = .ok (.lcmp, 1) := by decide +kernel
theorem dX12_in_3 : decode cX12_in 3 = .ok (.ifCond .lt 14, 3) := by decide +kernel
theorem dX12_in_6 : decode cX12_in 6 = .ok (.lload_n 0, 1) := by decide +kernel
theorem dX12_in_7 : decode cX12_in 7 = .ok (.lload 4, 2) := by decide +kernel
theorem dX12_in_9 : decode cX12_in 9 = .ok (.lcmp, 1) := by decide +kernel
theorem dX12_in_10 : decode cX12_in 10 = .ok (.ifCond .gt 7, 3) := by decide +kernel
theorem dX12_in_13 : decode cX12_in 13 = .ok (.iconst 1, 1) := by decide +kernel
theorem dX12_in_14 : decode cX12_in 14 = .ok (.goto 4, 3) := by decide +kernel
theorem dX12_in_17 : decode cX12_in 17 = .ok (.iconst 0, 1) := by decide +kernel
theorem dX12_in_18 : decode cX12_in 18 = .ok (.ireturn, 1) := by decide +kernel
theorem dX12_copies_0 : decode cX12_copies 0 = .ok (.iconst 0, 1) := by decide +kernel
theorem dX12_copies_1 : decode cX12_copies 1 = .ok (.istore_n 2, 1) := by decide +kernel
theorem dX12_copies_2 : decode cX12_copies 2 = .ok (.iload_n 2, 1) := by decide +kernel
theorem dX12_copies_3 : decode cX12_copies 3 = .ok (.sipush 5880, 3) := by decide +kernel
theorem dX12_copies_6 : decode cX12_copies 6 = .ok (.if_icmp .ge 15, 3) := by decide +kernel
theorem dX12_copies_9 : decode cX12_copies 9 = .ok (.aload_n 1, 1) := by decide +kernel
theorem dX12_copies_10 : decode cX12_copies 10 = .ok (.iload_n 2, 1) := by decide +kernel
theorem dX12_copies_11 : decode cX12_copies 11 = .ok (.aload_n 0, 1) := by decide +kernel
theorem dX12_copies_12 : decode cX12_copies 12 = .ok (.iload_n 2, 1) := by decide +kernel
theorem dX12_copies_13 : decode cX12_copies 13 = .ok (.iaload, 1) := by decide +kernel
theorem dX12_copies_14 : decode cX12_copies 14 = .ok (.iastore, 1) := by decide +kernel
theorem dX12_copies_15 : decode cX12_copies 15 = .ok (.iinc 2 1, 3) := by decide +kernel
theorem dX12_copies_18 : decode cX12_copies 18 = .ok (.goto (-16), 3) := by decide +kernel
theorem dX12_copies_21 : decode cX12_copies 21 = .ok (.return_, 1) := by decide +kernel
theorem dX12_feed_0 : decode cX12_feed 0 = .ok (.iload_n 1, 1) := by decide +kernel
theorem dX12_feed_1 : decode cX12_feed 1 = .ok (.i2l, 1) := by decide +kernel
theorem dX12_feed_2 : decode cX12_feed 2 = .ok (.lconst 0, 1) := by decide +kernel
theorem dX12_feed_3 : decode cX12_feed 3 = .ok (.ldc2_w 52, 3) := by decide +kernel
theorem dX12_feed_6 : decode cX12_feed 6 = .ok (.invokestatic 54, 3) := by decide +kernel
theorem dX12_feed_9 : decode cX12_feed 9 = .ok (.ifCond .ne 6, 3) := by decide +kernel
theorem dX12_feed_12 : decode cX12_feed 12 = .ok (.bipush (-2), 2) := by decide +kernel
theorem dX12_feed_14 : decode cX12_feed 14 = .ok (.ireturn, 1) := by decide +kernel
theorem dX12_feed_15 : decode cX12_feed 15 = .ok (.aload_n 0, 1) := by decide +kernel
theorem dX12_feed_16 : decode cX12_feed 16 = .ok (.getfield 58, 3) := by decide +kernel
theorem dX12_feed_19 : decode cX12_feed 19 = .ok (.bipush 100, 2) := by decide +kernel
theorem dX12_feed_21 : decode cX12_feed 21 = .ok (.if_icmp .ne 6, 3) := by decide +kernel
theorem dX12_feed_24 : decode cX12_feed 24 = .ok (.bipush (-4), 2) := by decide +kernel
theorem dX12_feed_26 : decode cX12_feed 26 = .ok (.ireturn, 1) := by decide +kernel
theorem dX12_feed_27 : decode cX12_feed 27 = .ok (.aload_n 0, 1) := by decide +kernel
theorem dX12_feed_28 : decode cX12_feed 28 = .ok (.getfield 36, 3) := by decide +kernel
theorem dX12_feed_31 : decode cX12_feed 31 = .ok (.aload_n 0, 1) := by decide +kernel
theorem dX12_feed_32 : decode cX12_feed 32 = .ok (.getfield 58, 3) := by decide +kernel
theorem dX12_feed_35 : decode cX12_feed 35 = .ok (.iload_n 1, 1) := by decide +kernel
theorem dX12_feed_36 : decode cX12_feed 36 = .ok (.iastore, 1) := by decide +kernel
theorem dX12_feed_37 : decode cX12_feed 37 = .ok (.aload_n 0, 1) := by decide +kernel
theorem dX12_feed_38 : decode cX12_feed 38 = .ok (.dup, 1) := by decide +kernel
theorem dX12_feed_39 : decode cX12_feed 39 = .ok (.getfield 58, 3) := by decide +kernel
theorem dX12_feed_42 : decode cX12_feed 42 = .ok (.iconst 1, 1) := by decide +kernel
theorem dX12_feed_43 : decode cX12_feed 43 = .ok (.iadd, 1) := by decide +kernel
theorem dX12_feed_44 : decode cX12_feed 44 = .ok (.putfield 58, 3) := by decide +kernel
theorem dX12_feed_47 : decode cX12_feed 47 = .ok (.aload_n 0, 1) := by decide +kernel
theorem dX12_feed_48 : decode cX12_feed 48 = .ok (.getfield 58, 3) := by decide +kernel
theorem dX12_feed_51 : decode cX12_feed 51 = .ok (.ireturn, 1) := by decide +kernel
theorem dX12_byteAt_0 : decode cX12_byteAt 0 = .ok (.iload_n 1, 1) := by decide +kernel
theorem dX12_byteAt_1 : decode cX12_byteAt 1 = .ok (.aload_n 0, 1) := by decide +kernel
theorem dX12_byteAt_2 : decode cX12_byteAt 2 = .ok (.getfield 58, 3) := by decide +kernel
theorem dX12_byteAt_5 : decode cX12_byteAt 5 = .ok (.if_icmp .ge 12, 3) := by decide +kernel
theorem dX12_byteAt_8 : decode cX12_byteAt 8 = .ok (.aload_n 0, 1) := by decide +kernel
theorem dX12_byteAt_9 : decode cX12_byteAt 9 = .ok (.getfield 36, 3) := by decide +kernel
theorem dX12_byteAt_12 : decode cX12_byteAt 12 = .ok (.iload_n 1, 1) := by decide +kernel
theorem dX12_byteAt_13 : decode cX12_byteAt 13 = .ok (.iaload, 1) := by decide +kernel
theorem dX12_byteAt_14 : decode cX12_byteAt 14 = .ok (.goto 4, 3) := by decide +kernel
theorem dX12_byteAt_17 : decode cX12_byteAt 17 = .ok (.iconst (-1), 1) := by decide +kernel
theorem dX12_byteAt_18 : decode cX12_byteAt 18 = .ok (.ireturn, 1) := by decide +kernel
theorem dX12_stops_0 : decode cX12_stops 0 = .ok (.aload_n 0, 1) := by decide +kernel
theorem dX12_stops_1 : decode cX12_stops 1 = .ok (.aload_n 0, 1) := by decide +kernel
theorem dX12_stops_2 : decode cX12_stops 2 = .ok (.getfield 62, 3) := by decide +kernel
theorem dX12_stops_5 : decode cX12_stops 5 = .ok (.putfield 65, 3) := by decide +kernel
theorem dX12_stops_8 : decode cX12_stops 8 = .ok (.iconst (-1), 1) := by decide +kernel
theorem dX12_stops_9 : decode cX12_stops 9 = .ok (.ireturn, 1) := by decide +kernel
theorem dX12_is_0 : decode cX12_is 0 = .ok (.aload_n 0, 1) := by decide +kernel
theorem dX12_is_1 : decode cX12_is 1 = .ok (.aload_n 0, 1) := by decide +kernel
theorem dX12_is_2 : decode cX12_is 2 = .ok (.getfield 62, 3) := by decide +kernel
theorem dX12_is_5 : decode cX12_is 5 = .ok (.invokevirtual 68, 3) := by decide +kernel
theorem dX12_is_8 : decode cX12_is 8 = .ok (.iload_n 1, 1) := by decide +kernel
theorem dX12_is_9 : decode cX12_is 9 = .ok (.if_icmp .eq 5, 3) := by decide +kernel
theorem dX12_is_12 : decode cX12_is 12 = .ok (.iconst 0, 1) := by decide +kernel
theorem dX12_is_13 : decode cX12_is 13 = .ok (.ireturn, 1) := by decide +kernel
theorem dX12_is_14 : decode cX12_is 14 = .ok (.aload_n 0, 1) := by decide +kernel
theorem dX12_is_15 : decode cX12_is 15 = .ok (.dup, 1) := by decide +kernel
theorem dX12_is_16 : decode cX12_is 16 = .ok (.getfield 62, 3) := by decide +kernel
theorem dX12_is_19 : decode cX12_is 19 = .ok (.iconst 1, 1) := by decide +kernel
theorem dX12_is_20 : decode cX12_is 20 = .ok (.iadd, 1) := by decide +kernel
theorem dX12_is_21 : decode cX12_is 21 = .ok (.putfield 62, 3) := by decide +kernel
theorem dX12_is_24 : decode cX12_is 24 = .ok (.iconst 1, 1) := by decide +kernel
theorem dX12_is_25 : decode cX12_is 25 = .ok (.ireturn, 1) := by decide +kernel
theorem dX12_partsOf_0 : decode cX12_partsOf 0 = .ok (.iload_n 0, 1) := by decide +kernel
theorem dX12_partsOf_1 : decode cX12_partsOf 1 = .ok (.lookupswitch 129 #[(33, 127), (37, 125), (42, 123), (43, 123), (45, 123), (58, 127), (60, 123), (61, 123), (63, 125), (64, 127), (70, 127), (71, 127), (72, 127), (94, 127)], 123) := by decide +kernel
theorem dX12_partsOf_124 : decode cX12_partsOf 124 = .ok (.iconst 2, 1) := by decide +kernel
theorem dX12_partsOf_125 : decode cX12_partsOf 125 = .ok (.ireturn, 1) := by decide +kernel
theorem dX12_partsOf_126 : decode cX12_partsOf 126 = .ok (.iconst 3, 1) := by decide +kernel
theorem dX12_partsOf_127 : decode cX12_partsOf 127 = .ok (.ireturn, 1) := by decide +kernel
theorem dX12_partsOf_128 : decode cX12_partsOf 128 = .ok (.iconst 1, 1) := by decide +kernel
theorem dX12_partsOf_129 : decode cX12_partsOf 129 = .ok (.ireturn, 1) := by decide +kernel
theorem dX12_partsOf_130 : decode cX12_partsOf 130 = .ok (.iconst 0, 1) := by decide +kernel
theorem dX12_partsOf_131 : decode cX12_partsOf 131 = .ok (.ireturn, 1) := by decide +kernel
theorem dX12_hasName_0 : decode cX12_hasName 0 = .ok (.iload_n 0, 1) := by decide +kernel
theorem dX12_hasName_1 : decode cX12_hasName 1 = .ok (.bipush 61, 2) := by decide +kernel
theorem dX12_hasName_3 : decode cX12_hasName 3 = .ok (.if_icmp .eq 21, 3) := by decide +kernel
theorem dX12_hasName_6 : decode cX12_hasName 6 = .ok (.iload_n 0, 1) := by decide +kernel
theorem dX12_hasName_7 : decode cX12_hasName 7 = .ok (.bipush 64, 2) := by decide +kernel
theorem dX12_hasName_9 : decode cX12_hasName 9 = .ok (.if_icmp .eq 15, 3) := by decide +kernel
theorem dX12_hasName_12 : decode cX12_hasName 12 = .ok (.iload_n 0, 1) := by decide +kernel
theorem dX12_hasName_13 : decode cX12_hasName 13 = .ok (.bipush 94, 2) := by decide +kernel
theorem dX12_hasName_15 : decode cX12_hasName 15 = .ok (.if_icmp .eq 9, 3) := by decide +kernel
theorem dX12_hasName_18 : decode cX12_hasName 18 = .ok (.iload_n 0, 1) := by decide +kernel
theorem dX12_hasName_19 : decode cX12_hasName 19 = .ok (.bipush 58, 2) := by decide +kernel
theorem dX12_hasName_21 : decode cX12_hasName 21 = .ok (.if_icmp .ne 7, 3) := by decide +kernel
theorem dX12_hasName_24 : decode cX12_hasName 24 = .ok (.iconst 1, 1) := by decide +kernel
theorem dX12_hasName_25 : decode cX12_hasName 25 = .ok (.goto 4, 3) := by decide +kernel
theorem dX12_hasName_28 : decode cX12_hasName 28 = .ok (.iconst 0, 1) := by decide +kernel
theorem dX12_hasName_29 : decode cX12_hasName 29 = .ok (.ireturn, 1) := by decide +kernel
theorem dX12_expression_0 : decode cX12_expression 0 = .ok (.bipush 101, 2) := by decide +kernel
theorem dX12_expression_2 : decode cX12_expression 2 = .ok (.aload_n 0, 1) := by decide +kernel
theorem dX12_expression_3 : decode cX12_expression 3 = .ok (.getfield 72, 3) := by decide +kernel
theorem dX12_expression_6 : decode cX12_expression 6 = .ok (.imul, 1) := by decide +kernel
theorem dX12_expression_7 : decode cX12_expression 7 = .ok (.aload_n 0, 1) := by decide +kernel
theorem dX12_expression_8 : decode cX12_expression 8 = .ok (.getfield 75, 3) := by decide +kernel
theorem dX12_expression_11 : decode cX12_expression 11 = .ok (.iadd, 1) := by decide +kernel
theorem dX12_expression_12 : decode cX12_expression 12 = .ok (.istore_n 2, 1) := by decide +kernel
theorem dX12_expression_13 : decode cX12_expression 13 = .ok (.aload_n 0, 1) := by decide +kernel
theorem dX12_expression_14 : decode cX12_expression 14 = .ok (.aload_n 0, 1) := by decide +kernel
theorem dX12_expression_15 : decode cX12_expression 15 = .ok (.getfield 62, 3) := by decide +kernel
theorem dX12_expression_18 : decode cX12_expression 18 = .ok (.invokevirtual 68, 3) := by decide +kernel
theorem dX12_expression_21 : decode cX12_expression 21 = .ok (.istore_n 3, 1) := by decide +kernel
theorem dX12_expression_22 : decode cX12_expression 22 = .ok (.aload_n 0, 1) := by decide +kernel
theorem dX12_expression_23 : decode cX12_expression 23 = .ok (.dup, 1) := by decide +kernel
theorem dX12_expression_24 : decode cX12_expression 24 = .ok (.getfield 75, 3) := by decide +kernel
theorem dX12_expression_27 : decode cX12_expression 27 = .ok (.iconst 1, 1) := by decide +kernel
theorem dX12_expression_28 : decode cX12_expression 28 = .ok (.iadd, 1) := by decide +kernel
theorem dX12_expression_29 : decode cX12_expression 29 = .ok (.putfield 75, 3) := by decide +kernel
theorem dX12_expression_32 : decode cX12_expression 32 = .ok (.aload_n 0, 1) := by decide +kernel
theorem dX12_expression_33 : decode cX12_expression 33 = .ok (.getfield 21, 3) := by decide +kernel
theorem dX12_expression_36 : decode cX12_expression 36 = .ok (.iload_n 2, 1) := by decide +kernel
theorem dX12_expression_37 : decode cX12_expression 37 = .ok (.iload_n 3, 1) := by decide +kernel
theorem dX12_expression_38 : decode cX12_expression 38 = .ok (.iastore, 1) := by decide +kernel
theorem dX12_expression_39 : decode cX12_expression 39 = .ok (.aload_n 0, 1) := by decide +kernel
theorem dX12_expression_40 : decode cX12_expression 40 = .ok (.getfield 27, 3) := by decide +kernel
theorem dX12_expression_43 : decode cX12_expression 43 = .ok (.iload_n 2, 1) := by decide +kernel
theorem dX12_expression_44 : decode cX12_expression 44 = .ok (.iconst 0, 1) := by decide +kernel
theorem dX12_expression_45 : decode cX12_expression 45 = .ok (.iastore, 1) := by decide +kernel
theorem dX12_expression_46 : decode cX12_expression 46 = .ok (.iload_n 3, 1) := by decide +kernel
theorem dX12_expression_47 : decode cX12_expression 47 = .ok (.i2l, 1) := by decide +kernel
theorem dX12_expression_48 : decode cX12_expression 48 = .ok (.ldc2_w 78, 3) := by decide +kernel
theorem dX12_expression_51 : decode cX12_expression 51 = .ok (.ldc2_w 80, 3) := by decide +kernel
theorem dX12_expression_54 : decode cX12_expression 54 = .ok (.invokestatic 54, 3) := by decide +kernel
theorem dX12_expression_57 : decode cX12_expression 57 = .ok (.ifCond .eq 89, 3) := by decide +kernel
theorem dX12_expression_60 : decode cX12_expression 60 = .ok (.iconst 0, 1) := by decide +kernel
theorem dX12_expression_61 : decode cX12_expression 61 = .ok (.istore 4, 2) := by decide +kernel
theorem dX12_expression_63 : decode cX12_expression 63 = .ok (.iconst 0, 1) := by decide +kernel
theorem dX12_expression_64 : decode cX12_expression 64 = .ok (.istore 5, 2) := by decide +kernel
theorem dX12_expression_66 : decode cX12_expression 66 = .ok (.iload 5, 2) := by decide +kernel
theorem dX12_expression_68 : decode cX12_expression 68 = .ok (.iconst 3, 1) := by decide +kernel
theorem dX12_expression_69 : decode cX12_expression 69 = .ok (.if_icmp .ge 59, 3) := by decide +kernel
theorem dX12_expression_72 : decode cX12_expression 72 = .ok (.aload_n 0, 1) := by decide +kernel
theorem dX12_expression_73 : decode cX12_expression 73 = .ok (.aload_n 0, 1) := by decide +kernel
theorem dX12_expression_74 : decode cX12_expression 74 = .ok (.getfield 62, 3) := by decide +kernel
theorem dX12_expression_77 : decode cX12_expression 77 = .ok (.invokevirtual 68, 3) := by decide +kernel
theorem dX12_expression_80 : decode cX12_expression 80 = .ok (.i2l, 1) := by decide +kernel
theorem dX12_expression_81 : decode cX12_expression 81 = .ok (.ldc2_w 78, 3) := by decide +kernel
theorem dX12_expression_84 : decode cX12_expression 84 = .ok (.ldc2_w 80, 3) := by decide +kernel
theorem dX12_expression_87 : decode cX12_expression 87 = .ok (.invokestatic 54, 3) := by decide +kernel
theorem dX12_expression_90 : decode cX12_expression 90 = .ok (.ifCond .eq 38, 3) := by decide +kernel
theorem dX12_expression_93 : decode cX12_expression 93 = .ok (.bipush 10, 2) := by decide +kernel
theorem dX12_expression_95 : decode cX12_expression 95 = .ok (.iload 4, 2) := by decide +kernel
theorem dX12_expression_97 : decode cX12_expression 97 = .ok (.imul, 1) := by decide +kernel
theorem dX12_expression_98 : decode cX12_expression 98 = .ok (.aload_n 0, 1) := by decide +kernel
theorem dX12_expression_99 : decode cX12_expression 99 = .ok (.aload_n 0, 1) := by decide +kernel
theorem dX12_expression_100 : decode cX12_expression 100 = .ok (.getfield 62, 3) := by decide +kernel
theorem dX12_expression_103 : decode cX12_expression 103 = .ok (.invokevirtual 68, 3) := by decide +kernel
theorem dX12_expression_106 : decode cX12_expression 106 = .ok (.iadd, 1) := by decide +kernel
theorem dX12_expression_107 : decode cX12_expression 107 = .ok (.bipush 48, 2) := by decide +kernel
theorem dX12_expression_109 : decode cX12_expression 109 = .ok (.isub, 1) := by decide +kernel
theorem dX12_expression_110 : decode cX12_expression 110 = .ok (.istore 4, 2) := by decide +kernel
theorem dX12_expression_112 : decode cX12_expression 112 = .ok (.aload_n 0, 1) := by decide +kernel
theorem dX12_expression_113 : decode cX12_expression 113 = .ok (.dup, 1) := by decide +kernel
theorem dX12_expression_114 : decode cX12_expression 114 = .ok (.getfield 62, 3) := by decide +kernel
theorem dX12_expression_117 : decode cX12_expression 117 = .ok (.iconst 1, 1) := by decide +kernel
theorem dX12_expression_118 : decode cX12_expression 118 = .ok (.iadd, 1) := by decide +kernel
theorem dX12_expression_119 : decode cX12_expression 119 = .ok (.putfield 62, 3) := by decide +kernel
theorem dX12_expression_122 : decode cX12_expression 122 = .ok (.iinc 5 1, 3) := by decide +kernel
theorem dX12_expression_125 : decode cX12_expression 125 = .ok (.goto (-59), 3) := by decide +kernel
theorem dX12_expression_128 : decode cX12_expression 128 = .ok (.aload_n 0, 1) := by decide +kernel
theorem dX12_expression_129 : decode cX12_expression 129 = .ok (.getfield 21, 3) := by decide +kernel
theorem dX12_expression_132 : decode cX12_expression 132 = .ok (.iload_n 2, 1) := by decide +kernel
theorem dX12_expression_133 : decode cX12_expression 133 = .ok (.bipush 48, 2) := by decide +kernel
theorem dX12_expression_135 : decode cX12_expression 135 = .ok (.iastore, 1) := by decide +kernel
theorem dX12_expression_136 : decode cX12_expression 136 = .ok (.aload_n 0, 1) := by decide +kernel
theorem dX12_expression_137 : decode cX12_expression 137 = .ok (.getfield 24, 3) := by decide +kernel
theorem dX12_expression_140 : decode cX12_expression 140 = .ok (.iload_n 2, 1) := by decide +kernel
theorem dX12_expression_141 : decode cX12_expression 141 = .ok (.iload 4, 2) := by decide +kernel
theorem dX12_expression_143 : decode cX12_expression 143 = .ok (.iastore, 1) := by decide +kernel
theorem dX12_expression_144 : decode cX12_expression 144 = .ok (.iload_n 2, 1) := by decide +kernel
theorem dX12_expression_145 : decode cX12_expression 145 = .ok (.ireturn, 1) := by decide +kernel
theorem dX12_expression_146 : decode cX12_expression 146 = .ok (.iload_n 3, 1) := by decide +kernel
theorem dX12_expression_147 : decode cX12_expression 147 = .ok (.i2l, 1) := by decide +kernel
theorem dX12_expression_148 : decode cX12_expression 148 = .ok (.ldc2_w 82, 3) := by decide +kernel
theorem dX12_expression_151 : decode cX12_expression 151 = .ok (.ldc2_w 84, 3) := by decide +kernel
theorem dX12_expression_154 : decode cX12_expression 154 = .ok (.invokestatic 54, 3) := by decide +kernel
theorem dX12_expression_157 : decode cX12_expression 157 = .ok (.ifCond .eq 33, 3) := by decide +kernel
theorem dX12_expression_160 : decode cX12_expression 160 = .ok (.aload_n 0, 1) := by decide +kernel
theorem dX12_expression_161 : decode cX12_expression 161 = .ok (.dup, 1) := by decide +kernel
theorem dX12_expression_162 : decode cX12_expression 162 = .ok (.getfield 62, 3) := by decide +kernel
theorem dX12_expression_165 : decode cX12_expression 165 = .ok (.iconst 1, 1) := by decide +kernel
theorem dX12_expression_166 : decode cX12_expression 166 = .ok (.iadd, 1) := by decide +kernel
theorem dX12_expression_167 : decode cX12_expression 167 = .ok (.putfield 62, 3) := by decide +kernel
theorem dX12_expression_170 : decode cX12_expression 170 = .ok (.aload_n 0, 1) := by decide +kernel
theorem dX12_expression_171 : decode cX12_expression 171 = .ok (.getfield 21, 3) := by decide +kernel
theorem dX12_expression_174 : decode cX12_expression 174 = .ok (.iload_n 2, 1) := by decide +kernel
theorem dX12_expression_175 : decode cX12_expression 175 = .ok (.bipush 97, 2) := by decide +kernel
theorem dX12_expression_177 : decode cX12_expression 177 = .ok (.iastore, 1) := by decide +kernel
theorem dX12_expression_178 : decode cX12_expression 178 = .ok (.aload_n 0, 1) := by decide +kernel
theorem dX12_expression_179 : decode cX12_expression 179 = .ok (.getfield 24, 3) := by decide +kernel
theorem dX12_expression_182 : decode cX12_expression 182 = .ok (.iload_n 2, 1) := by decide +kernel
theorem dX12_expression_183 : decode cX12_expression 183 = .ok (.iload_n 3, 1) := by decide +kernel
theorem dX12_expression_184 : decode cX12_expression 184 = .ok (.bipush 97, 2) := by decide +kernel
theorem dX12_expression_186 : decode cX12_expression 186 = .ok (.isub, 1) := by decide +kernel
theorem dX12_expression_187 : decode cX12_expression 187 = .ok (.iastore, 1) := by decide +kernel
theorem dX12_expression_188 : decode cX12_expression 188 = .ok (.iload_n 2, 1) := by decide +kernel
theorem dX12_expression_189 : decode cX12_expression 189 = .ok (.ireturn, 1) := by decide +kernel
theorem dX12_expression_190 : decode cX12_expression 190 = .ok (.iload_n 3, 1) := by decide +kernel
theorem dX12_expression_191 : decode cX12_expression 191 = .ok (.bipush 91, 2) := by decide +kernel
theorem dX12_expression_193 : decode cX12_expression 193 = .ok (.if_icmp .ne 23, 3) := by decide +kernel
theorem dX12_expression_196 : decode cX12_expression 196 = .ok (.iload_n 1, 1) := by decide +kernel
theorem dX12_expression_197 : decode cX12_expression 197 = .ok (.bipush 7, 2) := by decide +kernel
theorem dX12_expression_199 : decode cX12_expression 199 = .ok (.if_icmp .ne 10, 3) := by decide +kernel
theorem dX12_expression_202 : decode cX12_expression 202 = .ok (.aload_n 0, 1) := by decide +kernel
theorem dX12_expression_203 : decode cX12_expression 203 = .ok (.invokevirtual 86, 3) := by decide +kernel
theorem dX12_expression_206 : decode cX12_expression 206 = .ok (.goto 9, 3) := by decide +kernel
theorem dX12_expression_209 : decode cX12_expression 209 = .ok (.aload_n 0, 1) := by decide +kernel
theorem dX12_expression_210 : decode cX12_expression 210 = .ok (.iload_n 2, 1) := by decide +kernel
theorem dX12_expression_211 : decode cX12_expression 211 = .ok (.iload_n 1, 1) := by decide +kernel
theorem dX12_expression_212 : decode cX12_expression 212 = .ok (.invokevirtual 90, 3) := by decide +kernel
theorem dX12_expression_215 : decode cX12_expression 215 = .ok (.ireturn, 1) := by decide +kernel
theorem dX12_expression_216 : decode cX12_expression 216 = .ok (.iload_n 3, 1) := by decide +kernel
theorem dX12_expression_217 : decode cX12_expression 217 = .ok (.invokestatic 94, 3) := by decide +kernel
theorem dX12_expression_220 : decode cX12_expression 220 = .ok (.istore 4, 2) := by decide +kernel
theorem dX12_expression_222 : decode cX12_expression 222 = .ok (.iload 4, 2) := by decide +kernel
theorem dX12_expression_224 : decode cX12_expression 224 = .ok (.ifCond .eq 9, 3) := by decide +kernel
theorem dX12_expression_227 : decode cX12_expression 227 = .ok (.iload_n 1, 1) := by decide +kernel
theorem dX12_expression_228 : decode cX12_expression 228 = .ok (.bipush 7, 2) := by decide +kernel
theorem dX12_expression_230 : decode cX12_expression 230 = .ok (.if_icmp .ne 8, 3) := by decide +kernel
theorem dX12_expression_233 : decode cX12_expression 233 = .ok (.aload_n 0, 1) := by decide +kernel
theorem dX12_expression_234 : decode cX12_expression 234 = .ok (.invokevirtual 86, 3) := by decide +kernel
theorem dX12_expression_237 : decode cX12_expression 237 = .ok (.ireturn, 1) := by decide +kernel
theorem dX12_expression_238 : decode cX12_expression 238 = .ok (.aload_n 0, 1) := by decide +kernel
theorem dX12_expression_239 : decode cX12_expression 239 = .ok (.dup, 1) := by decide +kernel
theorem dX12_expression_240 : decode cX12_expression 240 = .ok (.getfield 62, 3) := by decide +kernel
theorem dX12_expression_243 : decode cX12_expression 243 = .ok (.iconst 1, 1) := by decide +kernel
theorem dX12_expression_244 : decode cX12_expression 244 = .ok (.iadd, 1) := by decide +kernel
theorem dX12_expression_245 : decode cX12_expression 245 = .ok (.putfield 62, 3) := by decide +kernel
theorem dX12_expression_248 : decode cX12_expression 248 = .ok (.iload_n 3, 1) := by decide +kernel
theorem dX12_expression_249 : decode cX12_expression 249 = .ok (.invokestatic 97, 3) := by decide +kernel
theorem dX12_expression_252 : decode cX12_expression 252 = .ok (.ifCond .eq 56, 3) := by decide +kernel
theorem dX12_expression_255 : decode cX12_expression 255 = .ok (.aload_n 0, 1) := by decide +kernel
theorem dX12_expression_256 : decode cX12_expression 256 = .ok (.aload_n 0, 1) := by decide +kernel
theorem dX12_expression_257 : decode cX12_expression 257 = .ok (.getfield 62, 3) := by decide +kernel
theorem dX12_expression_260 : decode cX12_expression 260 = .ok (.invokevirtual 68, 3) := by decide +kernel
theorem dX12_expression_263 : decode cX12_expression 263 = .ok (.i2l, 1) := by decide +kernel
theorem dX12_expression_264 : decode cX12_expression 264 = .ok (.ldc2_w 82, 3) := by decide +kernel
theorem dX12_expression_267 : decode cX12_expression 267 = .ok (.ldc2_w 84, 3) := by decide +kernel
theorem dX12_expression_270 : decode cX12_expression 270 = .ok (.invokestatic 54, 3) := by decide +kernel
theorem dX12_expression_273 : decode cX12_expression 273 = .ok (.ifCond .ne 8, 3) := by decide +kernel
theorem dX12_expression_276 : decode cX12_expression 276 = .ok (.aload_n 0, 1) := by decide +kernel
theorem dX12_expression_277 : decode cX12_expression 277 = .ok (.invokevirtual 86, 3) := by decide +kernel
theorem dX12_expression_280 : decode cX12_expression 280 = .ok (.ireturn, 1) := by decide +kernel
theorem dX12_expression_281 : decode cX12_expression 281 = .ok (.aload_n 0, 1) := by decide +kernel
theorem dX12_expression_282 : decode cX12_expression 282 = .ok (.getfield 24, 3) := by decide +kernel
theorem dX12_expression_285 : decode cX12_expression 285 = .ok (.iload_n 2, 1) := by decide +kernel
theorem dX12_expression_286 : decode cX12_expression 286 = .ok (.aload_n 0, 1) := by decide +kernel
theorem dX12_expression_287 : decode cX12_expression 287 = .ok (.aload_n 0, 1) := by decide +kernel
theorem dX12_expression_288 : decode cX12_expression 288 = .ok (.getfield 62, 3) := by decide +kernel
theorem dX12_expression_291 : decode cX12_expression 291 = .ok (.invokevirtual 68, 3) := by decide +kernel
theorem dX12_expression_294 : decode cX12_expression 294 = .ok (.bipush 97, 2) := by decide +kernel
theorem dX12_expression_296 : decode cX12_expression 296 = .ok (.isub, 1) := by decide +kernel
theorem dX12_expression_297 : decode cX12_expression 297 = .ok (.iastore, 1) := by decide +kernel
theorem dX12_expression_298 : decode cX12_expression 298 = .ok (.aload_n 0, 1) := by decide +kernel
theorem dX12_expression_299 : decode cX12_expression 299 = .ok (.dup, 1) := by decide +kernel
theorem dX12_expression_300 : decode cX12_expression 300 = .ok (.getfield 62, 3) := by decide +kernel
theorem dX12_expression_303 : decode cX12_expression 303 = .ok (.iconst 1, 1) := by decide +kernel
theorem dX12_expression_304 : decode cX12_expression 304 = .ok (.iadd, 1) := by decide +kernel
theorem dX12_expression_305 : decode cX12_expression 305 = .ok (.putfield 62, 3) := by decide +kernel
theorem dX12_expression_308 : decode cX12_expression 308 = .ok (.aload_n 0, 1) := by decide +kernel
theorem dX12_expression_309 : decode cX12_expression 309 = .ok (.bipush 40, 2) := by decide +kernel
theorem dX12_expression_311 : decode cX12_expression 311 = .ok (.invokevirtual 101, 3) := by decide +kernel
theorem dX12_expression_314 : decode cX12_expression 314 = .ok (.ifCond .ne 8, 3) := by decide +kernel
theorem dX12_expression_317 : decode cX12_expression 317 = .ok (.aload_n 0, 1) := by decide +kernel
theorem dX12_expression_318 : decode cX12_expression 318 = .ok (.invokevirtual 86, 3) := by decide +kernel
theorem dX12_expression_321 : decode cX12_expression 321 = .ok (.ireturn, 1) := by decide +kernel
theorem dX12_expression_322 : decode cX12_expression 322 = .ok (.iconst 0, 1) := by decide +kernel
theorem dX12_expression_323 : decode cX12_expression 323 = .ok (.istore 5, 2) := by decide +kernel
theorem dX12_expression_325 : decode cX12_expression 325 = .ok (.iload 5, 2) := by decide +kernel
theorem dX12_expression_327 : decode cX12_expression 327 = .ok (.iload 4, 2) := by decide +kernel
theorem dX12_expression_329 : decode cX12_expression 329 = .ok (.if_icmp .ge 48, 3) := by decide +kernel
theorem dX12_expression_332 : decode cX12_expression 332 = .ok (.iload 5, 2) := by decide +kernel
theorem dX12_expression_334 : decode cX12_expression 334 = .ok (.ifCond .le 12, 3) := by decide +kernel
theorem dX12_expression_337 : decode cX12_expression 337 = .ok (.aload_n 0, 1) := by decide +kernel
theorem dX12_expression_338 : decode cX12_expression 338 = .ok (.bipush 44, 2) := by decide +kernel
theorem dX12_expression_340 : decode cX12_expression 340 = .ok (.invokevirtual 101, 3) := by decide +kernel
theorem dX12_expression_343 : decode cX12_expression 343 = .ok (.ifCond .eq 12, 3) := by decide +kernel
theorem dX12_expression_346 : decode cX12_expression 346 = .ok (.aload_n 0, 1) := by decide +kernel
theorem dX12_expression_347 : decode cX12_expression 347 = .ok (.iload_n 2, 1) := by decide +kernel
theorem dX12_expression_348 : decode cX12_expression 348 = .ok (.iload_n 1, 1) := by decide +kernel
theorem dX12_expression_349 : decode cX12_expression 349 = .ok (.invokevirtual 104, 3) := by decide +kernel
theorem dX12_expression_352 : decode cX12_expression 352 = .ok (.ifCond .ge 19, 3) := by decide +kernel
theorem dX12_expression_355 : decode cX12_expression 355 = .ok (.aload_n 0, 1) := by decide +kernel
theorem dX12_expression_356 : decode cX12_expression 356 = .ok (.getfield 65, 3) := by decide +kernel
theorem dX12_expression_359 : decode cX12_expression 359 = .ok (.ifCond .lt 7, 3) := by decide +kernel
theorem dX12_expression_362 : decode cX12_expression 362 = .ok (.iconst (-1), 1) := by decide +kernel
theorem dX12_expression_363 : decode cX12_expression 363 = .ok (.goto 7, 3) := by decide +kernel
theorem dX12_expression_366 : decode cX12_expression 366 = .ok (.aload_n 0, 1) := by decide +kernel
theorem dX12_expression_367 : decode cX12_expression 367 = .ok (.invokevirtual 86, 3) := by decide +kernel
theorem dX12_expression_370 : decode cX12_expression 370 = .ok (.ireturn, 1) := by decide +kernel
theorem dX12_expression_371 : decode cX12_expression 371 = .ok (.iinc 5 1, 3) := by decide +kernel
theorem dX12_expression_374 : decode cX12_expression 374 = .ok (.goto (-49), 3) := by decide +kernel
theorem dX12_expression_377 : decode cX12_expression 377 = .ok (.aload_n 0, 1) := by decide +kernel
theorem dX12_expression_378 : decode cX12_expression 378 = .ok (.bipush 41, 2) := by decide +kernel
theorem dX12_expression_380 : decode cX12_expression 380 = .ok (.invokevirtual 101, 3) := by decide +kernel
theorem dX12_expression_383 : decode cX12_expression 383 = .ok (.ifCond .eq 7, 3) := by decide +kernel
theorem dX12_expression_386 : decode cX12_expression 386 = .ok (.iload_n 2, 1) := by decide +kernel
theorem dX12_expression_387 : decode cX12_expression 387 = .ok (.goto 7, 3) := by decide +kernel
theorem dX12_expression_390 : decode cX12_expression 390 = .ok (.aload_n 0, 1) := by decide +kernel
theorem dX12_expression_391 : decode cX12_expression 391 = .ok (.invokevirtual 86, 3) := by decide +kernel
theorem dX12_expression_394 : decode cX12_expression 394 = .ok (.ireturn, 1) := by decide +kernel
theorem dX12_part_0 : decode cX12_part 0 = .ok (.aload_n 0, 1) := by decide +kernel
theorem dX12_part_1 : decode cX12_part 1 = .ok (.iload_n 2, 1) := by decide +kernel
theorem dX12_part_2 : decode cX12_part 2 = .ok (.iconst 1, 1) := by decide +kernel
theorem dX12_part_3 : decode cX12_part 3 = .ok (.iadd, 1) := by decide +kernel
theorem dX12_part_4 : decode cX12_part 4 = .ok (.invokevirtual 107, 3) := by decide +kernel
theorem dX12_part_7 : decode cX12_part 7 = .ok (.istore_n 3, 1) := by decide +kernel
theorem dX12_part_8 : decode cX12_part 8 = .ok (.iload_n 3, 1) := by decide +kernel
theorem dX12_part_9 : decode cX12_part 9 = .ok (.ifCond .ge 5, 3) := by decide +kernel
theorem dX12_part_12 : decode cX12_part 12 = .ok (.iconst (-1), 1) := by decide +kernel
theorem dX12_part_13 : decode cX12_part 13 = .ok (.ireturn, 1) := by decide +kernel
theorem dX12_part_14 : decode cX12_part 14 = .ok (.aload_n 0, 1) := by decide +kernel
theorem dX12_part_15 : decode cX12_part 15 = .ok (.getfield 30, 3) := by decide +kernel
theorem dX12_part_18 : decode cX12_part 18 = .ok (.iconst 5, 1) := by decide +kernel
theorem dX12_part_19 : decode cX12_part 19 = .ok (.iload_n 1, 1) := by decide +kernel
theorem dX12_part_20 : decode cX12_part 20 = .ok (.imul, 1) := by decide +kernel
theorem dX12_part_21 : decode cX12_part 21 = .ok (.aload_n 0, 1) := by decide +kernel
theorem dX12_part_22 : decode cX12_part 22 = .ok (.getfield 27, 3) := by decide +kernel
theorem dX12_part_25 : decode cX12_part 25 = .ok (.iload_n 1, 1) := by decide +kernel
theorem dX12_part_26 : decode cX12_part 26 = .ok (.iaload, 1) := by decide +kernel
theorem dX12_part_27 : decode cX12_part 27 = .ok (.iadd, 1) := by decide +kernel
theorem dX12_part_28 : decode cX12_part 28 = .ok (.iload_n 3, 1) := by decide +kernel
theorem dX12_part_29 : decode cX12_part 29 = .ok (.iastore, 1) := by decide +kernel
theorem dX12_part_30 : decode cX12_part 30 = .ok (.aload_n 0, 1) := by decide +kernel
theorem dX12_part_31 : decode cX12_part 31 = .ok (.getfield 27, 3) := by decide +kernel
theorem dX12_part_34 : decode cX12_part 34 = .ok (.iload_n 1, 1) := by decide +kernel
theorem dX12_part_35 : decode cX12_part 35 = .ok (.dup2, 1) := by decide +kernel
theorem dX12_part_36 : decode cX12_part 36 = .ok (.iaload, 1) := by decide +kernel
theorem dX12_part_37 : decode cX12_part 37 = .ok (.iconst 1, 1) := by decide +kernel
theorem dX12_part_38 : decode cX12_part 38 = .ok (.iadd, 1) := by decide +kernel
theorem dX12_part_39 : decode cX12_part 39 = .ok (.iastore, 1) := by decide +kernel
theorem dX12_part_40 : decode cX12_part 40 = .ok (.iload_n 3, 1) := by decide +kernel
theorem dX12_part_41 : decode cX12_part 41 = .ok (.ireturn, 1) := by decide +kernel
theorem dX12_list_0 : decode cX12_list 0 = .ok (.aload_n 0, 1) := by decide +kernel
theorem dX12_list_1 : decode cX12_list 1 = .ok (.dup, 1) := by decide +kernel
theorem dX12_list_2 : decode cX12_list 2 = .ok (.getfield 62, 3) := by decide +kernel
theorem dX12_list_5 : decode cX12_list 5 = .ok (.iconst 1, 1) := by decide +kernel
theorem dX12_list_6 : decode cX12_list 6 = .ok (.iadd, 1) := by decide +kernel
theorem dX12_list_7 : decode cX12_list 7 = .ok (.putfield 62, 3) := by decide +kernel
theorem dX12_list_10 : decode cX12_list 10 = .ok (.aload_n 0, 1) := by decide +kernel
theorem dX12_list_11 : decode cX12_list 11 = .ok (.iload_n 1, 1) := by decide +kernel
theorem dX12_list_12 : decode cX12_list 12 = .ok (.iload_n 2, 1) := by decide +kernel
theorem dX12_list_13 : decode cX12_list 13 = .ok (.invokevirtual 104, 3) := by decide +kernel
theorem dX12_list_16 : decode cX12_list 16 = .ok (.ifCond .lt 57, 3) := by decide +kernel
theorem dX12_list_19 : decode cX12_list 19 = .ok (.aload_n 0, 1) := by decide +kernel
theorem dX12_list_20 : decode cX12_list 20 = .ok (.getfield 27, 3) := by decide +kernel
