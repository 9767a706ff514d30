-- ===== PART A: goes FIRST, ahead of the names: the tables' words, and 'selects' of the private methods out of them =====
/-- a private method of a class that the tables say can be made, by its rows of tables_1 -/
def lw_okq (q : MethodName × Nat) : Prop := (q.1.cls ≠ "java/lang/invoke/MethodHandle" ∧ q.1.cls ≠ "java/lang/invoke/VarHandle") ∧ Cond.instantiable q.1.cls q.2 ∈ tables_1 ∧ Cond.privateMethod q.1 ∈ tables_1 ∧ Cond.instanceMethod q.1 ∈ tables_1
theorem lw_p0 : lw_okq (⟨"EscapeFrames$Reader", "expression", "(I)I"⟩, 4) := ⟨⟨by decide +kernel, by decide +kernel⟩, List.mem_of_getElem? (i := 62) (by decide +kernel), List.mem_of_getElem? (i := 378) (by decide +kernel), List.mem_of_getElem? (i := 379) (by decide +kernel)⟩
theorem lw_p1 : lw_okq (⟨"EscapeFrames$Reader", "sign", "()I"⟩, 4) := ⟨⟨by decide +kernel, by decide +kernel⟩, List.mem_of_getElem? (i := 62) (by decide +kernel), List.mem_of_getElem? (i := 382) (by decide +kernel), List.mem_of_getElem? (i := 383) (by decide +kernel)⟩
theorem lw_p2 : lw_okq (⟨"EscapeFrames$Reader", "digits", "()I"⟩, 4) := ⟨⟨by decide +kernel, by decide +kernel⟩, List.mem_of_getElem? (i := 62) (by decide +kernel), List.mem_of_getElem? (i := 392) (by decide +kernel), List.mem_of_getElem? (i := 393) (by decide +kernel)⟩
theorem lw_p3 : lw_okq (⟨"EscapeFrames$Reader", "list", "(I)I"⟩, 4) := ⟨⟨by decide +kernel, by decide +kernel⟩, List.mem_of_getElem? (i := 62) (by decide +kernel), List.mem_of_getElem? (i := 411) (by decide +kernel), List.mem_of_getElem? (i := 412) (by decide +kernel)⟩
theorem lw_p4 : lw_okq (⟨"EscapeFrames$Reader", "passed", "(C)Z"⟩, 4) := ⟨⟨by decide +kernel, by decide +kernel⟩, List.mem_of_getElem? (i := 62) (by decide +kernel), List.mem_of_getElem? (i := 416) (by decide +kernel), List.mem_of_getElem? (i := 417) (by decide +kernel)⟩
theorem lw_p5 : lw_okq (⟨"EscapeFrames$Reader", "parts", "(III)I"⟩, 4) := ⟨⟨by decide +kernel, by decide +kernel⟩, List.mem_of_getElem? (i := 62) (by decide +kernel), List.mem_of_getElem? (i := 423) (by decide +kernel), List.mem_of_getElem? (i := 424) (by decide +kernel)⟩
theorem lw_p6 : lw_okq (⟨"EscapeFrames$Lines", "handDown", "(I)V"⟩, 9) := ⟨⟨by decide +kernel, by decide +kernel⟩, List.mem_of_getElem? (i := 25) (by decide +kernel), List.mem_of_getElem? (i := 431) (by decide +kernel), List.mem_of_getElem? (i := 432) (by decide +kernel)⟩
theorem lw_p7 : lw_okq (⟨"EscapeFrames$Lines", "isLast", "(II)Z"⟩, 9) := ⟨⟨by decide +kernel, by decide +kernel⟩, List.mem_of_getElem? (i := 25) (by decide +kernel), List.mem_of_getElem? (i := 444) (by decide +kernel), List.mem_of_getElem? (i := 445) (by decide +kernel)⟩
theorem lw_p8 : lw_okq (⟨"EscapeFrames$Lines", "countIn", "(II)V"⟩, 9) := ⟨⟨by decide +kernel, by decide +kernel⟩, List.mem_of_getElem? (i := 25) (by decide +kernel), List.mem_of_getElem? (i := 448) (by decide +kernel), List.mem_of_getElem? (i := 449) (by decide +kernel)⟩
theorem lw_p9 : lw_okq (⟨"EscapeFrames$Machine", "receive", "()V"⟩, 15) := ⟨⟨by decide +kernel, by decide +kernel⟩, List.mem_of_getElem? (i := 130) (by decide +kernel), List.mem_of_getElem? (i := 524) (by decide +kernel), List.mem_of_getElem? (i := 525) (by decide +kernel)⟩
theorem lw_p10 : lw_okq (⟨"EscapeFrames$Machine", "receiveOp", "(I)V"⟩, 15) := ⟨⟨by decide +kernel, by decide +kernel⟩, List.mem_of_getElem? (i := 130) (by decide +kernel), List.mem_of_getElem? (i := 552) (by decide +kernel), List.mem_of_getElem? (i := 553) (by decide +kernel)⟩
theorem lw_p11 : lw_okq (⟨"EscapeFrames$Machine", "comes", "(II)I"⟩, 15) := ⟨⟨by decide +kernel, by decide +kernel⟩, List.mem_of_getElem? (i := 130) (by decide +kernel), List.mem_of_getElem? (i := 560) (by decide +kernel), List.mem_of_getElem? (i := 561) (by decide +kernel)⟩
theorem lw_p12 : lw_okq (⟨"EscapeFrames$Machine", "workOn", "(I)V"⟩, 15) := ⟨⟨by decide +kernel, by decide +kernel⟩, List.mem_of_getElem? (i := 130) (by decide +kernel), List.mem_of_getElem? (i := 579) (by decide +kernel), List.mem_of_getElem? (i := 580) (by decide +kernel)⟩
theorem lw_p13 : lw_okq (⟨"EscapeFrames$Machine", "give", "(J)V"⟩, 15) := ⟨⟨by decide +kernel, by decide +kernel⟩, List.mem_of_getElem? (i := 130) (by decide +kernel), List.mem_of_getElem? (i := 598) (by decide +kernel), List.mem_of_getElem? (i := 599) (by decide +kernel)⟩
theorem lw_p14 : lw_okq (⟨"EscapeFrames$Machine", "call", "(I)V"⟩, 15) := ⟨⟨by decide +kernel, by decide +kernel⟩, List.mem_of_getElem? (i := 130) (by decide +kernel), List.mem_of_getElem? (i := 612) (by decide +kernel), List.mem_of_getElem? (i := 613) (by decide +kernel)⟩
theorem lw_p15 : lw_okq (⟨"EscapeFrames$Machine", "go", "(IJ)V"⟩, 15) := ⟨⟨by decide +kernel, by decide +kernel⟩, List.mem_of_getElem? (i := 130) (by decide +kernel), List.mem_of_getElem? (i := 621) (by decide +kernel), List.mem_of_getElem? (i := 622) (by decide +kernel)⟩
def lw_privs_1 : List (MethodName × Nat) := [(⟨"EscapeFrames$Reader", "expression", "(I)I"⟩, 4), (⟨"EscapeFrames$Reader", "sign", "()I"⟩, 4), (⟨"EscapeFrames$Reader", "digits", "()I"⟩, 4), (⟨"EscapeFrames$Reader", "list", "(I)I"⟩, 4), (⟨"EscapeFrames$Reader", "passed", "(C)Z"⟩, 4), (⟨"EscapeFrames$Reader", "parts", "(III)I"⟩, 4), (⟨"EscapeFrames$Lines", "handDown", "(I)V"⟩, 9), (⟨"EscapeFrames$Lines", "isLast", "(II)Z"⟩, 9), (⟨"EscapeFrames$Lines", "countIn", "(II)V"⟩, 9), (⟨"EscapeFrames$Machine", "receive", "()V"⟩, 15), (⟨"EscapeFrames$Machine", "receiveOp", "(I)V"⟩, 15), (⟨"EscapeFrames$Machine", "comes", "(II)I"⟩, 15), (⟨"EscapeFrames$Machine", "workOn", "(I)V"⟩, 15), (⟨"EscapeFrames$Machine", "give", "(J)V"⟩, 15), (⟨"EscapeFrames$Machine", "call", "(I)V"⟩, 15), (⟨"EscapeFrames$Machine", "go", "(IJ)V"⟩, 15)]
theorem lw_r1 : ∀ q ∈ lw_privs_1, lw_okq q := List.forall_mem_cons.mpr ⟨lw_p0, List.forall_mem_cons.mpr ⟨lw_p1, List.forall_mem_cons.mpr ⟨lw_p2, List.forall_mem_cons.mpr ⟨lw_p3, List.forall_mem_cons.mpr ⟨lw_p4, List.forall_mem_cons.mpr ⟨lw_p5, List.forall_mem_cons.mpr ⟨lw_p6, List.forall_mem_cons.mpr ⟨lw_p7, List.forall_mem_cons.mpr ⟨lw_p8, List.forall_mem_cons.mpr ⟨lw_p9, List.forall_mem_cons.mpr ⟨lw_p10, List.forall_mem_cons.mpr ⟨lw_p11, List.forall_mem_cons.mpr ⟨lw_p12, List.forall_mem_cons.mpr ⟨lw_p13, List.forall_mem_cons.mpr ⟨lw_p14, List.forall_mem_cons.mpr ⟨lw_p15, fun _ h => absurd h List.not_mem_nil⟩⟩⟩⟩⟩⟩⟩⟩⟩⟩⟩⟩⟩⟩⟩⟩
theorem lw_p16 : lw_okq (⟨"EscapeFrames$Machine", "receiveWind", "(I)V"⟩, 15) := ⟨⟨by decide +kernel, by decide +kernel⟩, List.mem_of_getElem? (i := 130) (by decide +kernel), List.mem_of_getElem? (i := 653) (by decide +kernel), List.mem_of_getElem? (i := 654) (by decide +kernel)⟩
theorem lw_p17 : lw_okq (⟨"EscapeFrames$Machine", "work", "()V"⟩, 15) := ⟨⟨by decide +kernel, by decide +kernel⟩, List.mem_of_getElem? (i := 130) (by decide +kernel), List.mem_of_getElem? (i := 662) (by decide +kernel), List.mem_of_getElem? (i := 663) (by decide +kernel)⟩
theorem lw_p18 : lw_okq (⟨"EscapeFrames$Machine", "lookUp", "(I)J"⟩, 15) := ⟨⟨by decide +kernel, by decide +kernel⟩, List.mem_of_getElem? (i := 130) (by decide +kernel), List.mem_of_getElem? (i := 667) (by decide +kernel), List.mem_of_getElem? (i := 668) (by decide +kernel)⟩
theorem lw_p19 : lw_okq (⟨"EscapeFrames$Machine", "caught", "()J"⟩, 15) := ⟨⟨by decide +kernel, by decide +kernel⟩, List.mem_of_getElem? (i := 130) (by decide +kernel), List.mem_of_getElem? (i := 673) (by decide +kernel), List.mem_of_getElem? (i := 674) (by decide +kernel)⟩
theorem lw_p20 : lw_okq (⟨"EscapeFrames$Machine", "workToGo", "(J)V"⟩, 15) := ⟨⟨by decide +kernel, by decide +kernel⟩, List.mem_of_getElem? (i := 130) (by decide +kernel), List.mem_of_getElem? (i := 678) (by decide +kernel), List.mem_of_getElem? (i := 679) (by decide +kernel)⟩
theorem lw_p21 : lw_okq (⟨"EscapeFrames", "tryOut", "(I)LEscapeFrames$Outcome;"⟩, 9) := ⟨⟨by decide +kernel, by decide +kernel⟩, List.mem_of_getElem? (i := 17) (by decide +kernel), List.mem_of_getElem? (i := 720) (by decide +kernel), List.mem_of_getElem? (i := 721) (by decide +kernel)⟩
theorem lw_p22 : lw_okq (⟨"EscapeFrames", "tryWith", "(III)LEscapeFrames$Outcome;"⟩, 9) := ⟨⟨by decide +kernel, by decide +kernel⟩, List.mem_of_getElem? (i := 17) (by decide +kernel), List.mem_of_getElem? (i := 741) (by decide +kernel), List.mem_of_getElem? (i := 742) (by decide +kernel)⟩
theorem lw_p23 : lw_okq (⟨"EscapeFrames", "tapeOf", "(I)LEscapeFrames$Tape;"⟩, 9) := ⟨⟨by decide +kernel, by decide +kernel⟩, List.mem_of_getElem? (i := 17) (by decide +kernel), List.mem_of_getElem? (i := 798) (by decide +kernel), List.mem_of_getElem? (i := 799) (by decide +kernel)⟩
theorem lw_p24 : lw_okq (⟨"EscapeFramesModel", "expression", "(I)I"⟩, 19) := ⟨⟨by decide +kernel, by decide +kernel⟩, List.mem_of_getElem? (i := 878) (by decide +kernel), List.mem_of_getElem? (i := 954) (by decide +kernel), List.mem_of_getElem? (i := 955) (by decide +kernel)⟩
theorem lw_p25 : lw_okq (⟨"EscapeFramesModel", "byteAt", "(I)I"⟩, 19) := ⟨⟨by decide +kernel, by decide +kernel⟩, List.mem_of_getElem? (i := 878) (by decide +kernel), List.mem_of_getElem? (i := 958) (by decide +kernel), List.mem_of_getElem? (i := 959) (by decide +kernel)⟩
theorem lw_p26 : lw_okq (⟨"EscapeFramesModel", "stops", "()I"⟩, 19) := ⟨⟨by decide +kernel, by decide +kernel⟩, List.mem_of_getElem? (i := 878) (by decide +kernel), List.mem_of_getElem? (i := 966) (by decide +kernel), List.mem_of_getElem? (i := 967) (by decide +kernel)⟩
theorem lw_p27 : lw_okq (⟨"EscapeFramesModel", "list", "(II)I"⟩, 19) := ⟨⟨by decide +kernel, by decide +kernel⟩, List.mem_of_getElem? (i := 878) (by decide +kernel), List.mem_of_getElem? (i := 970) (by decide +kernel), List.mem_of_getElem? (i := 971) (by decide +kernel)⟩
theorem lw_p28 : lw_okq (⟨"EscapeFramesModel", "part", "(II)I"⟩, 19) := ⟨⟨by decide +kernel, by decide +kernel⟩, List.mem_of_getElem? (i := 878) (by decide +kernel), List.mem_of_getElem? (i := 974) (by decide +kernel), List.mem_of_getElem? (i := 975) (by decide +kernel)⟩
theorem lw_p29 : lw_okq (⟨"EscapeFramesModel", "is", "(I)Z"⟩, 19) := ⟨⟨by decide +kernel, by decide +kernel⟩, List.mem_of_getElem? (i := 878) (by decide +kernel), List.mem_of_getElem? (i := 978) (by decide +kernel), List.mem_of_getElem? (i := 979) (by decide +kernel)⟩
theorem lw_p30 : lw_okq (⟨"EscapeFramesModel", "isLine", "(I)Z"⟩, 19) := ⟨⟨by decide +kernel, by decide +kernel⟩, List.mem_of_getElem? (i := 878) (by decide +kernel), List.mem_of_getElem? (i := 992) (by decide +kernel), List.mem_of_getElem? (i := 993) (by decide +kernel)⟩
theorem lw_p31 : lw_okq (⟨"EscapeFramesModel", "deepest", "(I)I"⟩, 19) := ⟨⟨by decide +kernel, by decide +kernel⟩, List.mem_of_getElem? (i := 878) (by decide +kernel), List.mem_of_getElem? (i := 997) (by decide +kernel), List.mem_of_getElem? (i := 998) (by decide +kernel)⟩
def lw_privs_2 : List (MethodName × Nat) := [(⟨"EscapeFrames$Machine", "receiveWind", "(I)V"⟩, 15), (⟨"EscapeFrames$Machine", "work", "()V"⟩, 15), (⟨"EscapeFrames$Machine", "lookUp", "(I)J"⟩, 15), (⟨"EscapeFrames$Machine", "caught", "()J"⟩, 15), (⟨"EscapeFrames$Machine", "workToGo", "(J)V"⟩, 15), (⟨"EscapeFrames", "tryOut", "(I)LEscapeFrames$Outcome;"⟩, 9), (⟨"EscapeFrames", "tryWith", "(III)LEscapeFrames$Outcome;"⟩, 9), (⟨"EscapeFrames", "tapeOf", "(I)LEscapeFrames$Tape;"⟩, 9), (⟨"EscapeFramesModel", "expression", "(I)I"⟩, 19), (⟨"EscapeFramesModel", "byteAt", "(I)I"⟩, 19), (⟨"EscapeFramesModel", "stops", "()I"⟩, 19), (⟨"EscapeFramesModel", "list", "(II)I"⟩, 19), (⟨"EscapeFramesModel", "part", "(II)I"⟩, 19), (⟨"EscapeFramesModel", "is", "(I)Z"⟩, 19), (⟨"EscapeFramesModel", "isLine", "(I)Z"⟩, 19), (⟨"EscapeFramesModel", "deepest", "(I)I"⟩, 19)]
theorem lw_r2 : ∀ q ∈ lw_privs_2, lw_okq q := List.forall_mem_cons.mpr ⟨lw_p16, List.forall_mem_cons.mpr ⟨lw_p17, List.forall_mem_cons.mpr ⟨lw_p18, List.forall_mem_cons.mpr ⟨lw_p19, List.forall_mem_cons.mpr ⟨lw_p20, List.forall_mem_cons.mpr ⟨lw_p21, List.forall_mem_cons.mpr ⟨lw_p22, List.forall_mem_cons.mpr ⟨lw_p23, List.forall_mem_cons.mpr ⟨lw_p24, List.forall_mem_cons.mpr ⟨lw_p25, List.forall_mem_cons.mpr ⟨lw_p26, List.forall_mem_cons.mpr ⟨lw_p27, List.forall_mem_cons.mpr ⟨lw_p28, List.forall_mem_cons.mpr ⟨lw_p29, List.forall_mem_cons.mpr ⟨lw_p30, List.forall_mem_cons.mpr ⟨lw_p31, fun _ h => absurd h List.not_mem_nil⟩⟩⟩⟩⟩⟩⟩⟩⟩⟩⟩⟩⟩⟩⟩⟩
theorem lw_p32 : lw_okq (⟨"EscapeFramesModel", "lastCalls", "(I)I"⟩, 19) := ⟨⟨by decide +kernel, by decide +kernel⟩, List.mem_of_getElem? (i := 878) (by decide +kernel), List.mem_of_getElem? (i := 1002) (by decide +kernel), List.mem_of_getElem? (i := 1003) (by decide +kernel)⟩
theorem lw_p33 : lw_okq (⟨"EscapeFramesModel", "begins", "(I)V"⟩, 19) := ⟨⟨by decide +kernel, by decide +kernel⟩, List.mem_of_getElem? (i := 878) (by decide +kernel), List.mem_of_getElem? (i := 1026) (by decide +kernel), List.mem_of_getElem? (i := 1027) (by decide +kernel)⟩
theorem lw_p34 : lw_okq (⟨"EscapeFramesModel", "works", "(III)V"⟩, 19) := ⟨⟨by decide +kernel, by decide +kernel⟩, List.mem_of_getElem? (i := 878) (by decide +kernel), List.mem_of_getElem? (i := 1030) (by decide +kernel), List.mem_of_getElem? (i := 1031) (by decide +kernel)⟩
theorem lw_p35 : lw_okq (⟨"EscapeFramesModel", "steps", "(I)I"⟩, 19) := ⟨⟨by decide +kernel, by decide +kernel⟩, List.mem_of_getElem? (i := 878) (by decide +kernel), List.mem_of_getElem? (i := 1039) (by decide +kernel), List.mem_of_getElem? (i := 1040) (by decide +kernel)⟩
theorem lw_p36 : lw_okq (⟨"EscapeFramesModel", "worksOn", "()V"⟩, 19) := ⟨⟨by decide +kernel, by decide +kernel⟩, List.mem_of_getElem? (i := 878) (by decide +kernel), List.mem_of_getElem? (i := 1043) (by decide +kernel), List.mem_of_getElem? (i := 1044) (by decide +kernel)⟩
theorem lw_p37 : lw_okq (⟨"EscapeFramesModel", "found", "(II)I"⟩, 19) := ⟨⟨by decide +kernel, by decide +kernel⟩, List.mem_of_getElem? (i := 878) (by decide +kernel), List.mem_of_getElem? (i := 1047) (by decide +kernel), List.mem_of_getElem? (i := 1048) (by decide +kernel)⟩
theorem lw_p38 : lw_okq (⟨"EscapeFramesModel", "gives", "(II)V"⟩, 19) := ⟨⟨by decide +kernel, by decide +kernel⟩, List.mem_of_getElem? (i := 878) (by decide +kernel), List.mem_of_getElem? (i := 1051) (by decide +kernel), List.mem_of_getElem? (i := 1052) (by decide +kernel)⟩
theorem lw_p39 : lw_okq (⟨"EscapeFramesModel", "comes", "(IIIIIII)Z"⟩, 19) := ⟨⟨by decide +kernel, by decide +kernel⟩, List.mem_of_getElem? (i := 878) (by decide +kernel), List.mem_of_getElem? (i := 1055) (by decide +kernel), List.mem_of_getElem? (i := 1056) (by decide +kernel)⟩
theorem lw_p40 : lw_okq (⟨"EscapeFramesModel", "frames", "(I)I"⟩, 19) := ⟨⟨by decide +kernel, by decide +kernel⟩, List.mem_of_getElem? (i := 878) (by decide +kernel), List.mem_of_getElem? (i := 1059) (by decide +kernel), List.mem_of_getElem? (i := 1060) (by decide +kernel)⟩
theorem lw_p41 : lw_okq (⟨"EscapeFramesModel", "stands", "(I)V"⟩, 19) := ⟨⟨by decide +kernel, by decide +kernel⟩, List.mem_of_getElem? (i := 878) (by decide +kernel), List.mem_of_getElem? (i := 1063) (by decide +kernel), List.mem_of_getElem? (i := 1064) (by decide +kernel)⟩
theorem lw_p42 : lw_okq (⟨"EscapeFramesModel", "bound", "(IIII)I"⟩, 19) := ⟨⟨by decide +kernel, by decide +kernel⟩, List.mem_of_getElem? (i := 878) (by decide +kernel), List.mem_of_getElem? (i := 1067) (by decide +kernel), List.mem_of_getElem? (i := 1068) (by decide +kernel)⟩
theorem lw_p43 : lw_okq (⟨"EscapeFramesModel", "givesOn", "()V"⟩, 19) := ⟨⟨by decide +kernel, by decide +kernel⟩, List.mem_of_getElem? (i := 878) (by decide +kernel), List.mem_of_getElem? (i := 1074) (by decide +kernel), List.mem_of_getElem? (i := 1075) (by decide +kernel)⟩
theorem lw_p44 : lw_okq (⟨"EscapeFramesModel", "calls", "(III)V"⟩, 19) := ⟨⟨by decide +kernel, by decide +kernel⟩, List.mem_of_getElem? (i := 878) (by decide +kernel), List.mem_of_getElem? (i := 1081) (by decide +kernel), List.mem_of_getElem? (i := 1082) (by decide +kernel)⟩
theorem lw_p45 : lw_okq (⟨"EscapeFramesModel", "goes", "(III)V"⟩, 19) := ⟨⟨by decide +kernel, by decide +kernel⟩, List.mem_of_getElem? (i := 878) (by decide +kernel), List.mem_of_getElem? (i := 1085) (by decide +kernel), List.mem_of_getElem? (i := 1086) (by decide +kernel)⟩
theorem lw_p46 : lw_okq (⟨"EscapeFramesModel", "goesOnFrom", "(II)I"⟩, 19) := ⟨⟨by decide +kernel, by decide +kernel⟩, List.mem_of_getElem? (i := 878) (by decide +kernel), List.mem_of_getElem? (i := 1089) (by decide +kernel), List.mem_of_getElem? (i := 1090) (by decide +kernel)⟩
theorem lw_p47 : lw_okq (⟨"EscapeFramesModel", "winds", "(IIIIII)V"⟩, 19) := ⟨⟨by decide +kernel, by decide +kernel⟩, List.mem_of_getElem? (i := 878) (by decide +kernel), List.mem_of_getElem? (i := 1093) (by decide +kernel), List.mem_of_getElem? (i := 1094) (by decide +kernel)⟩
def lw_privs_3 : List (MethodName × Nat) := [(⟨"EscapeFramesModel", "lastCalls", "(I)I"⟩, 19), (⟨"EscapeFramesModel", "begins", "(I)V"⟩, 19), (⟨"EscapeFramesModel", "works", "(III)V"⟩, 19), (⟨"EscapeFramesModel", "steps", "(I)I"⟩, 19), (⟨"EscapeFramesModel", "worksOn", "()V"⟩, 19), (⟨"EscapeFramesModel", "found", "(II)I"⟩, 19), (⟨"EscapeFramesModel", "gives", "(II)V"⟩, 19), (⟨"EscapeFramesModel", "comes", "(IIIIIII)Z"⟩, 19), (⟨"EscapeFramesModel", "frames", "(I)I"⟩, 19), (⟨"EscapeFramesModel", "stands", "(I)V"⟩, 19), (⟨"EscapeFramesModel", "bound", "(IIII)I"⟩, 19), (⟨"EscapeFramesModel", "givesOn", "()V"⟩, 19), (⟨"EscapeFramesModel", "calls", "(III)V"⟩, 19), (⟨"EscapeFramesModel", "goes", "(III)V"⟩, 19), (⟨"EscapeFramesModel", "goesOnFrom", "(II)I"⟩, 19), (⟨"EscapeFramesModel", "winds", "(IIIIII)V"⟩, 19)]
theorem lw_r3 : ∀ q ∈ lw_privs_3, lw_okq q := List.forall_mem_cons.mpr ⟨lw_p32, List.forall_mem_cons.mpr ⟨lw_p33, List.forall_mem_cons.mpr ⟨lw_p34, List.forall_mem_cons.mpr ⟨lw_p35, List.forall_mem_cons.mpr ⟨lw_p36, List.forall_mem_cons.mpr ⟨lw_p37, List.forall_mem_cons.mpr ⟨lw_p38, List.forall_mem_cons.mpr ⟨lw_p39, List.forall_mem_cons.mpr ⟨lw_p40, List.forall_mem_cons.mpr ⟨lw_p41, List.forall_mem_cons.mpr ⟨lw_p42, List.forall_mem_cons.mpr ⟨lw_p43, List.forall_mem_cons.mpr ⟨lw_p44, List.forall_mem_cons.mpr ⟨lw_p45, List.forall_mem_cons.mpr ⟨lw_p46, List.forall_mem_cons.mpr ⟨lw_p47, fun _ h => absurd h List.not_mem_nil⟩⟩⟩⟩⟩⟩⟩⟩⟩⟩⟩⟩⟩⟩⟩⟩
theorem lw_p48 : lw_okq (⟨"EscapeFramesModel", "runs", "(I)V"⟩, 19) := ⟨⟨by decide +kernel, by decide +kernel⟩, List.mem_of_getElem? (i := 878) (by decide +kernel), List.mem_of_getElem? (i := 1101) (by decide +kernel), List.mem_of_getElem? (i := 1102) (by decide +kernel)⟩
theorem lw_p49 : lw_okq (⟨"EscapeFramesModel", "winders", "()I"⟩, 19) := ⟨⟨by decide +kernel, by decide +kernel⟩, List.mem_of_getElem? (i := 878) (by decide +kernel), List.mem_of_getElem? (i := 1111) (by decide +kernel), List.mem_of_getElem? (i := 1112) (by decide +kernel)⟩
theorem lw_p50 : lw_okq (⟨"EscapeFramesModel", "latest", "()I"⟩, 19) := ⟨⟨by decide +kernel, by decide +kernel⟩, List.mem_of_getElem? (i := 878) (by decide +kernel), List.mem_of_getElem? (i := 1115) (by decide +kernel), List.mem_of_getElem? (i := 1116) (by decide +kernel)⟩
theorem lw_p51 : lw_okq (⟨"EscapeFramesModel", "toldOf", "(I)J"⟩, 19) := ⟨⟨by decide +kernel, by decide +kernel⟩, List.mem_of_getElem? (i := 878) (by decide +kernel), List.mem_of_getElem? (i := 1123) (by decide +kernel), List.mem_of_getElem? (i := 1124) (by decide +kernel)⟩
theorem lw_p52 : lw_okq (⟨"EscapeFramesModel", "isSeen", "()Z"⟩, 19) := ⟨⟨by decide +kernel, by decide +kernel⟩, List.mem_of_getElem? (i := 878) (by decide +kernel), List.mem_of_getElem? (i := 1144) (by decide +kernel), List.mem_of_getElem? (i := 1145) (by decide +kernel)⟩
def lw_privs_4 : List (MethodName × Nat) := [(⟨"EscapeFramesModel", "runs", "(I)V"⟩, 19), (⟨"EscapeFramesModel", "winders", "()I"⟩, 19), (⟨"EscapeFramesModel", "latest", "()I"⟩, 19), (⟨"EscapeFramesModel", "toldOf", "(I)J"⟩, 19), (⟨"EscapeFramesModel", "isSeen", "()Z"⟩, 19)]
theorem lw_r4 : ∀ q ∈ lw_privs_4, lw_okq q := List.forall_mem_cons.mpr ⟨lw_p48, List.forall_mem_cons.mpr ⟨lw_p49, List.forall_mem_cons.mpr ⟨lw_p50, List.forall_mem_cons.mpr ⟨lw_p51, List.forall_mem_cons.mpr ⟨lw_p52, fun _ h => absurd h List.not_mem_nil⟩⟩⟩⟩⟩
def lw_privs : List (MethodName × Nat) := lw_privs_1 ++ (lw_privs_2 ++ (lw_privs_3 ++ (lw_privs_4)))
def lw_tbl : List Cond := k2_sels lw_privs ++ tables_1
theorem lw_privs_ok : ∀ q ∈ lw_privs, lw_okq q := by
  show ∀ q ∈ lw_privs_1 ++ (lw_privs_2 ++ (lw_privs_3 ++ (lw_privs_4))), lw_okq q
  exact List.forall_mem_append.mpr ⟨lw_r1, List.forall_mem_append.mpr ⟨lw_r2, List.forall_mem_append.mpr ⟨lw_r3, lw_r4⟩⟩⟩
-- ===== end of PART A; then your names; then what follows =====
/-! ===== BEGIN words of one list among another's, by their places ===== -/
theorem goodIn_r {big : List Cond} (ws : List Cond) (ps : List Nat) (hp : ws = ps.filterMap (fun i => big[i]?)) (h : ws.all goodWord = true) : GoodIn big ws := by
  intro w hw
  have h1 := List.all_eq_true.mp h w hw
  rw [hp] at hw
  obtain ⟨i, -, hi⟩ := List.mem_filterMap.mp hw
  have hm : w ∈ big := by first | exact List.mem_of_getElem? hi | exact List.getElem?_mem hi
  exact ⟨hm, good_of_word h1⟩
theorem goodIn_app {big a b : List Cond} (ha : GoodIn big a) (hb : GoodIn big b) : GoodIn big (a ++ b) := fun w h => (List.mem_append.mp h).elim (ha w) (hb w)
theorem goodIn_ca {big a b : List Cond} {c : Cond} (ha : GoodIn big (c :: a)) (hb : GoodIn big b) : GoodIn big (c :: (a ++ b)) := fun w h => (List.mem_cons.mp h).elim (fun e => ha w (List.mem_cons.mpr (Or.inl e))) (fun h => (List.mem_append.mp h).elim (fun h => ha w (List.mem_cons.mpr (Or.inr h))) (hb w))
theorem goodIn_sub {big ws : List Cond} (hm : ∀ w ∈ ws, w ∈ big) (h : ws.all goodWord = true) : GoodIn big ws := fun w hw => ⟨hm w hw, good_of_word (List.all_eq_true.mp h w hw)⟩
/-! ===== END ===== -/

/-! ===== BEGIN printed: names, fields, word lists, decode rows ===== -/
def RX0 : String := "EscapeFrames$Frames"
def TX0 : u_T := fun k => match k with
  | 0 => ("EscapeFrames$Frames", "used", "I", false)
  | 1 => ("EscapeFrames$Frames", "below", "[I", true)
  | 2 => ("EscapeFrames$Frames", "heights", "[I", true)
  | 3 => ("EscapeFrames$Frames", "sorts", "[I", true)
  | 4 => ("EscapeFrames$Frames", "behind", "[I", true)
  | 5 => ("EscapeFrames$Frames", "expressions", "[I", true)
  | 6 => ("EscapeFrames$Frames", "scopes", "[I", true)
  | 7 => ("EscapeFrames$Frames", "escapes", "[I", true)
  | _ => ("EscapeFrames$Frames", "kept", "[J", true)
def tyX0 : Nat → FieldType := fun k => match k with
  | 0 => .int
  | 1 => .array .int
  | 2 => .array .int
  | 3 => .array .int
  | 4 => .array .int
  | 5 => .array .int
  | 6 => .array .int
  | 7 => .array .int
  | _ => .array .long
abbrev wsX00 : List Cond := u_ws RX0 TX0 9
theorem nmX0 : ∀ a, a < 9 → ∀ b, b < 9 → a ≠ b → (TX0 a).2.1 ≠ (TX0 b).2.1 := by decide +kernel
theorem tyX0_ok : ∀ k, k < 9 → parseFieldDescriptor (TX0 k).2.2.1 = some (tyX0 k) := by decide +kernel
abbrev cX0_init : ByteArray := prog_2_method_1_code
def yX0_init : MethodName := ⟨RX0, "<init>", "()V"⟩
abbrev cX0_clear : ByteArray := prog_2_method_2_code
def yX0_clear : MethodName := ⟨RX0, "clear", "()V"⟩
abbrev cX0_below : ByteArray := prog_2_method_3_code
def yX0_below : MethodName := ⟨RX0, "below", "(I)I"⟩
abbrev cX0_height : ByteArray := prog_2_method_4_code
def yX0_height : MethodName := ⟨RX0, "height", "(I)I"⟩
abbrev cX0_sort : ByteArray := prog_2_method_5_code
def yX0_sort : MethodName := ⟨RX0, "sort", "(I)I"⟩
abbrev cX0_behind : ByteArray := prog_2_method_6_code
def yX0_behind : MethodName := ⟨RX0, "behind", "(I)I"⟩
abbrev cX0_expression : ByteArray := prog_2_method_7_code
def yX0_expression : MethodName := ⟨RX0, "expression", "(I)I"⟩
abbrev cX0_scope : ByteArray := prog_2_method_8_code
def yX0_scope : MethodName := ⟨RX0, "scope", "(I)I"⟩
abbrev cX0_escape : ByteArray := prog_2_method_9_code
def yX0_escape : MethodName := ⟨RX0, "escape", "(I)I"⟩
abbrev cX0_kept : ByteArray := prog_2_method_10_code
def yX0_kept : MethodName := ⟨RX0, "kept", "(I)J"⟩
abbrev cX0_add : ByteArray := prog_2_method_11_code
def yX0_add : MethodName := ⟨RX0, "add", "(IIIII)I"⟩
abbrev cX0_keep : ByteArray := prog_2_method_12_code
def yX0_keep : MethodName := ⟨RX0, "keep", "(IJI)V"⟩
abbrev cX0_copyFrom : ByteArray := prog_2_method_13_code
def yX0_copyFrom : MethodName := ⟨RX0, "copyFrom", "(LEscapeFrames$Frames;)V"⟩
def RX1 : String := "EscapeFrames$Kept"
def TX1 : u_T := fun k => match k with
  | 0 => ("EscapeFrames$Kept", "world", "LEscapeFrames$World;", true)
  | 1 => ("EscapeFrames$Kept", "machine", "LEscapeFrames$Machine;", true)
  | 2 => ("EscapeFrames$Kept", "seen", "LEscapeFrames$Rows;", true)
  | 3 => ("EscapeFrames$Kept", "plan", "LEscapeFrames$Rows;", true)
  | _ => ("EscapeFrames$Kept", "book", "LEscapeFrames$Rows;", true)
def tyX1 : Nat → FieldType := fun k => match k with
  | 0 => .object "EscapeFrames$World"
  | 1 => .object "EscapeFrames$Machine"
  | 2 => .object "EscapeFrames$Rows"
  | 3 => .object "EscapeFrames$Rows"
  | _ => .object "EscapeFrames$Rows"
abbrev wsX10 : List Cond := u_ws RX1 TX1 5
theorem nmX1 : ∀ a, a < 5 → ∀ b, b < 5 → a ≠ b → (TX1 a).2.1 ≠ (TX1 b).2.1 := by decide +kernel
theorem tyX1_ok : ∀ k, k < 5 → parseFieldDescriptor (TX1 k).2.2.1 = some (tyX1 k) := by decide +kernel
abbrev cX1_init : ByteArray := prog_3_method_1_code
def yX1_init : MethodName := ⟨RX1, "<init>", "(LEscapeFrames$Lines;)V"⟩
abbrev cX1_copyFrom : ByteArray := prog_3_method_2_code
def yX1_copyFrom : MethodName := ⟨RX1, "copyFrom", "(LEscapeFrames$Kept;)V"⟩
def RX2 : String := "EscapeFrames$Lines"
def TX2 : u_T := fun k => match k with
  | 0 => ("EscapeFrames$Lines", "size", "I", false)
  | 1 => ("EscapeFrames$Lines", "used", "I", false)
  | 2 => ("EscapeFrames$Lines", "kinds", "[I", true)
  | 3 => ("EscapeFrames$Lines", "marks", "[I", true)
  | 4 => ("EscapeFrames$Lines", "parts", "[I", true)
  | 5 => ("EscapeFrames$Lines", "depths", "[I", true)
  | 6 => ("EscapeFrames$Lines", "lasts", "[I", true)
  | 7 => ("EscapeFrames$Lines", "roots", "[I", true)
  | _ => ("EscapeFrames$Lines", "facts", "[I", true)
def tyX2 : Nat → FieldType := fun k => match k with
  | 0 => .int
  | 1 => .int
  | 2 => .array .int
  | 3 => .array .int
  | 4 => .array .int
  | 5 => .array .int
  | 6 => .array .int
  | 7 => .array .int
  | _ => .array .int
abbrev wsX20 : List Cond := u_ws RX2 TX2 9
theorem nmX2 : ∀ a, a < 9 → ∀ b, b < 9 → a ≠ b → (TX2 a).2.1 ≠ (TX2 b).2.1 := by decide +kernel
theorem tyX2_ok : ∀ k, k < 9 → parseFieldDescriptor (TX2 k).2.2.1 = some (tyX2 k) := by decide +kernel
abbrev cX2_init : ByteArray := prog_4_method_1_code
def yX2_init : MethodName := ⟨RX2, "<init>", "()V"⟩
abbrev cX2_has : ByteArray := prog_4_method_2_code
def yX2_has : MethodName := ⟨RX2, "has", "(I)Z"⟩
abbrev cX2_root : ByteArray := prog_4_method_3_code
def yX2_root : MethodName := ⟨RX2, "root", "(I)I"⟩
abbrev cX2_fact : ByteArray := prog_4_method_4_code
def yX2_fact : MethodName := ⟨RX2, "fact", "(II)I"⟩
abbrev cX2_kind : ByteArray := prog_4_method_5_code
def yX2_kind : MethodName := ⟨RX2, "kind", "(I)I"⟩
abbrev cX2_mark : ByteArray := prog_4_method_6_code
def yX2_mark : MethodName := ⟨RX2, "mark", "(I)I"⟩
abbrev cX2_part : ByteArray := prog_4_method_7_code
def yX2_part : MethodName := ⟨RX2, "part", "(II)I"⟩
abbrev cX2_add : ByteArray := prog_4_method_8_code
def yX2_add : MethodName := ⟨RX2, "add", "(II)I"⟩
abbrev cX2_link : ByteArray := prog_4_method_9_code
def yX2_link : MethodName := ⟨RX2, "link", "(III)V"⟩
abbrev cX2_end : ByteArray := prog_4_method_10_code
def yX2_end : MethodName := ⟨RX2, "end", "(I)I"⟩
abbrev cX2_handDown : ByteArray := prog_4_method_11_code
def yX2_handDown : MethodName := ⟨RX2, "handDown", "(I)V"⟩
abbrev cX2_isLast : ByteArray := prog_4_method_12_code
def yX2_isLast : MethodName := ⟨RX2, "isLast", "(II)Z"⟩
abbrev cX2_countIn : ByteArray := prog_4_method_13_code
def yX2_countIn : MethodName := ⟨RX2, "countIn", "(II)V"⟩
def RX3 : String := "EscapeFrames$Machine"
def TX3 : u_T := fun k => match k with
  | 0 => ("EscapeFrames$Machine", "outcome", "LEscapeFrames$Outcome;", true)
  | 1 => ("EscapeFrames$Machine", "lines", "LEscapeFrames$Lines;", true)
  | 2 => ("EscapeFrames$Machine", "world", "LEscapeFrames$World;", true)
  | 3 => ("EscapeFrames$Machine", "scopes", "LEscapeFrames$Scopes;", true)
  | 4 => ("EscapeFrames$Machine", "frames", "LEscapeFrames$Frames;", true)
  | 5 => ("EscapeFrames$Machine", "winders", "LEscapeFrames$Winders;", true)
  | 6 => ("EscapeFrames$Machine", "keptChains", "[I", true)
  | 7 => ("EscapeFrames$Machine", "keptWinders", "[I", true)
  | 8 => ("EscapeFrames$Machine", "escapes", "I", false)
  | 9 => ("EscapeFrames$Machine", "gives", "Z", false)
  | 10 => ("EscapeFrames$Machine", "expression", "I", false)
  | 11 => ("EscapeFrames$Machine", "scope", "I", false)
  | 12 => ("EscapeFrames$Machine", "thing", "J", false)
  | 13 => ("EscapeFrames$Machine", "chain", "I", false)
  | _ => ("EscapeFrames$Machine", "winding", "I", false)
def tyX3 : Nat → FieldType := fun k => match k with
  | 0 => .object "EscapeFrames$Outcome"
  | 1 => .object "EscapeFrames$Lines"
  | 2 => .object "EscapeFrames$World"
  | 3 => .object "EscapeFrames$Scopes"
  | 4 => .object "EscapeFrames$Frames"
  | 5 => .object "EscapeFrames$Winders"
  | 6 => .array .int
  | 7 => .array .int
  | 8 => .int
  | 9 => .boolean
  | 10 => .int
  | 11 => .int
  | 12 => .long
  | 13 => .int
  | _ => .int
abbrev wsX30 : List Cond := u_ws RX3 TX3 15
theorem nmX3 : ∀ a, a < 15 → ∀ b, b < 15 → a ≠ b → (TX3 a).2.1 ≠ (TX3 b).2.1 := by decide +kernel
theorem tyX3_ok : ∀ k, k < 15 → parseFieldDescriptor (TX3 k).2.2.1 = some (tyX3 k) := by decide +kernel
abbrev cX3_init : ByteArray := prog_5_method_1_code
def yX3_init : MethodName := ⟨RX3, "<init>", "(LEscapeFrames$Lines;LEscapeFrames$World;)V"⟩
abbrev cX3_start : ByteArray := prog_5_method_2_code
def yX3_start : MethodName := ⟨RX3, "start", "(I)V"⟩
abbrev cX3_move : ByteArray := prog_5_method_3_code
def yX3_move : MethodName := ⟨RX3, "move", "(I)I"⟩
abbrev cX3_state : ByteArray := prog_5_method_4_code
def yX3_state : MethodName := ⟨RX3, "state", "(I)J"⟩
abbrev cX3_work : ByteArray := prog_5_method_5_code
def yX3_work : MethodName := ⟨RX3, "work", "()V"⟩
abbrev cX3_workToGo : ByteArray := prog_5_method_6_code
def yX3_workToGo : MethodName := ⟨RX3, "workToGo", "(J)V"⟩
abbrev cX3_receive : ByteArray := prog_5_method_7_code
def yX3_receive : MethodName := ⟨RX3, "receive", "()V"⟩
abbrev cX3_receiveOp : ByteArray := prog_5_method_8_code
def yX3_receiveOp : MethodName := ⟨RX3, "receiveOp", "(I)V"⟩
abbrev cX3_made : ByteArray := prog_5_method_9_code
def yX3_made : MethodName := ⟨RX3, "made", "(III)I"⟩
abbrev cX3_receiveWind : ByteArray := prog_5_method_10_code
def yX3_receiveWind : MethodName := ⟨RX3, "receiveWind", "(I)V"⟩
abbrev cX3_call : ByteArray := prog_5_method_11_code
def yX3_call : MethodName := ⟨RX3, "call", "(I)V"⟩
abbrev cX3_go : ByteArray := prog_5_method_12_code
def yX3_go : MethodName := ⟨RX3, "go", "(IJ)V"⟩
abbrev cX3_give : ByteArray := prog_5_method_13_code
def yX3_give : MethodName := ⟨RX3, "give", "(J)V"⟩
abbrev cX3_workOn : ByteArray := prog_5_method_14_code
def yX3_workOn : MethodName := ⟨RX3, "workOn", "(I)V"⟩
abbrev cX3_lookUp : ByteArray := prog_5_method_15_code
def yX3_lookUp : MethodName := ⟨RX3, "lookUp", "(I)J"⟩
abbrev cX3_caught : ByteArray := prog_5_method_16_code
def yX3_caught : MethodName := ⟨RX3, "caught", "()J"⟩
abbrev cX3_comes : ByteArray := prog_5_method_17_code
def yX3_comes : MethodName := ⟨RX3, "comes", "(II)I"⟩
abbrev cX3_copyFrom : ByteArray := prog_5_method_18_code
def yX3_copyFrom : MethodName := ⟨RX3, "copyFrom", "(LEscapeFrames$Machine;)V"⟩
def RX4 : String := "EscapeFrames$Outcome"
def TX4 : u_T := fun k => match k with
  | 0 => ("EscapeFrames$Outcome", "status", "I", false)
  | 1 => ("EscapeFrames$Outcome", "steps", "I", false)
  | 2 => ("EscapeFrames$Outcome", "deepest", "I", false)
  | 3 => ("EscapeFrames$Outcome", "size", "I", false)
  | 4 => ("EscapeFrames$Outcome", "out", "[I", true)
  | _ => ("EscapeFrames$Outcome", "result", "J", false)
def tyX4 : Nat → FieldType := fun k => match k with
  | 0 => .int
  | 1 => .int
  | 2 => .int
  | 3 => .int
  | 4 => .array .int
  | _ => .long
abbrev wsX40 : List Cond := u_ws RX4 TX4 6
theorem nmX4 : ∀ a, a < 6 → ∀ b, b < 6 → a ≠ b → (TX4 a).2.1 ≠ (TX4 b).2.1 := by decide +kernel
theorem tyX4_ok : ∀ k, k < 6 → parseFieldDescriptor (TX4 k).2.2.1 = some (tyX4 k) := by decide +kernel
abbrev cX4_init : ByteArray := prog_6_method_1_code
def yX4_init : MethodName := ⟨RX4, "<init>", "()V"⟩
abbrev cX4_clear : ByteArray := prog_6_method_2_code
def yX4_clear : MethodName := ⟨RX4, "clear", "()V"⟩
abbrev cX4_over : ByteArray := prog_6_method_3_code
def yX4_over : MethodName := ⟨RX4, "over", "(J)V"⟩
abbrev cX4_write : ByteArray := prog_6_method_4_code
def yX4_write : MethodName := ⟨RX4, "write", "(I)V"⟩
abbrev cX4_answer : ByteArray := prog_6_method_5_code
def yX4_answer : MethodName := ⟨RX4, "answer", "(I)J"⟩
abbrev cX4_shows : ByteArray := prog_6_method_6_code
def yX4_shows : MethodName := ⟨RX4, "shows", "(LEscapeFrames$Rows;)Z"⟩
abbrev cX4_sameAs : ByteArray := prog_6_method_7_code
def yX4_sameAs : MethodName := ⟨RX4, "sameAs", "(LEscapeFrames$Outcome;)Z"⟩
abbrev cX4_sum : ByteArray := prog_6_method_8_code
def yX4_sum : MethodName := ⟨RX4, "sum", "()J"⟩
abbrev cX4_copyFrom : ByteArray := prog_6_method_9_code
def yX4_copyFrom : MethodName := ⟨RX4, "copyFrom", "(LEscapeFrames$Outcome;)V"⟩
def RX5 : String := "EscapeFrames$Reader"
def TX5 : u_T := fun k => match k with
  | 0 => ("EscapeFrames$Reader", "size", "I", false)
  | 1 => ("EscapeFrames$Reader", "place", "I", false)
  | 2 => ("EscapeFrames$Reader", "text", "[I", true)
  | _ => ("EscapeFrames$Reader", "lines", "LEscapeFrames$Lines;", true)
def tyX5 : Nat → FieldType := fun k => match k with
  | 0 => .int
  | 1 => .int
  | 2 => .array .int
  | _ => .object "EscapeFrames$Lines"
abbrev wsX50 : List Cond := u_ws RX5 TX5 4
theorem nmX5 : ∀ a, a < 4 → ∀ b, b < 4 → a ≠ b → (TX5 a).2.1 ≠ (TX5 b).2.1 := by decide +kernel
theorem tyX5_ok : ∀ k, k < 4 → parseFieldDescriptor (TX5 k).2.2.1 = some (tyX5 k) := by decide +kernel
abbrev cX5_init : ByteArray := prog_7_method_1_code
def yX5_init : MethodName := ⟨RX5, "<init>", "(LEscapeFrames$Lines;)V"⟩
abbrev cX5_append : ByteArray := prog_7_method_2_code
def yX5_append : MethodName := ⟨RX5, "append", "(I)I"⟩
abbrev cX5_take : ByteArray := prog_7_method_3_code
def yX5_take : MethodName := ⟨RX5, "take", "()I"⟩
abbrev cX5_sign : ByteArray := prog_7_method_4_code
def yX5_sign : MethodName := ⟨RX5, "sign", "()I"⟩
abbrev cX5_passed : ByteArray := prog_7_method_5_code
def yX5_passed : MethodName := ⟨RX5, "passed", "(C)Z"⟩
abbrev cX5_expression : ByteArray := prog_7_method_6_code
def yX5_expression : MethodName := ⟨RX5, "expression", "(I)I"⟩
abbrev cX5_digits : ByteArray := prog_7_method_7_code
def yX5_digits : MethodName := ⟨RX5, "digits", "()I"⟩
abbrev cX5_parts : ByteArray := prog_7_method_8_code
def yX5_parts : MethodName := ⟨RX5, "parts", "(III)I"⟩
abbrev cX5_list : ByteArray := prog_7_method_9_code
def yX5_list : MethodName := ⟨RX5, "list", "(I)I"⟩
abbrev cX5_isDigit : ByteArray := prog_7_method_10_code
def yX5_isDigit : MethodName := ⟨RX5, "isDigit", "(I)Z"⟩
abbrev cX5_isLetter : ByteArray := prog_7_method_11_code
def yX5_isLetter : MethodName := ⟨RX5, "isLetter", "(I)Z"⟩
abbrev cX5_kindBy : ByteArray := prog_7_method_12_code
def yX5_kindBy : MethodName := ⟨RX5, "kindBy", "(I)I"⟩
abbrev cX5_howMany : ByteArray := prog_7_method_13_code
def yX5_howMany : MethodName := ⟨RX5, "howMany", "(I)I"⟩
def RX6 : String := "EscapeFrames$Rows"
def TX6 : u_T := fun k => match k with
  | 0 => ("EscapeFrames$Rows", "size", "I", false)
  | 1 => ("EscapeFrames$Rows", "left", "[I", true)
  | 2 => ("EscapeFrames$Rows", "right", "[I", true)
  | _ => ("EscapeFrames$Rows", "most", "I", true)
def tyX6 : Nat → FieldType := fun k => match k with
  | 0 => .int
  | 1 => .array .int
  | 2 => .array .int
  | _ => .int
abbrev wsX60 : List Cond := u_ws RX6 TX6 4
theorem nmX6 : ∀ a, a < 4 → ∀ b, b < 4 → a ≠ b → (TX6 a).2.1 ≠ (TX6 b).2.1 := by decide +kernel
theorem tyX6_ok : ∀ k, k < 4 → parseFieldDescriptor (TX6 k).2.2.1 = some (tyX6 k) := by decide +kernel
abbrev cX6_init : ByteArray := prog_8_method_1_code
def yX6_init : MethodName := ⟨RX6, "<init>", "(I)V"⟩
abbrev cX6_empty : ByteArray := prog_8_method_2_code
def yX6_empty : MethodName := ⟨RX6, "empty", "()I"⟩
abbrev cX6_add : ByteArray := prog_8_method_3_code
def yX6_add : MethodName := ⟨RX6, "add", "(II)I"⟩
abbrev cX6_copyFrom : ByteArray := prog_8_method_4_code
def yX6_copyFrom : MethodName := ⟨RX6, "copyFrom", "(LEscapeFrames$Rows;)V"⟩
def RX7 : String := "EscapeFrames$Scopes"
def TX7 : u_T := fun k => match k with
  | 0 => ("EscapeFrames$Scopes", "used", "I", false)
  | _ => ("EscapeFrames$Scopes", "things", "[J", true)
def tyX7 : Nat → FieldType := fun k => match k with
  | 0 => .int
  | _ => .array .long
abbrev wsX70 : List Cond := u_ws RX7 TX7 2
theorem nmX7 : ∀ a, a < 2 → ∀ b, b < 2 → a ≠ b → (TX7 a).2.1 ≠ (TX7 b).2.1 := by decide +kernel
theorem tyX7_ok : ∀ k, k < 2 → parseFieldDescriptor (TX7 k).2.2.1 = some (tyX7 k) := by decide +kernel
abbrev cX7_init : ByteArray := prog_9_method_1_code
def yX7_init : MethodName := ⟨RX7, "<init>", "()V"⟩
abbrev cX7_clear : ByteArray := prog_9_method_2_code
def yX7_clear : MethodName := ⟨RX7, "clear", "()V"⟩
abbrev cX7_thing : ByteArray := prog_9_method_3_code
def yX7_thing : MethodName := ⟨RX7, "thing", "(II)J"⟩
abbrev cX7_bind : ByteArray := prog_9_method_4_code
def yX7_bind : MethodName := ⟨RX7, "bind", "(IIJ)I"⟩
abbrev cX7_copyFrom : ByteArray := prog_9_method_5_code
def yX7_copyFrom : MethodName := ⟨RX7, "copyFrom", "(LEscapeFrames$Scopes;)V"⟩
def RX8 : String := "EscapeFrames$Tape"
def TX8 : u_T := fun k => match k with
  | 0 => ("EscapeFrames$Tape", "sort", "I", false)
  | 1 => ("EscapeFrames$Tape", "size", "I", false)
  | _ => ("EscapeFrames$Tape", "items", "[J", true)
def tyX8 : Nat → FieldType := fun k => match k with
  | 0 => .int
  | 1 => .int
  | _ => .array .long
abbrev wsX80 : List Cond := u_ws RX8 TX8 3
theorem nmX8 : ∀ a, a < 3 → ∀ b, b < 3 → a ≠ b → (TX8 a).2.1 ≠ (TX8 b).2.1 := by decide +kernel
theorem tyX8_ok : ∀ k, k < 3 → parseFieldDescriptor (TX8 k).2.2.1 = some (tyX8 k) := by decide +kernel
abbrev cX8_init : ByteArray := prog_10_method_1_code
def yX8_init : MethodName := ⟨RX8, "<init>", "()V"⟩
abbrev cX8_has : ByteArray := prog_10_method_2_code
def yX8_has : MethodName := ⟨RX8, "has", "(I)Z"⟩
abbrev cX8_become : ByteArray := prog_10_method_3_code
def yX8_become : MethodName := ⟨RX8, "become", "(II)V"⟩
abbrev cX8_lowestBits : ByteArray := prog_10_method_4_code
def yX8_lowestBits : MethodName := ⟨RX8, "lowestBits", "(J)J"⟩
def RX9 : String := "EscapeFrames$Winders"
def TX9 : u_T := fun k => match k with
  | 0 => ("EscapeFrames$Winders", "used", "I", false)
  | 1 => ("EscapeFrames$Winders", "below", "[I", true)
  | 2 => ("EscapeFrames$Winders", "heights", "[I", true)
  | 3 => ("EscapeFrames$Winders", "expressions", "[I", true)
  | _ => ("EscapeFrames$Winders", "scopes", "[I", true)
def tyX9 : Nat → FieldType := fun k => match k with
  | 0 => .int
  | 1 => .array .int
  | 2 => .array .int
  | 3 => .array .int
  | _ => .array .int
abbrev wsX90 : List Cond := u_ws RX9 TX9 5
theorem nmX9 : ∀ a, a < 5 → ∀ b, b < 5 → a ≠ b → (TX9 a).2.1 ≠ (TX9 b).2.1 := by decide +kernel
theorem tyX9_ok : ∀ k, k < 5 → parseFieldDescriptor (TX9 k).2.2.1 = some (tyX9 k) := by decide +kernel
abbrev cX9_init : ByteArray := prog_11_method_1_code
def yX9_init : MethodName := ⟨RX9, "<init>", "()V"⟩
abbrev cX9_clear : ByteArray := prog_11_method_2_code
def yX9_clear : MethodName := ⟨RX9, "clear", "()V"⟩
abbrev cX9_below : ByteArray := prog_11_method_3_code
def yX9_below : MethodName := ⟨RX9, "below", "(I)I"⟩
abbrev cX9_height : ByteArray := prog_11_method_4_code
def yX9_height : MethodName := ⟨RX9, "height", "(I)I"⟩
abbrev cX9_expression : ByteArray := prog_11_method_5_code
def yX9_expression : MethodName := ⟨RX9, "expression", "(I)I"⟩
abbrev cX9_scope : ByteArray := prog_11_method_6_code
def yX9_scope : MethodName := ⟨RX9, "scope", "(I)I"⟩
abbrev cX9_add : ByteArray := prog_11_method_7_code
def yX9_add : MethodName := ⟨RX9, "add", "(III)I"⟩
abbrev cX9_next : ByteArray := prog_11_method_8_code
def yX9_next : MethodName := ⟨RX9, "next", "(II)I"⟩
abbrev cX9_copyFrom : ByteArray := prog_11_method_9_code
def yX9_copyFrom : MethodName := ⟨RX9, "copyFrom", "(LEscapeFrames$Winders;)V"⟩
def RX10 : String := "EscapeFrames$World"
def TX10 : u_T := fun k => match k with
  | 0 => ("EscapeFrames$World", "values", "[I", true)
  | _ => ("EscapeFrames$World", "functions", "[I", true)
def tyX10 : Nat → FieldType := fun k => match k with
  | 0 => .array .int
  | _ => .array .int
abbrev wsX100 : List Cond := u_ws RX10 TX10 2
theorem nmX10 : ∀ a, a < 2 → ∀ b, b < 2 → a ≠ b → (TX10 a).2.1 ≠ (TX10 b).2.1 := by decide +kernel
theorem tyX10_ok : ∀ k, k < 2 → parseFieldDescriptor (TX10 k).2.2.1 = some (tyX10 k) := by decide +kernel
abbrev cX10_init : ByteArray := prog_12_method_1_code
def yX10_init : MethodName := ⟨RX10, "<init>", "()V"⟩
abbrev cX10_copyFrom : ByteArray := prog_12_method_2_code
def yX10_copyFrom : MethodName := ⟨RX10, "copyFrom", "(LEscapeFrames$World;)V"⟩
def RX11 : String := "EscapeFrames"
def TX11 : u_T := fun k => match k with
  | 0 => ("EscapeFrames", "lines", "LEscapeFrames$Lines;", true)
  | 1 => ("EscapeFrames", "reader", "LEscapeFrames$Reader;", true)
  | 2 => ("EscapeFrames", "now", "LEscapeFrames$Kept;", true)
  | 3 => ("EscapeFrames", "image", "LEscapeFrames$Kept;", true)
  | 4 => ("EscapeFrames", "imageTaken", "Z", false)
  | 5 => ("EscapeFrames", "trialWorld", "LEscapeFrames$World;", true)
  | 6 => ("EscapeFrames", "trial", "LEscapeFrames$Machine;", true)
  | 7 => ("EscapeFrames", "compared", "LEscapeFrames$Outcome;", true)
  | _ => ("EscapeFrames", "tapes", "[LEscapeFrames$Tape;", true)
def tyX11 : Nat → FieldType := fun k => match k with
  | 0 => .object "EscapeFrames$Lines"
  | 1 => .object "EscapeFrames$Reader"
  | 2 => .object "EscapeFrames$Kept"
  | 3 => .object "EscapeFrames$Kept"
  | 4 => .boolean
  | 5 => .object "EscapeFrames$World"
  | 6 => .object "EscapeFrames$Machine"
  | 7 => .object "EscapeFrames$Outcome"
  | _ => .array (.object "EscapeFrames$Tape")
abbrev wsX110 : List Cond := u_ws RX11 TX11 9
theorem nmX11 : ∀ a, a < 9 → ∀ b, b < 9 → a ≠ b → (TX11 a).2.1 ≠ (TX11 b).2.1 := by decide +kernel
theorem tyX11_ok : ∀ k, k < 9 → parseFieldDescriptor (TX11 k).2.2.1 = some (tyX11 k) := by decide +kernel
abbrev cX11_init : ByteArray := prog_1_method_1_code
def yX11_init : MethodName := ⟨RX11, "<init>", "()V"⟩
abbrev cX11_feed : ByteArray := prog_1_method_2_code
def yX11_feed : MethodName := ⟨RX11, "feed", "(I)I"⟩
abbrev cX11_line : ByteArray := prog_1_method_3_code
def yX11_line : MethodName := ⟨RX11, "line", "()I"⟩
abbrev cX11_of : ByteArray := prog_1_method_4_code
def yX11_of : MethodName := ⟨RX11, "of", "(II)I"⟩
abbrev cX11_define : ByteArray := prog_1_method_5_code
def yX11_define : MethodName := ⟨RX11, "define", "(II)I"⟩
abbrev cX11_value : ByteArray := prog_1_method_6_code
def yX11_value : MethodName := ⟨RX11, "value", "(II)J"⟩
abbrev cX11_begin : ByteArray := prog_1_method_7_code
def yX11_begin : MethodName := ⟨RX11, "begin", "(I)I"⟩
abbrev cX11_step : ByteArray := prog_1_method_8_code
def yX11_step : MethodName := ⟨RX11, "step", "(I)I"⟩
abbrev cX11_run : ByteArray := prog_1_method_9_code
def yX11_run : MethodName := ⟨RX11, "run", "(I)I"⟩
abbrev cX11_told : ByteArray := prog_1_method_10_code
def yX11_told : MethodName := ⟨RX11, "told", "(I)J"⟩
abbrev cX11_on : ByteArray := prog_1_method_11_code
def yX11_on : MethodName := ⟨RX11, "on", "(II)J"⟩
abbrev cX11_see : ByteArray := prog_1_method_12_code
def yX11_see : MethodName := ⟨RX11, "see", "(II)I"⟩
abbrev cX11_fits : ByteArray := prog_1_method_13_code
def yX11_fits : MethodName := ⟨RX11, "fits", "(III)I"⟩
abbrev cX11_alike : ByteArray := prog_1_method_14_code
def yX11_alike : MethodName := ⟨RX11, "alike", "(II)I"⟩
abbrev cX11_odds : ByteArray := prog_1_method_15_code
def yX11_odds : MethodName := ⟨RX11, "odds", "(III)J"⟩
abbrev cX11_mean : ByteArray := prog_1_method_16_code
def yX11_mean : MethodName := ⟨RX11, "mean", "(II)J"⟩
abbrev cX11_tryOut : ByteArray := prog_1_method_17_code
def yX11_tryOut : MethodName := ⟨RX11, "tryOut", "(I)LEscapeFrames$Outcome;"⟩
abbrev cX11_tryWith : ByteArray := prog_1_method_18_code
def yX11_tryWith : MethodName := ⟨RX11, "tryWith", "(III)LEscapeFrames$Outcome;"⟩
abbrev cX11_inLowestTerms : ByteArray := prog_1_method_19_code
def yX11_inLowestTerms : MethodName := ⟨RX11, "inLowestTerms", "(JII)J"⟩
abbrev cX11_plan : ByteArray := prog_1_method_20_code
def yX11_plan : MethodName := ⟨RX11, "plan", "(II)I"⟩
abbrev cX11_ends : ByteArray := prog_1_method_21_code
def yX11_ends : MethodName := ⟨RX11, "ends", "(I)J"⟩
abbrev cX11_book : ByteArray := prog_1_method_22_code
def yX11_book : MethodName := ⟨RX11, "book", "(II)I"⟩
abbrev cX11_looked : ByteArray := prog_1_method_23_code
def yX11_looked : MethodName := ⟨RX11, "looked", "()I"⟩
abbrev cX11_judge : ByteArray := prog_1_method_24_code
def yX11_judge : MethodName := ⟨RX11, "judge", "(II)I"⟩
abbrev cX11_image : ByteArray := prog_1_method_25_code
def yX11_image : MethodName := ⟨RX11, "image", "()I"⟩
abbrev cX11_undo : ByteArray := prog_1_method_26_code
def yX11_undo : MethodName := ⟨RX11, "undo", "()I"⟩
abbrev cX11_count : ByteArray := prog_1_method_27_code
def yX11_count : MethodName := ⟨RX11, "count", "(I)I"⟩
abbrev cX11_tape : ByteArray := prog_1_method_28_code
def yX11_tape : MethodName := ⟨RX11, "tape", "(III)I"⟩
abbrev cX11_item : ByteArray := prog_1_method_29_code
def yX11_item : MethodName := ⟨RX11, "item", "(IIJ)I"⟩
abbrev cX11_read : ByteArray := prog_1_method_30_code
def yX11_read : MethodName := ⟨RX11, "read", "(II)J"⟩
abbrev cX11_shift : ByteArray := prog_1_method_31_code
def yX11_shift : MethodName := ⟨RX11, "shift", "(IIIII)I"⟩
abbrev cX11_tapeOf : ByteArray := prog_1_method_32_code
def yX11_tapeOf : MethodName := ⟨RX11, "tapeOf", "(I)LEscapeFrames$Tape;"⟩
abbrev cX11_isName : ByteArray := prog_1_method_33_code
def yX11_isName : MethodName := ⟨RX11, "isName", "(I)Z"⟩
abbrev cX11_isFunction : ByteArray := prog_1_method_34_code
def yX11_isFunction : MethodName := ⟨RX11, "isFunction", "(I)Z"⟩
abbrev cX11_isNumber : ByteArray := prog_1_method_35_code
def yX11_isNumber : MethodName := ⟨RX11, "isNumber", "(J)Z"⟩
abbrev cX11_at : ByteArray := prog_1_method_36_code
def yX11_at : MethodName := ⟨RX11, "at", "([II)I"⟩
abbrev cX11_at_ : ByteArray := prog_1_method_37_code
def yX11_at_ : MethodName := ⟨RX11, "at", "([JI)J"⟩
abbrev cX11_put : ByteArray := prog_1_method_38_code
def yX11_put : MethodName := ⟨RX11, "put", "([III)V"⟩
abbrev cX11_put_ : ByteArray := prog_1_method_39_code
def yX11_put_ : MethodName := ⟨RX11, "put", "([JIJ)V"⟩
abbrev cX11_copyRow : ByteArray := prog_1_method_40_code
def yX11_copyRow : MethodName := ⟨RX11, "copyRow", "([I[I)V"⟩
abbrev cX11_copyRow_ : ByteArray := prog_1_method_41_code
def yX11_copyRow_ : MethodName := ⟨RX11, "copyRow", "([J[J)V"⟩
def RX12 : String := "EscapeFramesModel"
def TX12 : u_T := fun k => match k with
  | 0 => ("EscapeFramesModel", "g", "[I", true)
  | 1 => ("EscapeFramesModel", "was", "[I", true)
  | 2 => ("EscapeFramesModel", "kept", "[I", true)
  | 3 => ("EscapeFramesModel", "hasImage", "Z", false)
  | 4 => ("EscapeFramesModel", "sign", "[I", true)
  | 5 => ("EscapeFramesModel", "about", "[I", true)
  | 6 => ("EscapeFramesModel", "many", "[I", true)
  | 7 => ("EscapeFramesModel", "other", "[I", true)
  | 8 => ("EscapeFramesModel", "expressions", "[I", true)
  | 9 => ("EscapeFramesModel", "lines", "I", false)
  | 10 => ("EscapeFramesModel", "text", "[I", true)
  | 11 => ("EscapeFramesModel", "texted", "I", false)
  | 12 => ("EscapeFramesModel", "at", "I", false)
  | 13 => ("EscapeFramesModel", "fault", "I", false)
  | 14 => ("EscapeFramesModel", "read", "I", false)
  | 15 => ("EscapeFramesModel", "one", "[I", true)
  | 16 => ("EscapeFramesModel", "sorts", "[I", true)
  | 17 => ("EscapeFramesModel", "sizes", "[I", true)
  | _ => ("EscapeFramesModel", "items", "[J", true)
def tyX12 : Nat → FieldType := fun k => match k with
  | 0 => .array .int
  | 1 => .array .int
  | 2 => .array .int
  | 3 => .boolean
  | 4 => .array .int
  | 5 => .array .int
  | 6 => .array .int
  | 7 => .array .int
  | 8 => .array .int
  | 9 => .int
  | 10 => .array .int
  | 11 => .int
  | 12 => .int
  | 13 => .int
  | 14 => .int
  | 15 => .array .int
  | 16 => .array .int
  | 17 => .array .int
  | _ => .array .long
abbrev wsX120 : List Cond := u_ws RX12 TX12 19
theorem nmX12 : ∀ a, a < 19 → ∀ b, b < 19 → a ≠ b → (TX12 a).2.1 ≠ (TX12 b).2.1 := by decide +kernel
theorem tyX12_ok : ∀ k, k < 19 → parseFieldDescriptor (TX12 k).2.2.1 = some (tyX12 k) := by decide +kernel
abbrev cX12_init : ByteArray := prog_14_method_1_code
def yX12_init : MethodName := ⟨RX12, "<init>", "()V"⟩
abbrev cX12_in : ByteArray := prog_14_method_2_code
def yX12_in : MethodName := ⟨RX12, "in", "(JJJ)Z"⟩
abbrev cX12_copies : ByteArray := prog_14_method_3_code
def yX12_copies : MethodName := ⟨RX12, "copies", "([I[I)V"⟩
abbrev cX12_feed : ByteArray := prog_14_method_4_code
def yX12_feed : MethodName := ⟨RX12, "feed", "(I)I"⟩
abbrev cX12_byteAt : ByteArray := prog_14_method_5_code
def yX12_byteAt : MethodName := ⟨RX12, "byteAt", "(I)I"⟩
abbrev cX12_stops : ByteArray := prog_14_method_6_code
def yX12_stops : MethodName := ⟨RX12, "stops", "()I"⟩
abbrev cX12_is : ByteArray := prog_14_method_7_code
def yX12_is : MethodName := ⟨RX12, "is", "(I)Z"⟩
abbrev cX12_partsOf : ByteArray := prog_14_method_8_code
def yX12_partsOf : MethodName := ⟨RX12, "partsOf", "(I)I"⟩
abbrev cX12_hasName : ByteArray := prog_14_method_9_code
def yX12_hasName : MethodName := ⟨RX12, "hasName", "(I)Z"⟩
abbrev cX12_expression : ByteArray := prog_14_method_10_code
def yX12_expression : MethodName := ⟨RX12, "expression", "(I)I"⟩
abbrev cX12_part : ByteArray := prog_14_method_11_code
def yX12_part : MethodName := ⟨RX12, "part", "(II)I"⟩
abbrev cX12_list : ByteArray := prog_14_method_12_code
def yX12_list : MethodName := ⟨RX12, "list", "(II)I"⟩
abbrev cX12_line : ByteArray := prog_14_method_13_code
def yX12_line : MethodName := ⟨RX12, "line", "()I"⟩
abbrev cX12_isLine : ByteArray := prog_14_method_14_code
def yX12_isLine : MethodName := ⟨RX12, "isLine", "(I)Z"⟩
abbrev cX12_deepest : ByteArray := prog_14_method_15_code
def yX12_deepest : MethodName := ⟨RX12, "deepest", "(I)I"⟩
abbrev cX12_isCall : ByteArray := prog_14_method_16_code
def yX12_isCall : MethodName := ⟨RX12, "isCall", "(I)Z"⟩
abbrev cX12_lastCalls : ByteArray := prog_14_method_17_code
def yX12_lastCalls : MethodName := ⟨RX12, "lastCalls", "(I)I"⟩
abbrev cX12_of : ByteArray := prog_14_method_18_code
def yX12_of : MethodName := ⟨RX12, "of", "(II)I"⟩
abbrev cX12_define : ByteArray := prog_14_method_19_code
def yX12_define : MethodName := ⟨RX12, "define", "(II)I"⟩
abbrev cX12_isName : ByteArray := prog_14_method_20_code
def yX12_isName : MethodName := ⟨RX12, "isName", "(I)Z"⟩
abbrev cX12_value : ByteArray := prog_14_method_21_code
def yX12_value : MethodName := ⟨RX12, "value", "(II)J"⟩
abbrev cX12_frames : ByteArray := prog_14_method_22_code
def yX12_frames : MethodName := ⟨RX12, "frames", "(I)I"⟩
abbrev cX12_stands : ByteArray := prog_14_method_23_code
def yX12_stands : MethodName := ⟨RX12, "stands", "(I)V"⟩
abbrev cX12_works : ByteArray := prog_14_method_24_code
def yX12_works : MethodName := ⟨RX12, "works", "(III)V"⟩
abbrev cX12_gives : ByteArray := prog_14_method_25_code
def yX12_gives : MethodName := ⟨RX12, "gives", "(II)V"⟩
abbrev cX12_comes : ByteArray := prog_14_method_26_code
def yX12_comes : MethodName := ⟨RX12, "comes", "(IIIIIII)Z"⟩
abbrev cX12_bound : ByteArray := prog_14_method_27_code
def yX12_bound : MethodName := ⟨RX12, "bound", "(IIII)I"⟩
abbrev cX12_found : ByteArray := prog_14_method_28_code
def yX12_found : MethodName := ⟨RX12, "found", "(II)I"⟩
abbrev cX12_worksOn : ByteArray := prog_14_method_29_code
def yX12_worksOn : MethodName := ⟨RX12, "worksOn", "()V"⟩
abbrev cX12_frameOf : ByteArray := prog_14_method_30_code
def yX12_frameOf : MethodName := ⟨RX12, "frameOf", "(I)I"⟩
abbrev cX12_made : ByteArray := prog_14_method_31_code
def yX12_made : MethodName := ⟨RX12, "made", "(III)I"⟩
abbrev cX12_givesOn : ByteArray := prog_14_method_32_code
def yX12_givesOn : MethodName := ⟨RX12, "givesOn", "()V"⟩
abbrev cX12_calls : ByteArray := prog_14_method_33_code
def yX12_calls : MethodName := ⟨RX12, "calls", "(III)V"⟩
abbrev cX12_winds : ByteArray := prog_14_method_34_code
def yX12_winds : MethodName := ⟨RX12, "winds", "(IIIIII)V"⟩
abbrev cX12_goesOnFrom : ByteArray := prog_14_method_35_code
def yX12_goesOnFrom : MethodName := ⟨RX12, "goesOnFrom", "(II)I"⟩
abbrev cX12_goes : ByteArray := prog_14_method_36_code
def yX12_goes : MethodName := ⟨RX12, "goes", "(III)V"⟩
abbrev cX12_begins : ByteArray := prog_14_method_37_code
def yX12_begins : MethodName := ⟨RX12, "begins", "(I)V"⟩
abbrev cX12_steps : ByteArray := prog_14_method_38_code
def yX12_steps : MethodName := ⟨RX12, "steps", "(I)I"⟩
abbrev cX12_runs : ByteArray := prog_14_method_39_code
def yX12_runs : MethodName := ⟨RX12, "runs", "(I)V"⟩
abbrev cX12_begin : ByteArray := prog_14_method_40_code
def yX12_begin : MethodName := ⟨RX12, "begin", "(I)I"⟩
abbrev cX12_step : ByteArray := prog_14_method_41_code
def yX12_step : MethodName := ⟨RX12, "step", "(I)I"⟩
abbrev cX12_run : ByteArray := prog_14_method_42_code
def yX12_run : MethodName := ⟨RX12, "run", "(I)I"⟩
abbrev cX12_latest : ByteArray := prog_14_method_43_code
def yX12_latest : MethodName := ⟨RX12, "latest", "()I"⟩
abbrev cX12_winders : ByteArray := prog_14_method_44_code
def yX12_winders : MethodName := ⟨RX12, "winders", "()I"⟩
abbrev cX12_toldOf : ByteArray := prog_14_method_45_code
def yX12_toldOf : MethodName := ⟨RX12, "toldOf", "(I)J"⟩
abbrev cX12_told : ByteArray := prog_14_method_46_code
def yX12_told : MethodName := ⟨RX12, "told", "(I)J"⟩
abbrev cX12_on : ByteArray := prog_14_method_47_code
def yX12_on : MethodName := ⟨RX12, "on", "(II)J"⟩
abbrev cX12_see : ByteArray := prog_14_method_48_code
def yX12_see : MethodName := ⟨RX12, "see", "(II)I"⟩
abbrev cX12_isSeen : ByteArray := prog_14_method_49_code
def yX12_isSeen : MethodName := ⟨RX12, "isSeen", "()Z"⟩
abbrev cX12_fits : ByteArray := prog_14_method_50_code
def yX12_fits : MethodName := ⟨RX12, "fits", "(III)I"⟩
abbrev cX12_alike : ByteArray := prog_14_method_51_code
def yX12_alike : MethodName := ⟨RX12, "alike", "(II)I"⟩
abbrev cX12_lowest : ByteArray := prog_14_method_52_code
def yX12_lowest : MethodName := ⟨RX12, "lowest", "(JJI)J"⟩
abbrev cX12_odds : ByteArray := prog_14_method_53_code
def yX12_odds : MethodName := ⟨RX12, "odds", "(III)J"⟩
abbrev cX12_mean : ByteArray := prog_14_method_54_code
def yX12_mean : MethodName := ⟨RX12, "mean", "(II)J"⟩
abbrev cX12_plan : ByteArray := prog_14_method_55_code
def yX12_plan : MethodName := ⟨RX12, "plan", "(II)I"⟩
abbrev cX12_ends : ByteArray := prog_14_method_56_code
def yX12_ends : MethodName := ⟨RX12, "ends", "(I)J"⟩
abbrev cX12_book : ByteArray := prog_14_method_57_code
def yX12_book : MethodName := ⟨RX12, "book", "(II)I"⟩
abbrev cX12_looked : ByteArray := prog_14_method_58_code
def yX12_looked : MethodName := ⟨RX12, "looked", "()I"⟩
abbrev cX12_image : ByteArray := prog_14_method_59_code
def yX12_image : MethodName := ⟨RX12, "image", "()I"⟩
abbrev cX12_undo : ByteArray := prog_14_method_60_code
def yX12_undo : MethodName := ⟨RX12, "undo", "()I"⟩
abbrev cX12_count : ByteArray := prog_14_method_61_code
def yX12_count : MethodName := ⟨RX12, "count", "(I)I"⟩
abbrev cX12_judge : ByteArray := prog_14_method_62_code
def yX12_judge : MethodName := ⟨RX12, "judge", "(II)I"⟩
abbrev cX12_tape : ByteArray := prog_14_method_63_code
def yX12_tape : MethodName := ⟨RX12, "tape", "(III)I"⟩
abbrev cX12_lowestBits : ByteArray := prog_14_method_64_code
def yX12_lowestBits : MethodName := ⟨RX12, "lowestBits", "(IJ)J"⟩
abbrev cX12_item : ByteArray := prog_14_method_65_code
def yX12_item : MethodName := ⟨RX12, "item", "(IIJ)I"⟩
abbrev cX12_read : ByteArray := prog_14_method_66_code
def yX12_read : MethodName := ⟨RX12, "read", "(II)J"⟩
abbrev cX12_shift : ByteArray := prog_14_method_67_code
def yX12_shift : MethodName := ⟨RX12, "shift", "(IIIII)I"⟩
def RL : String := "EscapeFramesLaw"
abbrev cL_law : ByteArray := code
def yL_law : MethodName := ⟨RL, "law", "([I)Z"⟩
abbrev vwCl : List vw_C := [(RX0, TX0, 9), (RX1, TX1, 5), (RX2, TX2, 9), (RX3, TX3, 15), (RX4, TX4, 6), (RX5, TX5, 4), (RX6, TX6, 4), (RX7, TX7, 2), (RX8, TX8, 3), (RX9, TX9, 5), (RX10, TX10, 2), (RX11, TX11, 9), (RX12, TX12, 19)]
/-- the tables' words that a callee may be given: those that warming keeps -/
def em_tb : List Cond := lw_tbl.filter goodWord
theorem em_in1 {w : Cond} (i : Nat) (h : tables_1_1[i]? = some w) (hg : goodWord w = true) : w ∈ em_tb := List.mem_filter.mpr ⟨List.mem_append_right _ (List.mem_append_left _ (List.mem_of_getElem? h)), hg⟩
theorem em_jn1 {w : Cond} (i : Nat) (h : tables_1_1[i]? = some w) : w ∈ lw_tbl := List.mem_append_right _ (List.mem_append_left _ (List.mem_of_getElem? h))
theorem em_in2 {w : Cond} (i : Nat) (h : tables_1_2[i]? = some w) (hg : goodWord w = true) : w ∈ em_tb := List.mem_filter.mpr ⟨List.mem_append_right _ (List.mem_append_right _ (List.mem_append_left _ (List.mem_of_getElem? h))), hg⟩
theorem em_jn2 {w : Cond} (i : Nat) (h : tables_1_2[i]? = some w) : w ∈ lw_tbl := List.mem_append_right _ (List.mem_append_right _ (List.mem_append_left _ (List.mem_of_getElem? h)))
theorem em_in3 {w : Cond} (i : Nat) (h : tables_1_3[i]? = some w) (hg : goodWord w = true) : w ∈ em_tb := List.mem_filter.mpr ⟨List.mem_append_right _ (List.mem_append_right _ (List.mem_append_right _ (List.mem_append_left _ (List.mem_of_getElem? h)))), hg⟩
theorem em_jn3 {w : Cond} (i : Nat) (h : tables_1_3[i]? = some w) : w ∈ lw_tbl := List.mem_append_right _ (List.mem_append_right _ (List.mem_append_right _ (List.mem_append_left _ (List.mem_of_getElem? h))))
theorem em_in4 {w : Cond} (i : Nat) (h : tables_1_4[i]? = some w) (hg : goodWord w = true) : w ∈ em_tb := List.mem_filter.mpr ⟨List.mem_append_right _ (List.mem_append_right _ (List.mem_append_right _ (List.mem_append_right _ (List.mem_append_left _ (List.mem_of_getElem? h))))), hg⟩
theorem em_jn4 {w : Cond} (i : Nat) (h : tables_1_4[i]? = some w) : w ∈ lw_tbl := List.mem_append_right _ (List.mem_append_right _ (List.mem_append_right _ (List.mem_append_right _ (List.mem_append_left _ (List.mem_of_getElem? h)))))
theorem em_in5 {w : Cond} (i : Nat) (h : tables_1_5[i]? = some w) (hg : goodWord w = true) : w ∈ em_tb := List.mem_filter.mpr ⟨List.mem_append_right _ (List.mem_append_right _ (List.mem_append_right _ (List.mem_append_right _ (List.mem_append_right _ (List.mem_append_left _ (List.mem_of_getElem? h)))))), hg⟩
theorem em_jn5 {w : Cond} (i : Nat) (h : tables_1_5[i]? = some w) : w ∈ lw_tbl := List.mem_append_right _ (List.mem_append_right _ (List.mem_append_right _ (List.mem_append_right _ (List.mem_append_right _ (List.mem_append_left _ (List.mem_of_getElem? h))))))
theorem em_in6 {w : Cond} (i : Nat) (h : tables_1_6[i]? = some w) (hg : goodWord w = true) : w ∈ em_tb := List.mem_filter.mpr ⟨List.mem_append_right _ (List.mem_append_right _ (List.mem_append_right _ (List.mem_append_right _ (List.mem_append_right _ (List.mem_append_right _ (List.mem_of_getElem? h)))))), hg⟩
theorem em_jn6 {w : Cond} (i : Nat) (h : tables_1_6[i]? = some w) : w ∈ lw_tbl := List.mem_append_right _ (List.mem_append_right _ (List.mem_append_right _ (List.mem_append_right _ (List.mem_append_right _ (List.mem_append_right _ (List.mem_of_getElem? h))))))
theorem em_inp {w : Cond} (i : Nat) (h : (k2_sels lw_privs)[i]? = some w) (hg : goodWord w = true) : w ∈ em_tb := List.mem_filter.mpr ⟨List.mem_append_left _ (List.mem_of_getElem? h), hg⟩
theorem em_good : GoodIn em_tb em_tb := fun w h => ⟨h, good_of_word (List.mem_filter.mp h).2⟩
