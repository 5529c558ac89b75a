-- ===== PART A: goes FIRST, ahead of the names: the tables' words, and 'selects' of the private methods out of them =====
/-- a private method of a class that the tables say can be made, by its rows of tables_1 -/
def lw_okq (q : MethodName × Nat) : Prop := (q.1.cls ≠ "java/lang/invoke/MethodHandle" ∧ q.1.cls ≠ "java/lang/invoke/VarHandle") ∧ Cond.instantiable q.1.cls q.2 ∈ tables_1 ∧ Cond.privateMethod q.1 ∈ tables_1 ∧ Cond.instanceMethod q.1 ∈ tables_1
theorem lw_p0 : lw_okq (⟨"BelievedByYard", "fail", "(I)I"⟩, 8) := ⟨⟨by decide +kernel, by decide +kernel⟩, List.mem_of_getElem? (i := 19) (by decide +kernel), List.mem_of_getElem? (i := 288) (by decide +kernel), List.mem_of_getElem? (i := 289) (by decide +kernel)⟩
theorem lw_p1 : lw_okq (⟨"BelievedByYard", "isPair", "(II)Z"⟩, 8) := ⟨⟨by decide +kernel, by decide +kernel⟩, List.mem_of_getElem? (i := 19) (by decide +kernel), List.mem_of_getElem? (i := 360) (by decide +kernel), List.mem_of_getElem? (i := 361) (by decide +kernel)⟩
theorem lw_p2 : lw_okq (⟨"BelievedByYard", "isPart", "(II)Z"⟩, 8) := ⟨⟨by decide +kernel, by decide +kernel⟩, List.mem_of_getElem? (i := 19) (by decide +kernel), List.mem_of_getElem? (i := 408) (by decide +kernel), List.mem_of_getElem? (i := 409) (by decide +kernel)⟩
theorem lw_p3 : lw_okq (⟨"BelievedByYard$Reader", "readJoined", "(II)Z"⟩, 4) := ⟨⟨by decide +kernel, by decide +kernel⟩, List.mem_of_getElem? (i := 189) (by decide +kernel), List.mem_of_getElem? (i := 457) (by decide +kernel), List.mem_of_getElem? (i := 458) (by decide +kernel)⟩
theorem lw_p4 : lw_okq (⟨"BelievedByYard$Reader", "readSingle", "(I)Z"⟩, 4) := ⟨⟨by decide +kernel, by decide +kernel⟩, List.mem_of_getElem? (i := 189) (by decide +kernel), List.mem_of_getElem? (i := 461) (by decide +kernel), List.mem_of_getElem? (i := 462) (by decide +kernel)⟩
theorem lw_p5 : lw_okq (⟨"BelievedByYard$Reader", "peek", "()I"⟩, 4) := ⟨⟨by decide +kernel, by decide +kernel⟩, List.mem_of_getElem? (i := 189) (by decide +kernel), List.mem_of_getElem? (i := 465) (by decide +kernel), List.mem_of_getElem? (i := 466) (by decide +kernel)⟩
theorem lw_p6 : lw_okq (⟨"BelievedByYard$Reader", "readNumber", "()Z"⟩, 4) := ⟨⟨by decide +kernel, by decide +kernel⟩, List.mem_of_getElem? (i := 189) (by decide +kernel), List.mem_of_getElem? (i := 477) (by decide +kernel), List.mem_of_getElem? (i := 478) (by decide +kernel)⟩
theorem lw_p7 : lw_okq (⟨"BelievedByYard$Reader", "nameOf", "(I)I"⟩, 4) := ⟨⟨by decide +kernel, by decide +kernel⟩, List.mem_of_getElem? (i := 189) (by decide +kernel), List.mem_of_getElem? (i := 482) (by decide +kernel), List.mem_of_getElem? (i := 483) (by decide +kernel)⟩
theorem lw_p8 : lw_okq (⟨"BelievedByYard$Reader", "readTurned", "(I)Z"⟩, 4) := ⟨⟨by decide +kernel, by decide +kernel⟩, List.mem_of_getElem? (i := 189) (by decide +kernel), List.mem_of_getElem? (i := 491) (by decide +kernel), List.mem_of_getElem? (i := 492) (by decide +kernel)⟩
theorem lw_p9 : lw_okq (⟨"BelievedByYard$Reader", "readClosed", "(I)Z"⟩, 4) := ⟨⟨by decide +kernel, by decide +kernel⟩, List.mem_of_getElem? (i := 189) (by decide +kernel), List.mem_of_getElem? (i := 495) (by decide +kernel), List.mem_of_getElem? (i := 496) (by decide +kernel)⟩
theorem lw_p10 : lw_okq (⟨"BelievedByYard$World", "draw", "()I"⟩, 12) := ⟨⟨by decide +kernel, by decide +kernel⟩, List.mem_of_getElem? (i := 27) (by decide +kernel), List.mem_of_getElem? (i := 551) (by decide +kernel), List.mem_of_getElem? (i := 552) (by decide +kernel)⟩
theorem lw_p11 : lw_okq (⟨"BelievedByYard$Thought", "arrives", "(LBelievedByYard$Tale;IIIII)Z"⟩, 7) := ⟨⟨by decide +kernel, by decide +kernel⟩, List.mem_of_getElem? (i := 157) (by decide +kernel), List.mem_of_getElem? (i := 566) (by decide +kernel), List.mem_of_getElem? (i := 567) (by decide +kernel)⟩
theorem lw_p12 : lw_okq (⟨"BelievedByYard$Thought", "isEnough", "(III)Z"⟩, 7) := ⟨⟨by decide +kernel, by decide +kernel⟩, List.mem_of_getElem? (i := 157) (by decide +kernel), List.mem_of_getElem? (i := 573) (by decide +kernel), List.mem_of_getElem? (i := 574) (by decide +kernel)⟩
theorem lw_p13 : lw_okq (⟨"BelievedByYard$Thought", "lowerPricesFrom", "(I)V"⟩, 7) := ⟨⟨by decide +kernel, by decide +kernel⟩, List.mem_of_getElem? (i := 157) (by decide +kernel), List.mem_of_getElem? (i := 588) (by decide +kernel), List.mem_of_getElem? (i := 589) (by decide +kernel)⟩
theorem lw_p14 : lw_okq (⟨"BelievedByYard$Thought", "placesNextTo", "(I)I"⟩, 7) := ⟨⟨by decide +kernel, by decide +kernel⟩, List.mem_of_getElem? (i := 157) (by decide +kernel), List.mem_of_getElem? (i := 602) (by decide +kernel), List.mem_of_getElem? (i := 603) (by decide +kernel)⟩
theorem lw_p15 : lw_okq (⟨"BelievedByYard$Thought", "seeMarks", "(LBelievedByYard$Tale;III)V"⟩, 7) := ⟨⟨by decide +kernel, by decide +kernel⟩, List.mem_of_getElem? (i := 157) (by decide +kernel), List.mem_of_getElem? (i := 615) (by decide +kernel), List.mem_of_getElem? (i := 616) (by decide +kernel)⟩
def lw_privs_1 : List (MethodName × Nat) := [(⟨"BelievedByYard", "fail", "(I)I"⟩, 8), (⟨"BelievedByYard", "isPair", "(II)Z"⟩, 8), (⟨"BelievedByYard", "isPart", "(II)Z"⟩, 8), (⟨"BelievedByYard$Reader", "readJoined", "(II)Z"⟩, 4), (⟨"BelievedByYard$Reader", "readSingle", "(I)Z"⟩, 4), (⟨"BelievedByYard$Reader", "peek", "()I"⟩, 4), (⟨"BelievedByYard$Reader", "readNumber", "()Z"⟩, 4), (⟨"BelievedByYard$Reader", "nameOf", "(I)I"⟩, 4), (⟨"BelievedByYard$Reader", "readTurned", "(I)Z"⟩, 4), (⟨"BelievedByYard$Reader", "readClosed", "(I)Z"⟩, 4), (⟨"BelievedByYard$World", "draw", "()I"⟩, 12), (⟨"BelievedByYard$Thought", "arrives", "(LBelievedByYard$Tale;IIIII)Z"⟩, 7), (⟨"BelievedByYard$Thought", "isEnough", "(III)Z"⟩, 7), (⟨"BelievedByYard$Thought", "lowerPricesFrom", "(I)V"⟩, 7), (⟨"BelievedByYard$Thought", "placesNextTo", "(I)I"⟩, 7), (⟨"BelievedByYard$Thought", "seeMarks", "(LBelievedByYard$Tale;III)V"⟩, 7)]
theorem lw_r1 : ∀ q ∈ lw_privs_1, lw_okq q := List.forall_mem_cons.mpr ⟨lw_p0, List.forall_mem_cons.mpr ⟨lw_p1, List.forall_mem_cons.mpr ⟨lw_p2, List.forall_mem_cons.mpr ⟨lw_p3, List.forall_mem_cons.mpr ⟨lw_p4, List.forall_mem_cons.mpr ⟨lw_p5, List.forall_mem_cons.mpr ⟨lw_p6, List.forall_mem_cons.mpr ⟨lw_p7, List.forall_mem_cons.mpr ⟨lw_p8, List.forall_mem_cons.mpr ⟨lw_p9, List.forall_mem_cons.mpr ⟨lw_p10, List.forall_mem_cons.mpr ⟨lw_p11, List.forall_mem_cons.mpr ⟨lw_p12, List.forall_mem_cons.mpr ⟨lw_p13, List.forall_mem_cons.mpr ⟨lw_p14, List.forall_mem_cons.mpr ⟨lw_p15, fun _ h => absurd h List.not_mem_nil⟩⟩⟩⟩⟩⟩⟩⟩⟩⟩⟩⟩⟩⟩⟩⟩
theorem lw_p16 : lw_okq (⟨"BelievedByYard", "sheetOf", "(I)LBelievedByYard$Sheet;"⟩, 8) := ⟨⟨by decide +kernel, by decide +kernel⟩, List.mem_of_getElem? (i := 19) (by decide +kernel), List.mem_of_getElem? (i := 630) (by decide +kernel), List.mem_of_getElem? (i := 631) (by decide +kernel)⟩
theorem lw_p17 : lw_okq (⟨"BelievedByYard$Thought", "rowsOn", "(LBelievedByYard$Sheet;LBelievedByYard$Tale;III)I"⟩, 7) := ⟨⟨by decide +kernel, by decide +kernel⟩, List.mem_of_getElem? (i := 157) (by decide +kernel), List.mem_of_getElem? (i := 642) (by decide +kernel), List.mem_of_getElem? (i := 643) (by decide +kernel)⟩
theorem lw_p18 : lw_okq (⟨"BelievedByYard$Thought", "returns", "(LBelievedByYard$Tale;III)Z"⟩, 7) := ⟨⟨by decide +kernel, by decide +kernel⟩, List.mem_of_getElem? (i := 157) (by decide +kernel), List.mem_of_getElem? (i := 678) (by decide +kernel), List.mem_of_getElem? (i := 679) (by decide +kernel)⟩
theorem lw_p19 : lw_okq (⟨"BelievedByYard$Voices", "say", "(IIII)I"⟩, 4) := ⟨⟨by decide +kernel, by decide +kernel⟩, List.mem_of_getElem? (i := 212) (by decide +kernel), List.mem_of_getElem? (i := 715) (by decide +kernel), List.mem_of_getElem? (i := 716) (by decide +kernel)⟩
theorem lw_p20 : lw_okq (⟨"BelievedByYard$Voices", "run", "(IIII)I"⟩, 4) := ⟨⟨by decide +kernel, by decide +kernel⟩, List.mem_of_getElem? (i := 212) (by decide +kernel), List.mem_of_getElem? (i := 729) (by decide +kernel), List.mem_of_getElem? (i := 730) (by decide +kernel)⟩
theorem lw_p21 : lw_okq (⟨"BelievedByYardModel", "finding", "(I)I"⟩, 28) := ⟨⟨by decide +kernel, by decide +kernel⟩, List.mem_of_getElem? (i := 838) (by decide +kernel), List.mem_of_getElem? (i := 943) (by decide +kernel), List.mem_of_getElem? (i := 944) (by decide +kernel)⟩
theorem lw_p22 : lw_okq (⟨"BelievedByYardModel", "either", "()V"⟩, 28) := ⟨⟨by decide +kernel, by decide +kernel⟩, List.mem_of_getElem? (i := 838) (by decide +kernel), List.mem_of_getElem? (i := 954) (by decide +kernel), List.mem_of_getElem? (i := 955) (by decide +kernel)⟩
theorem lw_p23 : lw_okq (⟨"BelievedByYardModel", "both", "()V"⟩, 28) := ⟨⟨by decide +kernel, by decide +kernel⟩, List.mem_of_getElem? (i := 838) (by decide +kernel), List.mem_of_getElem? (i := 958) (by decide +kernel), List.mem_of_getElem? (i := 959) (by decide +kernel)⟩
theorem lw_p24 : lw_okq (⟨"BelievedByYardModel", "compared", "()V"⟩, 28) := ⟨⟨by decide +kernel, by decide +kernel⟩, List.mem_of_getElem? (i := 838) (by decide +kernel), List.mem_of_getElem? (i := 962) (by decide +kernel), List.mem_of_getElem? (i := 963) (by decide +kernel)⟩
theorem lw_p25 : lw_okq (⟨"BelievedByYardModel", "sum", "()V"⟩, 28) := ⟨⟨by decide +kernel, by decide +kernel⟩, List.mem_of_getElem? (i := 838) (by decide +kernel), List.mem_of_getElem? (i := 966) (by decide +kernel), List.mem_of_getElem? (i := 967) (by decide +kernel)⟩
theorem lw_p26 : lw_okq (⟨"BelievedByYardModel", "product", "()V"⟩, 28) := ⟨⟨by decide +kernel, by decide +kernel⟩, List.mem_of_getElem? (i := 838) (by decide +kernel), List.mem_of_getElem? (i := 970) (by decide +kernel), List.mem_of_getElem? (i := 971) (by decide +kernel)⟩
theorem lw_p27 : lw_okq (⟨"BelievedByYardModel", "one", "()V"⟩, 28) := ⟨⟨by decide +kernel, by decide +kernel⟩, List.mem_of_getElem? (i := 838) (by decide +kernel), List.mem_of_getElem? (i := 974) (by decide +kernel), List.mem_of_getElem? (i := 975) (by decide +kernel)⟩
theorem lw_p28 : lw_okq (⟨"BelievedByYardModel", "here", "()I"⟩, 28) := ⟨⟨by decide +kernel, by decide +kernel⟩, List.mem_of_getElem? (i := 838) (by decide +kernel), List.mem_of_getElem? (i := 978) (by decide +kernel), List.mem_of_getElem? (i := 979) (by decide +kernel)⟩
theorem lw_p29 : lw_okq (⟨"BelievedByYardModel", "codes", "(I)V"⟩, 28) := ⟨⟨by decide +kernel, by decide +kernel⟩, List.mem_of_getElem? (i := 838) (by decide +kernel), List.mem_of_getElem? (i := 982) (by decide +kernel), List.mem_of_getElem? (i := 983) (by decide +kernel)⟩
theorem lw_p30 : lw_okq (⟨"BelievedByYardModel", "takes", "(I)Z"⟩, 28) := ⟨⟨by decide +kernel, by decide +kernel⟩, List.mem_of_getElem? (i := 838) (by decide +kernel), List.mem_of_getElem? (i := 986) (by decide +kernel), List.mem_of_getElem? (i := 987) (by decide +kernel)⟩
theorem lw_p31 : lw_okq (⟨"BelievedByYardModel", "nameOf", "(I)I"⟩, 28) := ⟨⟨by decide +kernel, by decide +kernel⟩, List.mem_of_getElem? (i := 838) (by decide +kernel), List.mem_of_getElem? (i := 990) (by decide +kernel), List.mem_of_getElem? (i := 991) (by decide +kernel)⟩
def lw_privs_2 : List (MethodName × Nat) := [(⟨"BelievedByYard", "sheetOf", "(I)LBelievedByYard$Sheet;"⟩, 8), (⟨"BelievedByYard$Thought", "rowsOn", "(LBelievedByYard$Sheet;LBelievedByYard$Tale;III)I"⟩, 7), (⟨"BelievedByYard$Thought", "returns", "(LBelievedByYard$Tale;III)Z"⟩, 7), (⟨"BelievedByYard$Voices", "say", "(IIII)I"⟩, 4), (⟨"BelievedByYard$Voices", "run", "(IIII)I"⟩, 4), (⟨"BelievedByYardModel", "finding", "(I)I"⟩, 28), (⟨"BelievedByYardModel", "either", "()V"⟩, 28), (⟨"BelievedByYardModel", "both", "()V"⟩, 28), (⟨"BelievedByYardModel", "compared", "()V"⟩, 28), (⟨"BelievedByYardModel", "sum", "()V"⟩, 28), (⟨"BelievedByYardModel", "product", "()V"⟩, 28), (⟨"BelievedByYardModel", "one", "()V"⟩, 28), (⟨"BelievedByYardModel", "here", "()I"⟩, 28), (⟨"BelievedByYardModel", "codes", "(I)V"⟩, 28), (⟨"BelievedByYardModel", "takes", "(I)Z"⟩, 28), (⟨"BelievedByYardModel", "nameOf", "(I)I"⟩, 28)]
theorem lw_r2 : ∀ q ∈ lw_privs_2, lw_okq q := List.forall_mem_cons.mpr ⟨lw_p16, List.forall_mem_cons.mpr ⟨lw_p17, List.forall_mem_cons.mpr ⟨lw_p18, List.forall_mem_cons.mpr ⟨lw_p19, List.forall_mem_cons.mpr ⟨lw_p20, List.forall_mem_cons.mpr ⟨lw_p21, List.forall_mem_cons.mpr ⟨lw_p22, List.forall_mem_cons.mpr ⟨lw_p23, List.forall_mem_cons.mpr ⟨lw_p24, List.forall_mem_cons.mpr ⟨lw_p25, List.forall_mem_cons.mpr ⟨lw_p26, List.forall_mem_cons.mpr ⟨lw_p27, List.forall_mem_cons.mpr ⟨lw_p28, List.forall_mem_cons.mpr ⟨lw_p29, List.forall_mem_cons.mpr ⟨lw_p30, List.forall_mem_cons.mpr ⟨lw_p31, fun _ h => absurd h List.not_mem_nil⟩⟩⟩⟩⟩⟩⟩⟩⟩⟩⟩⟩⟩⟩⟩⟩
theorem lw_p32 : lw_okq (⟨"BelievedByYardModel", "given", "(IIII)I"⟩, 28) := ⟨⟨by decide +kernel, by decide +kernel⟩, List.mem_of_getElem? (i := 838) (by decide +kernel), List.mem_of_getElem? (i := 1046) (by decide +kernel), List.mem_of_getElem? (i := 1047) (by decide +kernel)⟩
theorem lw_p33 : lw_okq (⟨"BelievedByYardModel", "hasText", "(I)Z"⟩, 28) := ⟨⟨by decide +kernel, by decide +kernel⟩, List.mem_of_getElem? (i := 838) (by decide +kernel), List.mem_of_getElem? (i := 1050) (by decide +kernel), List.mem_of_getElem? (i := 1051) (by decide +kernel)⟩
theorem lw_p34 : lw_okq (⟨"BelievedByYardModel", "worked", "(I)I"⟩, 28) := ⟨⟨by decide +kernel, by decide +kernel⟩, List.mem_of_getElem? (i := 838) (by decide +kernel), List.mem_of_getElem? (i := 1054) (by decide +kernel), List.mem_of_getElem? (i := 1055) (by decide +kernel)⟩
theorem lw_p35 : lw_okq (⟨"BelievedByYardModel", "isPlace", "(I)Z"⟩, 28) := ⟨⟨by decide +kernel, by decide +kernel⟩, List.mem_of_getElem? (i := 838) (by decide +kernel), List.mem_of_getElem? (i := 1077) (by decide +kernel), List.mem_of_getElem? (i := 1078) (by decide +kernel)⟩
theorem lw_p36 : lw_okq (⟨"BelievedByYardModel", "turn", "(II)I"⟩, 28) := ⟨⟨by decide +kernel, by decide +kernel⟩, List.mem_of_getElem? (i := 838) (by decide +kernel), List.mem_of_getElem? (i := 1081) (by decide +kernel), List.mem_of_getElem? (i := 1082) (by decide +kernel)⟩
theorem lw_p37 : lw_okq (⟨"BelievedByYardModel", "areTwo", "(II)Z"⟩, 28) := ⟨⟨by decide +kernel, by decide +kernel⟩, List.mem_of_getElem? (i := 838) (by decide +kernel), List.mem_of_getElem? (i := 1089) (by decide +kernel), List.mem_of_getElem? (i := 1090) (by decide +kernel)⟩
theorem lw_p38 : lw_okq (⟨"BelievedByYardModel", "yardsOf", "(II)I"⟩, 28) := ⟨⟨by decide +kernel, by decide +kernel⟩, List.mem_of_getElem? (i := 838) (by decide +kernel), List.mem_of_getElem? (i := 1097) (by decide +kernel), List.mem_of_getElem? (i := 1098) (by decide +kernel)⟩
theorem lw_p39 : lw_okq (⟨"BelievedByYardModel", "tollOf", "(II)I"⟩, 28) := ⟨⟨by decide +kernel, by decide +kernel⟩, List.mem_of_getElem? (i := 838) (by decide +kernel), List.mem_of_getElem? (i := 1101) (by decide +kernel), List.mem_of_getElem? (i := 1102) (by decide +kernel)⟩
theorem lw_p40 : lw_okq (⟨"BelievedByYardModel", "taleComes", "(III)I"⟩, 28) := ⟨⟨by decide +kernel, by decide +kernel⟩, List.mem_of_getElem? (i := 838) (by decide +kernel), List.mem_of_getElem? (i := 1115) (by decide +kernel), List.mem_of_getElem? (i := 1116) (by decide +kernel)⟩
theorem lw_p41 : lw_okq (⟨"BelievedByYardModel", "atPlace", "(I)I"⟩, 28) := ⟨⟨by decide +kernel, by decide +kernel⟩, List.mem_of_getElem? (i := 838) (by decide +kernel), List.mem_of_getElem? (i := 1126) (by decide +kernel), List.mem_of_getElem? (i := 1127) (by decide +kernel)⟩
theorem lw_p42 : lw_okq (⟨"BelievedByYardModel", "taleIs", "(II)I"⟩, 28) := ⟨⟨by decide +kernel, by decide +kernel⟩, List.mem_of_getElem? (i := 838) (by decide +kernel), List.mem_of_getElem? (i := 1130) (by decide +kernel), List.mem_of_getElem? (i := 1131) (by decide +kernel)⟩
theorem lw_p43 : lw_okq (⟨"BelievedByYardModel", "fame", "(I)I"⟩, 28) := ⟨⟨by decide +kernel, by decide +kernel⟩, List.mem_of_getElem? (i := 838) (by decide +kernel), List.mem_of_getElem? (i := 1134) (by decide +kernel), List.mem_of_getElem? (i := 1135) (by decide +kernel)⟩
theorem lw_p44 : lw_okq (⟨"BelievedByYardModel", "isNowBelieved", "(II)Z"⟩, 28) := ⟨⟨by decide +kernel, by decide +kernel⟩, List.mem_of_getElem? (i := 838) (by decide +kernel), List.mem_of_getElem? (i := 1138) (by decide +kernel), List.mem_of_getElem? (i := 1139) (by decide +kernel)⟩
theorem lw_p45 : lw_okq (⟨"BelievedByYardModel", "isBelieved", "(IIII)Z"⟩, 28) := ⟨⟨by decide +kernel, by decide +kernel⟩, List.mem_of_getElem? (i := 838) (by decide +kernel), List.mem_of_getElem? (i := 1142) (by decide +kernel), List.mem_of_getElem? (i := 1143) (by decide +kernel)⟩
theorem lw_p46 : lw_okq (⟨"BelievedByYardModel", "isTale", "(I)Z"⟩, 28) := ⟨⟨by decide +kernel, by decide +kernel⟩, List.mem_of_getElem? (i := 838) (by decide +kernel), List.mem_of_getElem? (i := 1150) (by decide +kernel), List.mem_of_getElem? (i := 1151) (by decide +kernel)⟩
theorem lw_p47 : lw_okq (⟨"BelievedByYardModel", "hasRoad", "(II)Z"⟩, 28) := ⟨⟨by decide +kernel, by decide +kernel⟩, List.mem_of_getElem? (i := 838) (by decide +kernel), List.mem_of_getElem? (i := 1177) (by decide +kernel), List.mem_of_getElem? (i := 1178) (by decide +kernel)⟩
def lw_privs_3 : List (MethodName × Nat) := [(⟨"BelievedByYardModel", "given", "(IIII)I"⟩, 28), (⟨"BelievedByYardModel", "hasText", "(I)Z"⟩, 28), (⟨"BelievedByYardModel", "worked", "(I)I"⟩, 28), (⟨"BelievedByYardModel", "isPlace", "(I)Z"⟩, 28), (⟨"BelievedByYardModel", "turn", "(II)I"⟩, 28), (⟨"BelievedByYardModel", "areTwo", "(II)Z"⟩, 28), (⟨"BelievedByYardModel", "yardsOf", "(II)I"⟩, 28), (⟨"BelievedByYardModel", "tollOf", "(II)I"⟩, 28), (⟨"BelievedByYardModel", "taleComes", "(III)I"⟩, 28), (⟨"BelievedByYardModel", "atPlace", "(I)I"⟩, 28), (⟨"BelievedByYardModel", "taleIs", "(II)I"⟩, 28), (⟨"BelievedByYardModel", "fame", "(I)I"⟩, 28), (⟨"BelievedByYardModel", "isNowBelieved", "(II)Z"⟩, 28), (⟨"BelievedByYardModel", "isBelieved", "(IIII)Z"⟩, 28), (⟨"BelievedByYardModel", "isTale", "(I)Z"⟩, 28), (⟨"BelievedByYardModel", "hasRoad", "(II)Z"⟩, 28)]
theorem lw_r3 : ∀ q ∈ lw_privs_3, lw_okq q := List.forall_mem_cons.mpr ⟨lw_p32, List.forall_mem_cons.mpr ⟨lw_p33, List.forall_mem_cons.mpr ⟨lw_p34, List.forall_mem_cons.mpr ⟨lw_p35, List.forall_mem_cons.mpr ⟨lw_p36, List.forall_mem_cons.mpr ⟨lw_p37, List.forall_mem_cons.mpr ⟨lw_p38, List.forall_mem_cons.mpr ⟨lw_p39, List.forall_mem_cons.mpr ⟨lw_p40, List.forall_mem_cons.mpr ⟨lw_p41, List.forall_mem_cons.mpr ⟨lw_p42, List.forall_mem_cons.mpr ⟨lw_p43, List.forall_mem_cons.mpr ⟨lw_p44, List.forall_mem_cons.mpr ⟨lw_p45, List.forall_mem_cons.mpr ⟨lw_p46, List.forall_mem_cons.mpr ⟨lw_p47, fun _ h => absurd h List.not_mem_nil⟩⟩⟩⟩⟩⟩⟩⟩⟩⟩⟩⟩⟩⟩⟩⟩
theorem lw_p48 : lw_okq (⟨"BelievedByYardModel", "goes", "(II)V"⟩, 28) := ⟨⟨by decide +kernel, by decide +kernel⟩, List.mem_of_getElem? (i := 838) (by decide +kernel), List.mem_of_getElem? (i := 1182) (by decide +kernel), List.mem_of_getElem? (i := 1183) (by decide +kernel)⟩
theorem lw_p49 : lw_okq (⟨"BelievedByYardModel", "growsTo", "(IIII)I"⟩, 28) := ⟨⟨by decide +kernel, by decide +kernel⟩, List.mem_of_getElem? (i := 838) (by decide +kernel), List.mem_of_getElem? (i := 1186) (by decide +kernel), List.mem_of_getElem? (i := 1187) (by decide +kernel)⟩
theorem lw_p50 : lw_okq (⟨"BelievedByYardModel", "walked", "(II)I"⟩, 28) := ⟨⟨by decide +kernel, by decide +kernel⟩, List.mem_of_getElem? (i := 838) (by decide +kernel), List.mem_of_getElem? (i := 1190) (by decide +kernel), List.mem_of_getElem? (i := 1191) (by decide +kernel)⟩
theorem lw_p51 : lw_okq (⟨"BelievedByYardModel", "drawn", "()I"⟩, 28) := ⟨⟨by decide +kernel, by decide +kernel⟩, List.mem_of_getElem? (i := 838) (by decide +kernel), List.mem_of_getElem? (i := 1198) (by decide +kernel), List.mem_of_getElem? (i := 1199) (by decide +kernel)⟩
theorem lw_p52 : lw_okq (⟨"BelievedByYardModel", "comesTo", "(IIIIII)Z"⟩, 28) := ⟨⟨by decide +kernel, by decide +kernel⟩, List.mem_of_getElem? (i := 838) (by decide +kernel), List.mem_of_getElem? (i := 1207) (by decide +kernel), List.mem_of_getElem? (i := 1208) (by decide +kernel)⟩
theorem lw_p53 : lw_okq (⟨"BelievedByYardModel", "goesOn", "(IIIII)V"⟩, 28) := ⟨⟨by decide +kernel, by decide +kernel⟩, List.mem_of_getElem? (i := 838) (by decide +kernel), List.mem_of_getElem? (i := 1216) (by decide +kernel), List.mem_of_getElem? (i := 1217) (by decide +kernel)⟩
theorem lw_p54 : lw_okq (⟨"BelievedByYardModel", "besides", "(I)I"⟩, 28) := ⟨⟨by decide +kernel, by decide +kernel⟩, List.mem_of_getElem? (i := 838) (by decide +kernel), List.mem_of_getElem? (i := 1227) (by decide +kernel), List.mem_of_getElem? (i := 1228) (by decide +kernel)⟩
theorem lw_p55 : lw_okq (⟨"BelievedByYardModel", "marksBehind", "(IIII)V"⟩, 28) := ⟨⟨by decide +kernel, by decide +kernel⟩, List.mem_of_getElem? (i := 838) (by decide +kernel), List.mem_of_getElem? (i := 1235) (by decide +kernel), List.mem_of_getElem? (i := 1236) (by decide +kernel)⟩
theorem lw_p56 : lw_okq (⟨"BelievedByYardModel", "rowsSo", "(IIIII)I"⟩, 28) := ⟨⟨by decide +kernel, by decide +kernel⟩, List.mem_of_getElem? (i := 838) (by decide +kernel), List.mem_of_getElem? (i := 1246) (by decide +kernel), List.mem_of_getElem? (i := 1247) (by decide +kernel)⟩
theorem lw_p57 : lw_okq (⟨"BelievedByYardModel", "believedAt", "(I)I"⟩, 28) := ⟨⟨by decide +kernel, by decide +kernel⟩, List.mem_of_getElem? (i := 838) (by decide +kernel), List.mem_of_getElem? (i := 1257) (by decide +kernel), List.mem_of_getElem? (i := 1258) (by decide +kernel)⟩
theorem lw_p58 : lw_okq (⟨"BelievedByYardModel", "lateNow", "(I)I"⟩, 28) := ⟨⟨by decide +kernel, by decide +kernel⟩, List.mem_of_getElem? (i := 838) (by decide +kernel), List.mem_of_getElem? (i := 1265) (by decide +kernel), List.mem_of_getElem? (i := 1266) (by decide +kernel)⟩
theorem lw_p59 : lw_okq (⟨"BelievedByYardModel", "comesRound", "(IIII)Z"⟩, 28) := ⟨⟨by decide +kernel, by decide +kernel⟩, List.mem_of_getElem? (i := 838) (by decide +kernel), List.mem_of_getElem? (i := 1273) (by decide +kernel), List.mem_of_getElem? (i := 1274) (by decide +kernel)⟩
theorem lw_p60 : lw_okq (⟨"BelievedByYardModel", "walksOf", "(I)I"⟩, 28) := ⟨⟨by decide +kernel, by decide +kernel⟩, List.mem_of_getElem? (i := 838) (by decide +kernel), List.mem_of_getElem? (i := 1293) (by decide +kernel), List.mem_of_getElem? (i := 1294) (by decide +kernel)⟩
theorem lw_p61 : lw_okq (⟨"BelievedByYardModel", "ran", "(I)V"⟩, 28) := ⟨⟨by decide +kernel, by decide +kernel⟩, List.mem_of_getElem? (i := 838) (by decide +kernel), List.mem_of_getElem? (i := 1297) (by decide +kernel), List.mem_of_getElem? (i := 1298) (by decide +kernel)⟩
theorem lw_p62 : lw_okq (⟨"BelievedByYardModel", "growsOf", "(I)I"⟩, 28) := ⟨⟨by decide +kernel, by decide +kernel⟩, List.mem_of_getElem? (i := 838) (by decide +kernel), List.mem_of_getElem? (i := 1301) (by decide +kernel), List.mem_of_getElem? (i := 1302) (by decide +kernel)⟩
theorem lw_p63 : lw_okq (⟨"BelievedByYardModel", "limpsOf", "(I)I"⟩, 28) := ⟨⟨by decide +kernel, by decide +kernel⟩, List.mem_of_getElem? (i := 838) (by decide +kernel), List.mem_of_getElem? (i := 1305) (by decide +kernel), List.mem_of_getElem? (i := 1306) (by decide +kernel)⟩
def lw_privs_4 : List (MethodName × Nat) := [(⟨"BelievedByYardModel", "goes", "(II)V"⟩, 28), (⟨"BelievedByYardModel", "growsTo", "(IIII)I"⟩, 28), (⟨"BelievedByYardModel", "walked", "(II)I"⟩, 28), (⟨"BelievedByYardModel", "drawn", "()I"⟩, 28), (⟨"BelievedByYardModel", "comesTo", "(IIIIII)Z"⟩, 28), (⟨"BelievedByYardModel", "goesOn", "(IIIII)V"⟩, 28), (⟨"BelievedByYardModel", "besides", "(I)I"⟩, 28), (⟨"BelievedByYardModel", "marksBehind", "(IIII)V"⟩, 28), (⟨"BelievedByYardModel", "rowsSo", "(IIIII)I"⟩, 28), (⟨"BelievedByYardModel", "believedAt", "(I)I"⟩, 28), (⟨"BelievedByYardModel", "lateNow", "(I)I"⟩, 28), (⟨"BelievedByYardModel", "comesRound", "(IIII)Z"⟩, 28), (⟨"BelievedByYardModel", "walksOf", "(I)I"⟩, 28), (⟨"BelievedByYardModel", "ran", "(I)V"⟩, 28), (⟨"BelievedByYardModel", "growsOf", "(I)I"⟩, 28), (⟨"BelievedByYardModel", "limpsOf", "(I)I"⟩, 28)]
theorem lw_r4 : ∀ q ∈ lw_privs_4, lw_okq q := List.forall_mem_cons.mpr ⟨lw_p48, List.forall_mem_cons.mpr ⟨lw_p49, List.forall_mem_cons.mpr ⟨lw_p50, List.forall_mem_cons.mpr ⟨lw_p51, List.forall_mem_cons.mpr ⟨lw_p52, List.forall_mem_cons.mpr ⟨lw_p53, List.forall_mem_cons.mpr ⟨lw_p54, List.forall_mem_cons.mpr ⟨lw_p55, List.forall_mem_cons.mpr ⟨lw_p56, List.forall_mem_cons.mpr ⟨lw_p57, List.forall_mem_cons.mpr ⟨lw_p58, List.forall_mem_cons.mpr ⟨lw_p59, List.forall_mem_cons.mpr ⟨lw_p60, List.forall_mem_cons.mpr ⟨lw_p61, List.forall_mem_cons.mpr ⟨lw_p62, List.forall_mem_cons.mpr ⟨lw_p63, fun _ h => absurd h List.not_mem_nil⟩⟩⟩⟩⟩⟩⟩⟩⟩⟩⟩⟩⟩⟩⟩⟩
theorem lw_p64 : lw_okq (⟨"BelievedByYardModel", "tellsOf", "(I)I"⟩, 28) := ⟨⟨by decide +kernel, by decide +kernel⟩, List.mem_of_getElem? (i := 838) (by decide +kernel), List.mem_of_getElem? (i := 1309) (by decide +kernel), List.mem_of_getElem? (i := 1310) (by decide +kernel)⟩
theorem lw_p65 : lw_okq (⟨"BelievedByYardModel", "plainTells", "(I)I"⟩, 28) := ⟨⟨by decide +kernel, by decide +kernel⟩, List.mem_of_getElem? (i := 838) (by decide +kernel), List.mem_of_getElem? (i := 1313) (by decide +kernel), List.mem_of_getElem? (i := 1314) (by decide +kernel)⟩
theorem lw_p66 : lw_okq (⟨"BelievedByYardModel", "sumOf", "(I)I"⟩, 28) := ⟨⟨by decide +kernel, by decide +kernel⟩, List.mem_of_getElem? (i := 838) (by decide +kernel), List.mem_of_getElem? (i := 1364) (by decide +kernel), List.mem_of_getElem? (i := 1365) (by decide +kernel)⟩
def lw_privs_5 : List (MethodName × Nat) := [(⟨"BelievedByYardModel", "tellsOf", "(I)I"⟩, 28), (⟨"BelievedByYardModel", "plainTells", "(I)I"⟩, 28), (⟨"BelievedByYardModel", "sumOf", "(I)I"⟩, 28)]
theorem lw_r5 : ∀ q ∈ lw_privs_5, lw_okq q := List.forall_mem_cons.mpr ⟨lw_p64, List.forall_mem_cons.mpr ⟨lw_p65, List.forall_mem_cons.mpr ⟨lw_p66, fun _ h => absurd h List.not_mem_nil⟩⟩⟩
def lw_privs : List (MethodName × Nat) := lw_privs_1 ++ (lw_privs_2 ++ (lw_privs_3 ++ (lw_privs_4 ++ (lw_privs_5))))
def lw_tbl : List Cond := k2_sels lw_privs ++ tables_1
theorem lw_privs_ok : ∀ q ∈ lw_privs, lw_okq q := by
  show ∀ q ∈ lw_privs_1 ++ (lw_privs_2 ++ (lw_privs_3 ++ (lw_privs_4 ++ (lw_privs_5)))), lw_okq q
  exact List.forall_mem_append.mpr ⟨lw_r1, List.forall_mem_append.mpr ⟨lw_r2, List.forall_mem_append.mpr ⟨lw_r3, List.forall_mem_append.mpr ⟨lw_r4, lw_r5⟩⟩⟩⟩

def RX0 : String := "BelievedByYard$Reader"
def TX0 : u_T := fun k => match k with
  | 0 => ("BelievedByYard$Reader", "code", "LBelievedByYard$Row;", true)
  | 1 => ("BelievedByYard$Reader", "bytes", "LBelievedByYard$Row;", true)
  | 2 => ("BelievedByYard$Reader", "use", "I", false)
  | _ => ("BelievedByYard$Reader", "next", "I", false)
def tyX0 : Nat → FieldType := fun k => match k with
  | 0 => .object "BelievedByYard$Row"
  | 1 => .object "BelievedByYard$Row"
  | 2 => .int
  | _ => .int
abbrev wsX00 : List Cond := u_ws RX0 TX0 4
theorem nmX0 : ∀ a, a < 4 → ∀ b, b < 4 → a ≠ b → (TX0 a).2.1 ≠ (TX0 b).2.1 := by decide +kernel
theorem tyX0_ok : ∀ k, k < 4 → parseFieldDescriptor (TX0 k).2.2.1 = some (tyX0 k) := by decide +kernel
abbrev cX0_init : ByteArray := prog_2_method_1_code
def yX0_init : MethodName := ⟨RX0, "<init>", "()V"⟩
abbrev cX0_reads : ByteArray := prog_2_method_2_code
def yX0_reads : MethodName := ⟨RX0, "reads", "(LBelievedByYard$Row;I)Z"⟩
abbrev cX0_readJoined : ByteArray := prog_2_method_3_code
def yX0_readJoined : MethodName := ⟨RX0, "readJoined", "(II)Z"⟩
abbrev cX0_readSingle : ByteArray := prog_2_method_4_code
def yX0_readSingle : MethodName := ⟨RX0, "readSingle", "(I)Z"⟩
abbrev cX0_readTurned : ByteArray := prog_2_method_5_code
def yX0_readTurned : MethodName := ⟨RX0, "readTurned", "(I)Z"⟩
abbrev cX0_readClosed : ByteArray := prog_2_method_6_code
def yX0_readClosed : MethodName := ⟨RX0, "readClosed", "(I)Z"⟩
abbrev cX0_readNumber : ByteArray := prog_2_method_7_code
def yX0_readNumber : MethodName := ⟨RX0, "readNumber", "()Z"⟩
abbrev cX0_peek : ByteArray := prog_2_method_8_code
def yX0_peek : MethodName := ⟨RX0, "peek", "()I"⟩
abbrev cX0_nameOf : ByteArray := prog_2_method_9_code
def yX0_nameOf : MethodName := ⟨RX0, "nameOf", "(I)I"⟩
abbrev cX0_isName : ByteArray := prog_2_method_10_code
def yX0_isName : MethodName := ⟨RX0, "isName", "(II)Z"⟩
abbrev cX0_isDigit : ByteArray := prog_2_method_11_code
def yX0_isDigit : MethodName := ⟨RX0, "isDigit", "(I)Z"⟩
abbrev cX0_levelOf : ByteArray := prog_2_method_12_code
def yX0_levelOf : MethodName := ⟨RX0, "levelOf", "(I)I"⟩
def RX1 : String := "BelievedByYard$Row"
def TX1 : u_T := fun k => match k with
  | 0 => ("BelievedByYard$Row", "numbers", "[I", true)
  | _ => ("BelievedByYard$Row", "size", "I", false)
def tyX1 : Nat → FieldType := fun k => match k with
  | 0 => .array .int
  | _ => .int
abbrev wsX10 : List Cond := u_ws RX1 TX1 2
theorem nmX1 : ∀ a, a < 2 → ∀ b, b < 2 → a ≠ b → (TX1 a).2.1 ≠ (TX1 b).2.1 := by decide +kernel
theorem tyX1_ok : ∀ k, k < 2 → parseFieldDescriptor (TX1 k).2.2.1 = some (tyX1 k) := by decide +kernel
abbrev cX1_init : ByteArray := prog_3_method_1_code
def yX1_init : MethodName := ⟨RX1, "<init>", "(I)V"⟩
abbrev cX1_add : ByteArray := prog_3_method_2_code
def yX1_add : MethodName := ⟨RX1, "add", "(I)Z"⟩
abbrev cX1_has : ByteArray := prog_3_method_3_code
def yX1_has : MethodName := ⟨RX1, "has", "(I)Z"⟩
abbrev cX1_numberAt : ByteArray := prog_3_method_4_code
def yX1_numberAt : MethodName := ⟨RX1, "numberAt", "(I)I"⟩
abbrev cX1_clear : ByteArray := prog_3_method_5_code
def yX1_clear : MethodName := ⟨RX1, "clear", "()V"⟩
abbrev cX1_take : ByteArray := prog_3_method_6_code
def yX1_take : MethodName := ⟨RX1, "take", "(LBelievedByYard$Row;)V"⟩
def RX2 : String := "BelievedByYard$Sheet"
def TX2 : u_T := fun k => match k with
  | 0 => ("BelievedByYard$Sheet", "numbers", "[I", true)
  | 1 => ("BelievedByYard$Sheet", "size", "I", false)
  | _ => ("BelievedByYard$Sheet", "bits", "I", false)
def tyX2 : Nat → FieldType := fun k => match k with
  | 0 => .array .int
  | 1 => .int
  | _ => .int
abbrev wsX20 : List Cond := u_ws RX2 TX2 3
theorem nmX2 : ∀ a, a < 3 → ∀ b, b < 3 → a ≠ b → (TX2 a).2.1 ≠ (TX2 b).2.1 := by decide +kernel
theorem tyX2_ok : ∀ k, k < 3 → parseFieldDescriptor (TX2 k).2.2.1 = some (tyX2 k) := by decide +kernel
abbrev cX2_init : ByteArray := prog_4_method_1_code
def yX2_init : MethodName := ⟨RX2, "<init>", "()V"⟩
abbrev cX2_isMissing : ByteArray := prog_4_method_2_code
def yX2_isMissing : MethodName := ⟨RX2, "isMissing", "()Z"⟩
abbrev cX2_renew : ByteArray := prog_4_method_3_code
def yX2_renew : MethodName := ⟨RX2, "renew", "(II)V"⟩
abbrev cX2_has : ByteArray := prog_4_method_4_code
def yX2_has : MethodName := ⟨RX2, "has", "(I)Z"⟩
abbrev cX2_hasRun : ByteArray := prog_4_method_5_code
def yX2_hasRun : MethodName := ⟨RX2, "hasRun", "(II)Z"⟩
abbrev cX2_numberAt : ByteArray := prog_4_method_6_code
def yX2_numberAt : MethodName := ⟨RX2, "numberAt", "(I)I"⟩
abbrev cX2_setNumber : ByteArray := prog_4_method_7_code
def yX2_setNumber : MethodName := ⟨RX2, "setNumber", "(II)V"⟩
def RX3 : String := "BelievedByYard$Tale"
def TX3 : u_T := fun k => match k with
  | 0 => ("BelievedByYard$Tale", "kind", "I", false)
  | 1 => ("BelievedByYard$Tale", "m", "I", false)
  | 2 => ("BelievedByYard$Tale", "marks", "I", false)
  | 3 => ("BelievedByYard$Tale", "yards", "I", false)
  | 4 => ("BelievedByYard$Tale", "at", "I", false)
  | _ => ("BelievedByYard$Tale", "costs", "I", false)
def tyX3 : Nat → FieldType := fun k => match k with
  | 0 => .int
  | 1 => .int
  | 2 => .int
  | 3 => .int
  | 4 => .int
  | _ => .int
abbrev wsX30 : List Cond := u_ws RX3 TX3 6
theorem nmX3 : ∀ a, a < 6 → ∀ b, b < 6 → a ≠ b → (TX3 a).2.1 ≠ (TX3 b).2.1 := by decide +kernel
theorem tyX3_ok : ∀ k, k < 6 → parseFieldDescriptor (TX3 k).2.2.1 = some (tyX3 k) := by decide +kernel
abbrev cX3_init : ByteArray := prog_5_method_1_code
def yX3_init : MethodName := ⟨RX3, "<init>", "()V"⟩
abbrev cX3_setKind : ByteArray := prog_5_method_2_code
def yX3_setKind : MethodName := ⟨RX3, "setKind", "(I)V"⟩
abbrev cX3_part : ByteArray := prog_5_method_3_code
def yX3_part : MethodName := ⟨RX3, "part", "(I)I"⟩
abbrev cX3_setPart : ByteArray := prog_5_method_4_code
def yX3_setPart : MethodName := ⟨RX3, "setPart", "(II)V"⟩
abbrev cX3_take : ByteArray := prog_5_method_5_code
def yX3_take : MethodName := ⟨RX3, "take", "(LBelievedByYard$Tale;)V"⟩
abbrev cX3_walks : ByteArray := prog_5_method_6_code
def yX3_walks : MethodName := ⟨RX3, "walks", "(I)I"⟩
abbrev cX3_grown : ByteArray := prog_5_method_7_code
def yX3_grown : MethodName := ⟨RX3, "grown", "(III)I"⟩
def RX4 : String := "BelievedByYard$Text"
def TX4 : u_T := fun k => match k with
  | 0 => ("BelievedByYard$Text", "code", "LBelievedByYard$Row;", true)
  | _ => ("BelievedByYard$Text", "stack", "[I", true)
def tyX4 : Nat → FieldType := fun k => match k with
  | 0 => .object "BelievedByYard$Row"
  | _ => .array .int
abbrev wsX40 : List Cond := u_ws RX4 TX4 2
theorem nmX4 : ∀ a, a < 2 → ∀ b, b < 2 → a ≠ b → (TX4 a).2.1 ≠ (TX4 b).2.1 := by decide +kernel
theorem tyX4_ok : ∀ k, k < 2 → parseFieldDescriptor (TX4 k).2.2.1 = some (tyX4 k) := by decide +kernel
abbrev cX4_init : ByteArray := prog_6_method_1_code
def yX4_init : MethodName := ⟨RX4, "<init>", "()V"⟩
abbrev cX4_isMissing : ByteArray := prog_6_method_2_code
def yX4_isMissing : MethodName := ⟨RX4, "isMissing", "()Z"⟩
abbrev cX4_take : ByteArray := prog_6_method_3_code
def yX4_take : MethodName := ⟨RX4, "take", "(LBelievedByYard$Row;)V"⟩
abbrev cX4_value : ByteArray := prog_6_method_4_code
def yX4_value : MethodName := ⟨RX4, "value", "(III)I"⟩
abbrev cX4_named : ByteArray := prog_6_method_5_code
def yX4_named : MethodName := ⟨RX4, "named", "(IIII)I"⟩
abbrev cX4_joined : ByteArray := prog_6_method_6_code
def yX4_joined : MethodName := ⟨RX4, "joined", "(III)I"⟩
def RX5 : String := "BelievedByYard$Thought"
def TX5 : u_T := fun k => match k with
  | 0 => ("BelievedByYard$Thought", "world", "LBelievedByYard$World;", true)
  | 1 => ("BelievedByYard$Thought", "prices", "[I", true)
  | 2 => ("BelievedByYard$Thought", "seenMarks", "[I", true)
  | 3 => ("BelievedByYard$Thought", "steps", "I", false)
  | 4 => ("BelievedByYard$Thought", "first", "I", false)
  | 5 => ("BelievedByYard$Thought", "marksThen", "I", false)
  | _ => ("BelievedByYard$Thought", "leastEnd", "I", false)
def tyX5 : Nat → FieldType := fun k => match k with
  | 0 => .object "BelievedByYard$World"
  | 1 => .array .int
  | 2 => .array .int
  | 3 => .int
  | 4 => .int
  | 5 => .int
  | _ => .int
abbrev wsX50 : List Cond := u_ws RX5 TX5 7
theorem nmX5 : ∀ a, a < 7 → ∀ b, b < 7 → a ≠ b → (TX5 a).2.1 ≠ (TX5 b).2.1 := by decide +kernel
theorem tyX5_ok : ∀ k, k < 7 → parseFieldDescriptor (TX5 k).2.2.1 = some (tyX5 k) := by decide +kernel
abbrev cX5_init : ByteArray := prog_7_method_1_code
def yX5_init : MethodName := ⟨RX5, "<init>", "(LBelievedByYard$World;)V"⟩
abbrev cX5_reaches : ByteArray := prog_7_method_2_code
def yX5_reaches : MethodName := ⟨RX5, "reaches", "(LBelievedByYard$Tale;I)Z"⟩
abbrev cX5_arrives : ByteArray := prog_7_method_3_code
def yX5_arrives : MethodName := ⟨RX5, "arrives", "(LBelievedByYard$Tale;IIIII)Z"⟩
abbrev cX5_isEnough : ByteArray := prog_7_method_4_code
def yX5_isEnough : MethodName := ⟨RX5, "isEnough", "(III)Z"⟩
abbrev cX5_comesRound : ByteArray := prog_7_method_5_code
def yX5_comesRound : MethodName := ⟨RX5, "comesRound", "(LBelievedByYard$Tale;)Z"⟩
abbrev cX5_returns : ByteArray := prog_7_method_6_code
def yX5_returns : MethodName := ⟨RX5, "returns", "(LBelievedByYard$Tale;III)Z"⟩
abbrev cX5_cheapest : ByteArray := prog_7_method_7_code
def yX5_cheapest : MethodName := ⟨RX5, "cheapest", "(II)I"⟩
abbrev cX5_lowerPricesFrom : ByteArray := prog_7_method_8_code
def yX5_lowerPricesFrom : MethodName := ⟨RX5, "lowerPricesFrom", "(I)V"⟩
abbrev cX5_placesBehind : ByteArray := prog_7_method_9_code
def yX5_placesBehind : MethodName := ⟨RX5, "placesBehind", "(II)I"⟩
abbrev cX5_placesNextTo : ByteArray := prog_7_method_10_code
def yX5_placesNextTo : MethodName := ⟨RX5, "placesNextTo", "(I)I"⟩
abbrev cX5_unlikeMarks : ByteArray := prog_7_method_11_code
def yX5_unlikeMarks : MethodName := ⟨RX5, "unlikeMarks", "(LBelievedByYard$Tale;I)I"⟩
abbrev cX5_seeMarks : ByteArray := prog_7_method_12_code
def yX5_seeMarks : MethodName := ⟨RX5, "seeMarks", "(LBelievedByYard$Tale;III)V"⟩
abbrev cX5_rowsBy : ByteArray := prog_7_method_13_code
def yX5_rowsBy : MethodName := ⟨RX5, "rowsBy", "(LBelievedByYard$Sheet;LBelievedByYard$Tale;)I"⟩
abbrev cX5_rowsOn : ByteArray := prog_7_method_14_code
def yX5_rowsOn : MethodName := ⟨RX5, "rowsOn", "(LBelievedByYard$Sheet;LBelievedByYard$Tale;III)I"⟩
def RX6 : String := "BelievedByYard$Voices"
def TX6 : u_T := fun k => match k with
  | 0 => ("BelievedByYard$Voices", "bodies", "LBelievedByYard$Row;", true)
  | 1 => ("BelievedByYard$Voices", "kind", "I", false)
  | 2 => ("BelievedByYard$Voices", "m", "I", false)
  | _ => ("BelievedByYard$Voices", "n", "I", false)
def tyX6 : Nat → FieldType := fun k => match k with
  | 0 => .object "BelievedByYard$Row"
  | 1 => .int
  | 2 => .int
  | _ => .int
abbrev wsX60 : List Cond := u_ws RX6 TX6 4
theorem nmX6 : ∀ a, a < 4 → ∀ b, b < 4 → a ≠ b → (TX6 a).2.1 ≠ (TX6 b).2.1 := by decide +kernel
theorem tyX6_ok : ∀ k, k < 4 → parseFieldDescriptor (TX6 k).2.2.1 = some (tyX6 k) := by decide +kernel
abbrev cX6_init : ByteArray := prog_8_method_1_code
def yX6_init : MethodName := ⟨RX6, "<init>", "()V"⟩
abbrev cX6_hear : ByteArray := prog_8_method_2_code
def yX6_hear : MethodName := ⟨RX6, "hear", "(LBelievedByYard$Tale;III)I"⟩
abbrev cX6_say : ByteArray := prog_8_method_3_code
def yX6_say : MethodName := ⟨RX6, "say", "(IIII)I"⟩
abbrev cX6_run : ByteArray := prog_8_method_4_code
def yX6_run : MethodName := ⟨RX6, "run", "(IIII)I"⟩
abbrev cX6_above : ByteArray := prog_8_method_5_code
def yX6_above : MethodName := ⟨RX6, "above", "(I)I"⟩
abbrev cX6_bodyOf : ByteArray := prog_8_method_6_code
def yX6_bodyOf : MethodName := ⟨RX6, "bodyOf", "(II)I"⟩
def RX7 : String := "BelievedByYard$World"
def TX7 : u_T := fun k => match k with
  | 0 => ("BelievedByYard$World", "doubts", "[I", true)
  | 1 => ("BelievedByYard$World", "yards", "[I", true)
  | 2 => ("BelievedByYard$World", "tolls", "[I", true)
  | 3 => ("BelievedByYard$World", "tales", "[LBelievedByYard$Tale;", true)
  | 4 => ("BelievedByYard$World", "growing", "LBelievedByYard$Text;", true)
  | 5 => ("BelievedByYard$World", "sounding", "LBelievedByYard$Text;", true)
  | 6 => ("BelievedByYard$World", "tape", "LBelievedByYard$Row;", true)
  | 7 => ("BelievedByYard$World", "waiting", "LBelievedByYard$Row;", true)
  | 8 => ("BelievedByYard$World", "places", "I", false)
  | 9 => ("BelievedByYard$World", "taleCount", "I", false)
  | 10 => ("BelievedByYard$World", "step", "I", false)
  | _ => ("BelievedByYard$World", "z", "I", false)
def tyX7 : Nat → FieldType := fun k => match k with
  | 0 => .array .int
  | 1 => .array .int
  | 2 => .array .int
  | 3 => .array (.object "BelievedByYard$Tale")
  | 4 => .object "BelievedByYard$Text"
  | 5 => .object "BelievedByYard$Text"
  | 6 => .object "BelievedByYard$Row"
  | 7 => .object "BelievedByYard$Row"
  | 8 => .int
  | 9 => .int
  | 10 => .int
  | _ => .int
abbrev wsX70 : List Cond := u_ws RX7 TX7 12
theorem nmX7 : ∀ a, a < 12 → ∀ b, b < 12 → a ≠ b → (TX7 a).2.1 ≠ (TX7 b).2.1 := by decide +kernel
theorem tyX7_ok : ∀ k, k < 12 → parseFieldDescriptor (TX7 k).2.2.1 = some (tyX7 k) := by decide +kernel
abbrev cX7_init : ByteArray := prog_9_method_1_code
def yX7_init : MethodName := ⟨RX7, "<init>", "()V"⟩
abbrev cX7_take : ByteArray := prog_9_method_2_code
def yX7_take : MethodName := ⟨RX7, "take", "(LBelievedByYard$World;)V"⟩
abbrev cX7_hasPlace : ByteArray := prog_9_method_3_code
def yX7_hasPlace : MethodName := ⟨RX7, "hasPlace", "(I)Z"⟩
abbrev cX7_taleOf : ByteArray := prog_9_method_4_code
def yX7_taleOf : MethodName := ⟨RX7, "taleOf", "(I)LBelievedByYard$Tale;"⟩
abbrev cX7_addPlace : ByteArray := prog_9_method_5_code
def yX7_addPlace : MethodName := ⟨RX7, "addPlace", "(I)I"⟩
abbrev cX7_addTale : ByteArray := prog_9_method_6_code
def yX7_addTale : MethodName := ⟨RX7, "addTale", "(III)I"⟩
abbrev cX7_ofRoad : ByteArray := prog_9_method_7_code
def yX7_ofRoad : MethodName := ⟨RX7, "ofRoad", "(III)I"⟩
abbrev cX7_hasRoad : ByteArray := prog_9_method_8_code
def yX7_hasRoad : MethodName := ⟨RX7, "hasRoad", "(II)Z"⟩
abbrev cX7_setRoad : ByteArray := prog_9_method_9_code
def yX7_setRoad : MethodName := ⟨RX7, "setRoad", "(IIII)V"⟩
abbrev cX7_textOf : ByteArray := prog_9_method_10_code
def yX7_textOf : MethodName := ⟨RX7, "textOf", "(I)LBelievedByYard$Text;"⟩
abbrev cX7_gives : ByteArray := prog_9_method_11_code
def yX7_gives : MethodName := ⟨RX7, "gives", "(IIII)I"⟩
abbrev cX7_marksBehind : ByteArray := prog_9_method_12_code
def yX7_marksBehind : MethodName := ⟨RX7, "marksBehind", "(LBelievedByYard$Tale;III)I"⟩
abbrev cX7_believes : ByteArray := prog_9_method_13_code
def yX7_believes : MethodName := ⟨RX7, "believes", "(IIII)Z"⟩
abbrev cX7_isBelievedAt : ByteArray := prog_9_method_14_code
def yX7_isBelievedAt : MethodName := ⟨RX7, "isBelievedAt", "(LBelievedByYard$Tale;I)Z"⟩
abbrev cX7_isBelieved : ByteArray := prog_9_method_15_code
def yX7_isBelieved : MethodName := ⟨RX7, "isBelieved", "(LBelievedByYard$Tale;)Z"⟩
abbrev cX7_walk : ByteArray := prog_9_method_16_code
def yX7_walk : MethodName := ⟨RX7, "walk", "(LBelievedByYard$Tale;I)V"⟩
abbrev cX7_stepByDraws : ByteArray := prog_9_method_17_code
def yX7_stepByDraws : MethodName := ⟨RX7, "stepByDraws", "()Z"⟩
abbrev cX7_draw : ByteArray := prog_9_method_18_code
def yX7_draw : MethodName := ⟨RX7, "draw", "()I"⟩
abbrev cX7_talesAt : ByteArray := prog_9_method_19_code
def yX7_talesAt : MethodName := ⟨RX7, "talesAt", "(I)I"⟩
abbrev cX7_fame : ByteArray := prog_9_method_20_code
def yX7_fame : MethodName := ⟨RX7, "fame", "(I)I"⟩
abbrev cX7_believedInAll : ByteArray := prog_9_method_21_code
def yX7_believedInAll : MethodName := ⟨RX7, "believedInAll", "()I"⟩
abbrev cX7_believedWereAllAt : ByteArray := prog_9_method_22_code
def yX7_believedWereAllAt : MethodName := ⟨RX7, "believedWereAllAt", "(I)I"⟩
abbrev cX7_placesThatBelieve : ByteArray := prog_9_method_23_code
def yX7_placesThatBelieve : MethodName := ⟨RX7, "placesThatBelieve", "(LBelievedByYard$Tale;)I"⟩
abbrev cX7_yardsLate : ByteArray := prog_9_method_24_code
def yX7_yardsLate : MethodName := ⟨RX7, "yardsLate", "(LBelievedByYard$Tale;)I"⟩
abbrev cX7_talesLike : ByteArray := prog_9_method_25_code
def yX7_talesLike : MethodName := ⟨RX7, "talesLike", "(I)I"⟩
abbrev cX7_sumOf : ByteArray := prog_9_method_26_code
def yX7_sumOf : MethodName := ⟨RX7, "sumOf", "(I)I"⟩
abbrev cX7_takeMarks : ByteArray := prog_9_method_27_code
def yX7_takeMarks : MethodName := ⟨RX7, "takeMarks", "(LBelievedByYard$Sheet;)I"⟩
abbrev cX7_firstOtherYards : ByteArray := prog_9_method_28_code
def yX7_firstOtherYards : MethodName := ⟨RX7, "firstOtherYards", "(LBelievedByYard$Sheet;)I"⟩
abbrev cX7_firstOtherLate : ByteArray := prog_9_method_29_code
def yX7_firstOtherLate : MethodName := ⟨RX7, "firstOtherLate", "()I"⟩
def RX8 : String := "BelievedByYard"
def TX8 : u_T := fun k => match k with
  | 0 => ("BelievedByYard", "now", "LBelievedByYard$World;", true)
  | 1 => ("BelievedByYard", "kept", "LBelievedByYard$World;", true)
  | 2 => ("BelievedByYard", "thought", "LBelievedByYard$Thought;", true)
  | 3 => ("BelievedByYard", "reader", "LBelievedByYard$Reader;", true)
  | 4 => ("BelievedByYard", "voices", "LBelievedByYard$Voices;", true)
  | 5 => ("BelievedByYard", "sheets", "[LBelievedByYard$Sheet;", true)
  | 6 => ("BelievedByYard", "errors", "[I", true)
  | _ => ("BelievedByYard", "images", "I", false)
def tyX8 : Nat → FieldType := fun k => match k with
  | 0 => .object "BelievedByYard$World"
  | 1 => .object "BelievedByYard$World"
  | 2 => .object "BelievedByYard$Thought"
  | 3 => .object "BelievedByYard$Reader"
  | 4 => .object "BelievedByYard$Voices"
  | 5 => .array (.object "BelievedByYard$Sheet")
  | 6 => .array .int
  | _ => .int
abbrev wsX80 : List Cond := u_ws RX8 TX8 8
theorem nmX8 : ∀ a, a < 8 → ∀ b, b < 8 → a ≠ b → (TX8 a).2.1 ≠ (TX8 b).2.1 := by decide +kernel
theorem tyX8_ok : ∀ k, k < 8 → parseFieldDescriptor (TX8 k).2.2.1 = some (tyX8 k) := by decide +kernel
abbrev cX8_init : ByteArray := prog_1_method_1_code
def yX8_init : MethodName := ⟨RX8, "<init>", "()V"⟩
abbrev cX8_place : ByteArray := prog_1_method_2_code
def yX8_place : MethodName := ⟨RX8, "place", "(I)I"⟩
abbrev cX8_doubt : ByteArray := prog_1_method_3_code
def yX8_doubt : MethodName := ⟨RX8, "doubt", "(II)I"⟩
abbrev cX8_ofPlace : ByteArray := prog_1_method_4_code
def yX8_ofPlace : MethodName := ⟨RX8, "ofPlace", "(II)I"⟩
abbrev cX8_road : ByteArray := prog_1_method_5_code
def yX8_road : MethodName := ⟨RX8, "road", "(IIII)I"⟩
abbrev cX8_between : ByteArray := prog_1_method_6_code
def yX8_between : MethodName := ⟨RX8, "between", "(III)I"⟩
abbrev cX8_tale : ByteArray := prog_1_method_7_code
def yX8_tale : MethodName := ⟨RX8, "tale", "(III)I"⟩
abbrev cX8_ofTale : ByteArray := prog_1_method_8_code
def yX8_ofTale : MethodName := ⟨RX8, "ofTale", "(II)I"⟩
abbrev cX8_change : ByteArray := prog_1_method_9_code
def yX8_change : MethodName := ⟨RX8, "change", "(III)I"⟩
abbrev cX8_become : ByteArray := prog_1_method_10_code
def yX8_become : MethodName := ⟨RX8, "become", "(II)I"⟩
abbrev cX8_as : ByteArray := prog_1_method_11_code
def yX8_as : MethodName := ⟨RX8, "as", "(II)I"⟩
abbrev cX8_feed : ByteArray := prog_1_method_12_code
def yX8_feed : MethodName := ⟨RX8, "feed", "(JI)I"⟩
abbrev cX8_text : ByteArray := prog_1_method_13_code
def yX8_text : MethodName := ⟨RX8, "text", "(I)I"⟩
abbrev cX8_law : ByteArray := prog_1_method_14_code
def yX8_law : MethodName := ⟨RX8, "law", "(IIII)I"⟩
abbrev cX8_go : ByteArray := prog_1_method_15_code
def yX8_go : MethodName := ⟨RX8, "go", "(II)I"⟩
abbrev cX8_loose : ByteArray := prog_1_method_16_code
def yX8_loose : MethodName := ⟨RX8, "loose", "(I)I"⟩
abbrev cX8_reach : ByteArray := prog_1_method_17_code
def yX8_reach : MethodName := ⟨RX8, "reach", "(III)I"⟩
abbrev cX8_cheap : ByteArray := prog_1_method_18_code
def yX8_cheap : MethodName := ⟨RX8, "cheap", "(III)I"⟩
abbrev cX8_can : ByteArray := prog_1_method_19_code
def yX8_can : MethodName := ⟨RX8, "can", "(II)I"⟩
abbrev cX8_marked : ByteArray := prog_1_method_20_code
def yX8_marked : MethodName := ⟨RX8, "marked", "(II)I"⟩
abbrev cX8_from : ByteArray := prog_1_method_21_code
def yX8_from : MethodName := ⟨RX8, "from", "(III)I"⟩
abbrev cX8_best : ByteArray := prog_1_method_22_code
def yX8_best : MethodName := ⟨RX8, "best", "(I)I"⟩
abbrev cX8_late : ByteArray := prog_1_method_23_code
def yX8_late : MethodName := ⟨RX8, "late", "(I)I"⟩
abbrev cX8_round : ByteArray := prog_1_method_24_code
def yX8_round : MethodName := ⟨RX8, "round", "(I)I"⟩
abbrev cX8_own : ByteArray := prog_1_method_25_code
def yX8_own : MethodName := ⟨RX8, "own", "(I)I"⟩
abbrev cX8_odds : ByteArray := prog_1_method_26_code
def yX8_odds : MethodName := ⟨RX8, "odds", "(II)I"⟩
abbrev cX8_seed : ByteArray := prog_1_method_27_code
def yX8_seed : MethodName := ⟨RX8, "seed", "(I)I"⟩
abbrev cX8_voice : ByteArray := prog_1_method_28_code
def yX8_voice : MethodName := ⟨RX8, "voice", "(III)I"⟩
abbrev cX8_trace : ByteArray := prog_1_method_29_code
def yX8_trace : MethodName := ⟨RX8, "trace", "(I)I"⟩
abbrev cX8_sheet : ByteArray := prog_1_method_30_code
def yX8_sheet : MethodName := ⟨RX8, "sheet", "(III)I"⟩
abbrev cX8_put : ByteArray := prog_1_method_31_code
def yX8_put : MethodName := ⟨RX8, "put", "(III)I"⟩
abbrev cX8_move : ByteArray := prog_1_method_32_code
def yX8_move : MethodName := ⟨RX8, "move", "(IIIII)I"⟩
abbrev cX8_marks : ByteArray := prog_1_method_33_code
def yX8_marks : MethodName := ⟨RX8, "marks", "(I)I"⟩
abbrev cX8_judge : ByteArray := prog_1_method_34_code
def yX8_judge : MethodName := ⟨RX8, "judge", "(I)I"⟩
abbrev cX8_image : ByteArray := prog_1_method_35_code
def yX8_image : MethodName := ⟨RX8, "image", "()I"⟩
abbrev cX8_restore : ByteArray := prog_1_method_36_code
def yX8_restore : MethodName := ⟨RX8, "restore", "()I"⟩
abbrev cX8_tell : ByteArray := prog_1_method_37_code
def yX8_tell : MethodName := ⟨RX8, "tell", "(I)I"⟩
abbrev cX8_check : ByteArray := prog_1_method_38_code
def yX8_check : MethodName := ⟨RX8, "check", "()I"⟩
abbrev cX8_count : ByteArray := prog_1_method_39_code
def yX8_count : MethodName := ⟨RX8, "count", "(I)I"⟩
abbrev cX8_told : ByteArray := prog_1_method_40_code
def yX8_told : MethodName := ⟨RX8, "told", "(I)I"⟩
abbrev cX8_fail : ByteArray := prog_1_method_41_code
def yX8_fail : MethodName := ⟨RX8, "fail", "(I)I"⟩
abbrev cX8_sheetOf : ByteArray := prog_1_method_42_code
def yX8_sheetOf : MethodName := ⟨RX8, "sheetOf", "(I)LBelievedByYard$Sheet;"⟩
abbrev cX8_isPair : ByteArray := prog_1_method_43_code
def yX8_isPair : MethodName := ⟨RX8, "isPair", "(II)Z"⟩
abbrev cX8_isPart : ByteArray := prog_1_method_44_code
def yX8_isPart : MethodName := ⟨RX8, "isPart", "(II)Z"⟩
abbrev cX8_isWithin : ByteArray := prog_1_method_45_code
def yX8_isWithin : MethodName := ⟨RX8, "isWithin", "(II)Z"⟩
abbrev cX8_asNumber : ByteArray := prog_1_method_46_code
def yX8_asNumber : MethodName := ⟨RX8, "asNumber", "(Z)I"⟩
abbrev cX8_isUnder : ByteArray := prog_1_method_47_code
def yX8_isUnder : MethodName := ⟨RX8, "isUnder", "(II)Z"⟩
abbrev cX8_commonDivisor : ByteArray := prog_1_method_48_code
def yX8_commonDivisor : MethodName := ⟨RX8, "commonDivisor", "(II)I"⟩
def RX9 : String := "BelievedByYardModel"
def TX9 : u_T := fun k => match k with
  | 0 => ("BelievedByYardModel", "now", "[I", true)
  | 1 => ("BelievedByYardModel", "kept", "[I", true)
  | 2 => ("BelievedByYardModel", "images", "I", false)
  | 3 => ("BelievedByYardModel", "errors", "[I", true)
  | 4 => ("BelievedByYardModel", "NAMED", "[Ljava/lang/String;", true)
  | 5 => ("BelievedByYardModel", "at", "I", false)
  | 6 => ("BelievedByYardModel", "open", "I", false)
  | 7 => ("BelievedByYardModel", "use", "I", false)
  | 8 => ("BelievedByYardModel", "isWrong", "Z", false)
  | 9 => ("BelievedByYardModel", "code", "[I", true)
  | 10 => ("BelievedByYardModel", "coded", "I", false)
  | 11 => ("BelievedByYardModel", "named", "[I", true)
  | 12 => ("BelievedByYardModel", "pile", "[I", true)
  | 13 => ("BelievedByYardModel", "rowFirst", "I", false)
  | 14 => ("BelievedByYardModel", "rowMarks", "I", false)
  | 15 => ("BelievedByYardModel", "cheapTolls", "I", false)
  | 16 => ("BelievedByYardModel", "cheapYards", "I", false)
  | 17 => ("BelievedByYardModel", "hasMarks", "[Z", true)
  | 18 => ("BelievedByYardModel", "ends", "I", false)
  | 19 => ("BelievedByYardModel", "trace", "[I", true)
  | 20 => ("BelievedByYardModel", "traced", "I", false)
  | 21 => ("BelievedByYardModel", "kind", "I", false)
  | 22 => ("BelievedByYardModel", "number", "I", false)
  | 23 => ("BelievedByYardModel", "told", "I", false)
  | 24 => ("BelievedByYardModel", "widths", "[I", true)
  | 25 => ("BelievedByYardModel", "sizes", "[I", true)
  | 26 => ("BelievedByYardModel", "numbers", "[I", true)
  | _ => ("BelievedByYardModel", "carried", "[I", true)
def tyX9 : Nat → FieldType := fun k => match k with
  | 0 => .array .int
  | 1 => .array .int
  | 2 => .int
  | 3 => .array .int
  | 4 => .array (.object "java/lang/String")
  | 5 => .int
  | 6 => .int
  | 7 => .int
  | 8 => .boolean
  | 9 => .array .int
  | 10 => .int
  | 11 => .array .int
  | 12 => .array .int
  | 13 => .int
  | 14 => .int
  | 15 => .int
  | 16 => .int
  | 17 => .array .boolean
  | 18 => .int
  | 19 => .array .int
  | 20 => .int
  | 21 => .int
  | 22 => .int
  | 23 => .int
  | 24 => .array .int
  | 25 => .array .int
  | 26 => .array .int
  | _ => .array .int
abbrev wsX90 : List Cond := u_ws RX9 TX9 28
theorem nmX9 : ∀ a, a < 28 → ∀ b, b < 28 → a ≠ b → (TX9 a).2.1 ≠ (TX9 b).2.1 := by decide +kernel
theorem tyX9_ok : ∀ k, k < 28 → parseFieldDescriptor (TX9 k).2.2.1 = some (tyX9 k) := by decide +kernel
abbrev cX9_init : ByteArray := prog_11_method_1_code
def yX9_init : MethodName := ⟨RX9, "<init>", "()V"⟩
abbrev cX9_finding : ByteArray := prog_11_method_2_code
def yX9_finding : MethodName := ⟨RX9, "finding", "(I)I"⟩
abbrev cX9_within : ByteArray := prog_11_method_3_code
def yX9_within : MethodName := ⟨RX9, "within", "(III)Z"⟩
abbrev cX9_held : ByteArray := prog_11_method_4_code
def yX9_held : MethodName := ⟨RX9, "held", "(III)I"⟩
abbrev cX9_copy : ByteArray := prog_11_method_5_code
def yX9_copy : MethodName := ⟨RX9, "copy", "([I[I)V"⟩
abbrev cX9_turn : ByteArray := prog_11_method_6_code
def yX9_turn : MethodName := ⟨RX9, "turn", "(II)I"⟩
abbrev cX9_feed : ByteArray := prog_11_method_7_code
def yX9_feed : MethodName := ⟨RX9, "feed", "(JI)I"⟩
abbrev cX9_here : ByteArray := prog_11_method_8_code
def yX9_here : MethodName := ⟨RX9, "here", "()I"⟩
abbrev cX9_takes : ByteArray := prog_11_method_9_code
def yX9_takes : MethodName := ⟨RX9, "takes", "(I)Z"⟩
abbrev cX9_codes : ByteArray := prog_11_method_10_code
def yX9_codes : MethodName := ⟨RX9, "codes", "(I)V"⟩
abbrev cX9_either : ByteArray := prog_11_method_11_code
def yX9_either : MethodName := ⟨RX9, "either", "()V"⟩
abbrev cX9_both : ByteArray := prog_11_method_12_code
def yX9_both : MethodName := ⟨RX9, "both", "()V"⟩
abbrev cX9_compared : ByteArray := prog_11_method_13_code
def yX9_compared : MethodName := ⟨RX9, "compared", "()V"⟩
abbrev cX9_sum : ByteArray := prog_11_method_14_code
def yX9_sum : MethodName := ⟨RX9, "sum", "()V"⟩
abbrev cX9_product : ByteArray := prog_11_method_15_code
def yX9_product : MethodName := ⟨RX9, "product", "()V"⟩
abbrev cX9_nameOf : ByteArray := prog_11_method_16_code
def yX9_nameOf : MethodName := ⟨RX9, "nameOf", "(I)I"⟩
abbrev cX9_one : ByteArray := prog_11_method_17_code
def yX9_one : MethodName := ⟨RX9, "one", "()V"⟩
abbrev cX9_text : ByteArray := prog_11_method_18_code
def yX9_text : MethodName := ⟨RX9, "text", "(I)I"⟩
abbrev cX9_done : ByteArray := prog_11_method_19_code
def yX9_done : MethodName := ⟨RX9, "done", "(III)I"⟩
abbrev cX9_worked : ByteArray := prog_11_method_20_code
def yX9_worked : MethodName := ⟨RX9, "worked", "(I)I"⟩
abbrev cX9_hasText : ByteArray := prog_11_method_21_code
def yX9_hasText : MethodName := ⟨RX9, "hasText", "(I)Z"⟩
abbrev cX9_given : ByteArray := prog_11_method_22_code
def yX9_given : MethodName := ⟨RX9, "given", "(IIII)I"⟩
abbrev cX9_law : ByteArray := prog_11_method_23_code
def yX9_law : MethodName := ⟨RX9, "law", "(IIII)I"⟩
abbrev cX9_hasBit : ByteArray := prog_11_method_24_code
def yX9_hasBit : MethodName := ⟨RX9, "hasBit", "(II)Z"⟩
abbrev cX9_bits : ByteArray := prog_11_method_25_code
def yX9_bits : MethodName := ⟨RX9, "bits", "(I)I"⟩
abbrev cX9_isPlace : ByteArray := prog_11_method_26_code
def yX9_isPlace : MethodName := ⟨RX9, "isPlace", "(I)Z"⟩
abbrev cX9_isTale : ByteArray := prog_11_method_27_code
def yX9_isTale : MethodName := ⟨RX9, "isTale", "(I)Z"⟩
abbrev cX9_isFar : ByteArray := prog_11_method_28_code
def yX9_isFar : MethodName := ⟨RX9, "isFar", "(I)Z"⟩
abbrev cX9_place : ByteArray := prog_11_method_29_code
def yX9_place : MethodName := ⟨RX9, "place", "(I)I"⟩
abbrev cX9_doubt : ByteArray := prog_11_method_30_code
def yX9_doubt : MethodName := ⟨RX9, "doubt", "(II)I"⟩
abbrev cX9_yardsOf : ByteArray := prog_11_method_31_code
def yX9_yardsOf : MethodName := ⟨RX9, "yardsOf", "(II)I"⟩
abbrev cX9_tollOf : ByteArray := prog_11_method_32_code
def yX9_tollOf : MethodName := ⟨RX9, "tollOf", "(II)I"⟩
abbrev cX9_areTwo : ByteArray := prog_11_method_33_code
def yX9_areTwo : MethodName := ⟨RX9, "areTwo", "(II)Z"⟩
abbrev cX9_road : ByteArray := prog_11_method_34_code
def yX9_road : MethodName := ⟨RX9, "road", "(IIII)I"⟩
abbrev cX9_between : ByteArray := prog_11_method_35_code
def yX9_between : MethodName := ⟨RX9, "between", "(III)I"⟩
abbrev cX9_taleAt : ByteArray := prog_11_method_36_code
def yX9_taleAt : MethodName := ⟨RX9, "taleAt", "(II)I"⟩
abbrev cX9_taleIs : ByteArray := prog_11_method_37_code
def yX9_taleIs : MethodName := ⟨RX9, "taleIs", "(II)I"⟩
abbrev cX9_isKindM : ByteArray := prog_11_method_38_code
def yX9_isKindM : MethodName := ⟨RX9, "isKindM", "(I)Z"⟩
abbrev cX9_isMarks : ByteArray := prog_11_method_39_code
def yX9_isMarks : MethodName := ⟨RX9, "isMarks", "(I)Z"⟩
abbrev cX9_taleComes : ByteArray := prog_11_method_40_code
def yX9_taleComes : MethodName := ⟨RX9, "taleComes", "(III)I"⟩
abbrev cX9_tale : ByteArray := prog_11_method_41_code
def yX9_tale : MethodName := ⟨RX9, "tale", "(III)I"⟩
abbrev cX9_above : ByteArray := prog_11_method_42_code
def yX9_above : MethodName := ⟨RX9, "above", "(I)I"⟩
abbrev cX9_isUnder : ByteArray := prog_11_method_43_code
def yX9_isUnder : MethodName := ⟨RX9, "isUnder", "(II)Z"⟩
abbrev cX9_growsTo : ByteArray := prog_11_method_44_code
def yX9_growsTo : MethodName := ⟨RX9, "growsTo", "(IIII)I"⟩
abbrev cX9_walked : ByteArray := prog_11_method_45_code
def yX9_walked : MethodName := ⟨RX9, "walked", "(II)I"⟩
abbrev cX9_isBelieved : ByteArray := prog_11_method_46_code
def yX9_isBelieved : MethodName := ⟨RX9, "isBelieved", "(IIII)Z"⟩
abbrev cX9_isNowBelieved : ByteArray := prog_11_method_47_code
def yX9_isNowBelieved : MethodName := ⟨RX9, "isNowBelieved", "(II)Z"⟩
abbrev cX9_atPlace : ByteArray := prog_11_method_48_code
def yX9_atPlace : MethodName := ⟨RX9, "atPlace", "(I)I"⟩
abbrev cX9_believedAt : ByteArray := prog_11_method_49_code
def yX9_believedAt : MethodName := ⟨RX9, "believedAt", "(I)I"⟩
abbrev cX9_fame : ByteArray := prog_11_method_50_code
def yX9_fame : MethodName := ⟨RX9, "fame", "(I)I"⟩
abbrev cX9_ofPlace : ByteArray := prog_11_method_51_code
def yX9_ofPlace : MethodName := ⟨RX9, "ofPlace", "(II)I"⟩
abbrev cX9_ofTale : ByteArray := prog_11_method_52_code
def yX9_ofTale : MethodName := ⟨RX9, "ofTale", "(II)I"⟩
abbrev cX9_change : ByteArray := prog_11_method_53_code
def yX9_change : MethodName := ⟨RX9, "change", "(III)I"⟩
abbrev cX9_become : ByteArray := prog_11_method_54_code
def yX9_become : MethodName := ⟨RX9, "become", "(II)I"⟩
abbrev cX9_as : ByteArray := prog_11_method_55_code
def yX9_as : MethodName := ⟨RX9, "as", "(II)I"⟩
abbrev cX9_hasRoad : ByteArray := prog_11_method_56_code
def yX9_hasRoad : MethodName := ⟨RX9, "hasRoad", "(II)Z"⟩
abbrev cX9_goes : ByteArray := prog_11_method_57_code
def yX9_goes : MethodName := ⟨RX9, "goes", "(II)V"⟩
abbrev cX9_go : ByteArray := prog_11_method_58_code
def yX9_go : MethodName := ⟨RX9, "go", "(II)I"⟩
abbrev cX9_drawn : ByteArray := prog_11_method_59_code
def yX9_drawn : MethodName := ⟨RX9, "drawn", "()I"⟩
abbrev cX9_loose : ByteArray := prog_11_method_60_code
def yX9_loose : MethodName := ⟨RX9, "loose", "(I)I"⟩
abbrev cX9_comesTo : ByteArray := prog_11_method_61_code
def yX9_comesTo : MethodName := ⟨RX9, "comesTo", "(IIIIII)Z"⟩
abbrev cX9_reach : ByteArray := prog_11_method_62_code
def yX9_reach : MethodName := ⟨RX9, "reach", "(III)I"⟩
abbrev cX9_goesOn : ByteArray := prog_11_method_63_code
def yX9_goesOn : MethodName := ⟨RX9, "goesOn", "(IIIII)V"⟩
abbrev cX9_cheap : ByteArray := prog_11_method_64_code
def yX9_cheap : MethodName := ⟨RX9, "cheap", "(III)I"⟩
abbrev cX9_besides : ByteArray := prog_11_method_65_code
def yX9_besides : MethodName := ⟨RX9, "besides", "(I)I"⟩
abbrev cX9_can : ByteArray := prog_11_method_66_code
def yX9_can : MethodName := ⟨RX9, "can", "(II)I"⟩
abbrev cX9_marksBehind : ByteArray := prog_11_method_67_code
def yX9_marksBehind : MethodName := ⟨RX9, "marksBehind", "(IIII)V"⟩
abbrev cX9_marked : ByteArray := prog_11_method_68_code
def yX9_marked : MethodName := ⟨RX9, "marked", "(II)I"⟩
abbrev cX9_rowsSo : ByteArray := prog_11_method_69_code
def yX9_rowsSo : MethodName := ⟨RX9, "rowsSo", "(IIIII)I"⟩
abbrev cX9_from : ByteArray := prog_11_method_70_code
def yX9_from : MethodName := ⟨RX9, "from", "(III)I"⟩
abbrev cX9_best : ByteArray := prog_11_method_71_code
def yX9_best : MethodName := ⟨RX9, "best", "(I)I"⟩
abbrev cX9_lateNow : ByteArray := prog_11_method_72_code
def yX9_lateNow : MethodName := ⟨RX9, "lateNow", "(I)I"⟩
abbrev cX9_late : ByteArray := prog_11_method_73_code
def yX9_late : MethodName := ⟨RX9, "late", "(I)I"⟩
abbrev cX9_comesRound : ByteArray := prog_11_method_74_code
def yX9_comesRound : MethodName := ⟨RX9, "comesRound", "(IIII)Z"⟩
abbrev cX9_round : ByteArray := prog_11_method_75_code
def yX9_round : MethodName := ⟨RX9, "round", "(I)I"⟩
abbrev cX9_own : ByteArray := prog_11_method_76_code
def yX9_own : MethodName := ⟨RX9, "own", "(I)I"⟩
abbrev cX9_odds : ByteArray := prog_11_method_77_code
def yX9_odds : MethodName := ⟨RX9, "odds", "(II)I"⟩
abbrev cX9_seed : ByteArray := prog_11_method_78_code
def yX9_seed : MethodName := ⟨RX9, "seed", "(I)I"⟩
abbrev cX9_ran : ByteArray := prog_11_method_79_code
def yX9_ran : MethodName := ⟨RX9, "ran", "(I)V"⟩
abbrev cX9_walksOf : ByteArray := prog_11_method_80_code
def yX9_walksOf : MethodName := ⟨RX9, "walksOf", "(I)I"⟩
abbrev cX9_growsOf : ByteArray := prog_11_method_81_code
def yX9_growsOf : MethodName := ⟨RX9, "growsOf", "(I)I"⟩
abbrev cX9_limpsOf : ByteArray := prog_11_method_82_code
def yX9_limpsOf : MethodName := ⟨RX9, "limpsOf", "(I)I"⟩
abbrev cX9_plainTells : ByteArray := prog_11_method_83_code
def yX9_plainTells : MethodName := ⟨RX9, "plainTells", "(I)I"⟩
abbrev cX9_tellsOf : ByteArray := prog_11_method_84_code
def yX9_tellsOf : MethodName := ⟨RX9, "tellsOf", "(I)I"⟩
abbrev cX9_voice : ByteArray := prog_11_method_85_code
def yX9_voice : MethodName := ⟨RX9, "voice", "(III)I"⟩
abbrev cX9_trace : ByteArray := prog_11_method_86_code
def yX9_trace : MethodName := ⟨RX9, "trace", "(I)I"⟩
abbrev cX9_isSheet : ByteArray := prog_11_method_87_code
def yX9_isSheet : MethodName := ⟨RX9, "isSheet", "(I)Z"⟩
abbrev cX9_sheet : ByteArray := prog_11_method_88_code
def yX9_sheet : MethodName := ⟨RX9, "sheet", "(III)I"⟩
abbrev cX9_put : ByteArray := prog_11_method_89_code
def yX9_put : MethodName := ⟨RX9, "put", "(III)I"⟩
abbrev cX9_move : ByteArray := prog_11_method_90_code
def yX9_move : MethodName := ⟨RX9, "move", "(IIIII)I"⟩
abbrev cX9_marks : ByteArray := prog_11_method_91_code
def yX9_marks : MethodName := ⟨RX9, "marks", "(I)I"⟩
abbrev cX9_judge : ByteArray := prog_11_method_92_code
def yX9_judge : MethodName := ⟨RX9, "judge", "(I)I"⟩
abbrev cX9_image : ByteArray := prog_11_method_93_code
def yX9_image : MethodName := ⟨RX9, "image", "()I"⟩
abbrev cX9_restore : ByteArray := prog_11_method_94_code
def yX9_restore : MethodName := ⟨RX9, "restore", "()I"⟩
abbrev cX9_tell : ByteArray := prog_11_method_95_code
def yX9_tell : MethodName := ⟨RX9, "tell", "(I)I"⟩
abbrev cX9_check : ByteArray := prog_11_method_96_code
def yX9_check : MethodName := ⟨RX9, "check", "()I"⟩
abbrev cX9_sumOf : ByteArray := prog_11_method_97_code
def yX9_sumOf : MethodName := ⟨RX9, "sumOf", "(I)I"⟩
abbrev cX9_count : ByteArray := prog_11_method_98_code
def yX9_count : MethodName := ⟨RX9, "count", "(I)I"⟩
abbrev cX9_told : ByteArray := prog_11_method_99_code
def yX9_told : MethodName := ⟨RX9, "told", "(I)I"⟩
def RJ6 : String := "java/lang/Integer"
def TJ6 : u_T := fun k => match k with
  | _ => ("", "", "", false)
def tyJ6 : Nat → FieldType := fun k => match k with
  | _ => .int
abbrev wsJ60 : List Cond := u_ws RJ6 TJ6 0
theorem nmJ6 : ∀ a, a < 0 → ∀ b, b < 0 → a ≠ b → (TJ6 a).2.1 ≠ (TJ6 b).2.1 := by decide +kernel
theorem tyJ6_ok : ∀ k, k < 0 → parseFieldDescriptor (TJ6 k).2.2.1 = some (tyJ6 k) := by decide +kernel
abbrev cJ6_bitCount_0f7a4 : ByteArray := prog_12_method_49_code
def yJ6_bitCount_0f7a4 : MethodName := ⟨RJ6, "bitCount", "(I)I"⟩
def RJ9 : String := "java/lang/Math"
def TJ9 : u_T := fun k => match k with
  | _ => ("", "", "", false)
def tyJ9 : Nat → FieldType := fun k => match k with
  | _ => .int
abbrev wsJ90 : List Cond := u_ws RJ9 TJ9 0
theorem nmJ9 : ∀ a, a < 0 → ∀ b, b < 0 → a ≠ b → (TJ9 a).2.1 ≠ (TJ9 b).2.1 := by decide +kernel
theorem tyJ9_ok : ∀ k, k < 0 → parseFieldDescriptor (TJ9 k).2.2.1 = some (tyJ9 k) := by decide +kernel
abbrev cJ9_max_7cf53 : ByteArray := prog_13_method_65_code
def yJ9_max_7cf53 : MethodName := ⟨RJ9, "max", "(II)I"⟩
abbrev cJ9_min_7cf53 : ByteArray := prog_13_method_69_code
def yJ9_min_7cf53 : MethodName := ⟨RJ9, "min", "(II)I"⟩
def RJ0 : String := "java/lang/String"
def TJ0 : u_T := fun k => match k with
  | _ => ("", "", "", false)
def tyJ0 : Nat → FieldType := fun k => match k with
  | _ => .int
abbrev wsJ00 : List Cond := u_ws RJ0 TJ0 0
theorem nmJ0 : ∀ a, a < 0 → ∀ b, b < 0 → a ≠ b → (TJ0 a).2.1 ≠ (TJ0 b).2.1 := by decide +kernel
theorem tyJ0_ok : ∀ k, k < 0 → parseFieldDescriptor (TJ0 k).2.2.1 = some (tyJ0 k) := by decide +kernel
abbrev cJ0_length_8abf5 : ByteArray := prog_14_method_54_code
def yJ0_length_8abf5 : MethodName := ⟨RJ0, "length", "()I"⟩
abbrev cJ0_charAt_5068e : ByteArray := prog_14_method_56_code
def yJ0_charAt_5068e : MethodName := ⟨RJ0, "charAt", "(I)C"⟩
abbrev cJ0_coder_7d493 : ByteArray := prog_14_method_152_code
def yJ0_coder_7d493 : MethodName := ⟨RJ0, "coder", "()B"⟩
abbrev cJ0_isLatin1_aae02 : ByteArray := prog_14_method_154_code
def yJ0_isLatin1_aae02 : MethodName := ⟨RJ0, "isLatin1", "()Z"⟩
abbrev cJ0_checkIndex_df160 : ByteArray := prog_14_method_155_code
def yJ0_checkIndex_df160 : MethodName := ⟨RJ0, "checkIndex", "(II)V"⟩
def RJ1 : String := "java/lang/StringLatin1"
def TJ1 : u_T := fun k => match k with
  | _ => ("", "", "", false)
def tyJ1 : Nat → FieldType := fun k => match k with
  | _ => .int
abbrev wsJ10 : List Cond := u_ws RJ1 TJ1 0
theorem nmJ1 : ∀ a, a < 0 → ∀ b, b < 0 → a ≠ b → (TJ1 a).2.1 ≠ (TJ1 b).2.1 := by decide +kernel
theorem tyJ1_ok : ∀ k, k < 0 → parseFieldDescriptor (TJ1 k).2.2.1 = some (tyJ1 k) := by decide +kernel
abbrev cJ1_charAt_3b067 : ByteArray := prog_15_method_2_code
def yJ1_charAt_3b067 : MethodName := ⟨RJ1, "charAt", "([BI)C"⟩
def RJ2 : String := "java/lang/StringUTF16"
def TJ2 : u_T := fun k => match k with
  | _ => ("", "", "", false)
def tyJ2 : Nat → FieldType := fun k => match k with
  | _ => .int
abbrev wsJ20 : List Cond := u_ws RJ2 TJ2 0
theorem nmJ2 : ∀ a, a < 0 → ∀ b, b < 0 → a ≠ b → (TJ2 a).2.1 ≠ (TJ2 b).2.1 := by decide +kernel
theorem tyJ2_ok : ∀ k, k < 0 → parseFieldDescriptor (TJ2 k).2.2.1 = some (tyJ2 k) := by decide +kernel
abbrev cJ2_getChar_3b067 : ByteArray := prog_16_method_5_code
def yJ2_getChar_3b067 : MethodName := ⟨RJ2, "getChar", "([BI)C"⟩
abbrev cJ2_length_9d52b : ByteArray := prog_16_method_6_code
def yJ2_length_9d52b : MethodName := ⟨RJ2, "length", "([B)I"⟩
abbrev cJ2_charAt_3b067 : ByteArray := prog_16_method_83_code
def yJ2_charAt_3b067 : MethodName := ⟨RJ2, "charAt", "([BI)C"⟩
abbrev cJ2_checkIndex_2214a : ByteArray := prog_16_method_91_code
def yJ2_checkIndex_2214a : MethodName := ⟨RJ2, "checkIndex", "(I[B)V"⟩
def RJ10 : String := "java/lang/System"
def TJ10 : u_T := fun k => match k with
  | _ => ("", "", "", false)
def tyJ10 : Nat → FieldType := fun k => match k with
  | _ => .int
abbrev wsJ100 : List Cond := u_ws RJ10 TJ10 0
theorem nmJ10 : ∀ a, a < 0 → ∀ b, b < 0 → a ≠ b → (TJ10 a).2.1 ≠ (TJ10 b).2.1 := by decide +kernel
theorem tyJ10_ok : ∀ k, k < 0 → parseFieldDescriptor (TJ10 k).2.2.1 = some (tyJ10 k) := by decide +kernel
def RJ3 : String := "jdk/internal/util/Preconditions"
def TJ3 : u_T := fun k => match k with
  | _ => ("", "", "", false)
def tyJ3 : Nat → FieldType := fun k => match k with
  | _ => .int
abbrev wsJ30 : List Cond := u_ws RJ3 TJ3 0
theorem nmJ3 : ∀ a, a < 0 → ∀ b, b < 0 → a ≠ b → (TJ3 a).2.1 ≠ (TJ3 b).2.1 := by decide +kernel
theorem tyJ3_ok : ∀ k, k < 0 → parseFieldDescriptor (TJ3 k).2.2.1 = some (tyJ3 k) := by decide +kernel
abbrev cJ3_checkIndex_8e157 : ByteArray := prog_18_method_11_code
def yJ3_checkIndex_8e157 : MethodName := ⟨RJ3, "checkIndex", "(IILjava/util/function/BiFunction;)I"⟩
def RL : String := "BelievedByYardLaw"
abbrev cL_law : ByteArray := code
def yL_law : MethodName := ⟨RL, "law", "([I)Z"⟩
abbrev vwCl : List vw_C := [(RX0, TX0, 4), (RX1, TX1, 2), (RX2, TX2, 3), (RX3, TX3, 6), (RX4, TX4, 2), (RX5, TX5, 7), (RX6, TX6, 4), (RX7, TX7, 12), (RX8, TX8, 8), (RX9, TX9, 28)]
theorem inX0 : ∀ w ∈ wsX00, w ∈ lw_tbl := by decide +kernel
theorem inX1 : ∀ w ∈ wsX10, w ∈ lw_tbl := by decide +kernel
theorem inX2 : ∀ w ∈ wsX20, w ∈ lw_tbl := by decide +kernel
theorem inX3 : ∀ w ∈ wsX30, w ∈ lw_tbl := by decide +kernel
theorem inX4 : ∀ w ∈ wsX40, w ∈ lw_tbl := by decide +kernel
theorem inX5 : ∀ w ∈ wsX50, w ∈ lw_tbl := by decide +kernel
theorem inX6 : ∀ w ∈ wsX60, w ∈ lw_tbl := by decide +kernel
theorem inX7 : ∀ w ∈ wsX70, w ∈ lw_tbl := by decide +kernel
theorem inX8 : ∀ w ∈ wsX80, w ∈ lw_tbl := by decide +kernel
theorem inX9 : ∀ w ∈ wsX90, w ∈ lw_tbl := by decide +kernel
def gt : List Cond := lw_tbl.filter goodWord
