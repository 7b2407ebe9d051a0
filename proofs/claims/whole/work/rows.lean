section
/-- a private method of a class that the tables say can be made, by its rows of tables_1 -/
def lw_okq (q : MethodName × Nat) : Prop := (q.1.cls ≠ "java/lang/invoke/MethodHandle" ∧ q.1.cls ≠ "java/lang/invoke/VarHandle") ∧ Cond.instantiable q.1.cls q.2 ∈ tables_1 ∧ Cond.privateMethod q.1 ∈ tables_1 ∧ Cond.instanceMethod q.1 ∈ tables_1
theorem lw_p0 : lw_okq (⟨"SeatStraps", "tell", "(I)I"⟩, 8) := ⟨⟨by decide +kernel, by decide +kernel⟩, List.mem_of_getElem? (i := 19) (by decide +kernel), List.mem_of_getElem? (i := 265) (by decide +kernel), List.mem_of_getElem? (i := 266) (by decide +kernel)⟩
theorem lw_p1 : lw_okq (⟨"SeatStraps$Car", "takenBeside", "(I)I"⟩, 6) := ⟨⟨by decide +kernel, by decide +kernel⟩, List.mem_of_getElem? (i := 27) (by decide +kernel), List.mem_of_getElem? (i := 321) (by decide +kernel), List.mem_of_getElem? (i := 322) (by decide +kernel)⟩
theorem lw_p2 : lw_okq (⟨"SeatStraps$Car", "loosen", "(I)V"⟩, 6) := ⟨⟨by decide +kernel, by decide +kernel⟩, List.mem_of_getElem? (i := 27) (by decide +kernel), List.mem_of_getElem? (i := 436) (by decide +kernel), List.mem_of_getElem? (i := 437) (by decide +kernel)⟩
theorem lw_p3 : lw_okq (⟨"SeatStraps$Ways", "listThree", "(I)V"⟩, 5) := ⟨⟨by decide +kernel, by decide +kernel⟩, List.mem_of_getElem? (i := 183) (by decide +kernel), List.mem_of_getElem? (i := 518) (by decide +kernel), List.mem_of_getElem? (i := 519) (by decide +kernel)⟩
theorem lw_p4 : lw_okq (⟨"SeatStraps$Ways", "findFrom", "(LSeatStraps$Car;II)V"⟩, 5) := ⟨⟨by decide +kernel, by decide +kernel⟩, List.mem_of_getElem? (i := 183) (by decide +kernel), List.mem_of_getElem? (i := 522) (by decide +kernel), List.mem_of_getElem? (i := 523) (by decide +kernel)⟩
theorem lw_p5 : lw_okq (⟨"SeatStraps$Ways", "takeStep", "(III)I"⟩, 5) := ⟨⟨by decide +kernel, by decide +kernel⟩, List.mem_of_getElem? (i := 183) (by decide +kernel), List.mem_of_getElem? (i := 527) (by decide +kernel), List.mem_of_getElem? (i := 528) (by decide +kernel)⟩
theorem lw_p6 : lw_okq (⟨"SeatStraps$Ways", "keepIfBetter", "(I)V"⟩, 5) := ⟨⟨by decide +kernel, by decide +kernel⟩, List.mem_of_getElem? (i := 183) (by decide +kernel), List.mem_of_getElem? (i := 533) (by decide +kernel), List.mem_of_getElem? (i := 534) (by decide +kernel)⟩
theorem lw_p7 : lw_okq (⟨"SeatStraps", "staysInTrial", "(II)Z"⟩, 8) := ⟨⟨by decide +kernel, by decide +kernel⟩, List.mem_of_getElem? (i := 19) (by decide +kernel), List.mem_of_getElem? (i := 553) (by decide +kernel), List.mem_of_getElem? (i := 554) (by decide +kernel)⟩
theorem lw_p8 : lw_okq (⟨"SeatStraps$Tape", "byteAt", "(I)I"⟩, 6) := ⟨⟨by decide +kernel, by decide +kernel⟩, List.mem_of_getElem? (i := 145) (by decide +kernel), List.mem_of_getElem? (i := 597) (by decide +kernel), List.mem_of_getElem? (i := 598) (by decide +kernel)⟩
theorem lw_p9 : lw_okq (⟨"SeatStraps$CarText", "parseItem", "(LSeatStraps$Car;)V"⟩, 2) := ⟨⟨by decide +kernel, by decide +kernel⟩, List.mem_of_getElem? (i := 139) (by decide +kernel), List.mem_of_getElem? (i := 605) (by decide +kernel), List.mem_of_getElem? (i := 606) (by decide +kernel)⟩
theorem lw_p10 : lw_okq (⟨"SeatStraps$CarText", "kindNamed", "()I"⟩, 2) := ⟨⟨by decide +kernel, by decide +kernel⟩, List.mem_of_getElem? (i := 139) (by decide +kernel), List.mem_of_getElem? (i := 609) (by decide +kernel), List.mem_of_getElem? (i := 610) (by decide +kernel)⟩
theorem lw_p11 : lw_okq (⟨"SeatStraps$CarText", "parseChild", "(LSeatStraps$Car;I)V"⟩, 2) := ⟨⟨by decide +kernel, by decide +kernel⟩, List.mem_of_getElem? (i := 139) (by decide +kernel), List.mem_of_getElem? (i := 675) (by decide +kernel), List.mem_of_getElem? (i := 676) (by decide +kernel)⟩
theorem lw_p12 : lw_okq (⟨"SeatStraps$CarText", "numberBehind", "(I)I"⟩, 2) := ⟨⟨by decide +kernel, by decide +kernel⟩, List.mem_of_getElem? (i := 139) (by decide +kernel), List.mem_of_getElem? (i := 683) (by decide +kernel), List.mem_of_getElem? (i := 684) (by decide +kernel)⟩
theorem lw_p13 : lw_okq (⟨"SeatStraps$CarText", "parseSeat", "(LSeatStraps$Car;)V"⟩, 2) := ⟨⟨by decide +kernel, by decide +kernel⟩, List.mem_of_getElem? (i := 139) (by decide +kernel), List.mem_of_getElem? (i := 698) (by decide +kernel), List.mem_of_getElem? (i := 699) (by decide +kernel)⟩
theorem lw_p14 : lw_okq (⟨"SeatStraps", "trialTells", "(LSeatStraps$Sheet;I)Z"⟩, 8) := ⟨⟨by decide +kernel, by decide +kernel⟩, List.mem_of_getElem? (i := 19) (by decide +kernel), List.mem_of_getElem? (i := 754) (by decide +kernel), List.mem_of_getElem? (i := 755) (by decide +kernel)⟩
theorem lw_p15 : lw_okq (⟨"SeatStrapsModel", "becomes", "(II)I"⟩, 19) := ⟨⟨by decide +kernel, by decide +kernel⟩, List.mem_of_getElem? (i := 782) (by decide +kernel), List.mem_of_getElem? (i := 862) (by decide +kernel), List.mem_of_getElem? (i := 863) (by decide +kernel)⟩
def lw_privs_1 : List (MethodName × Nat) := [(⟨"SeatStraps", "tell", "(I)I"⟩, 8), (⟨"SeatStraps$Car", "takenBeside", "(I)I"⟩, 6), (⟨"SeatStraps$Car", "loosen", "(I)V"⟩, 6), (⟨"SeatStraps$Ways", "listThree", "(I)V"⟩, 5), (⟨"SeatStraps$Ways", "findFrom", "(LSeatStraps$Car;II)V"⟩, 5), (⟨"SeatStraps$Ways", "takeStep", "(III)I"⟩, 5), (⟨"SeatStraps$Ways", "keepIfBetter", "(I)V"⟩, 5), (⟨"SeatStraps", "staysInTrial", "(II)Z"⟩, 8), (⟨"SeatStraps$Tape", "byteAt", "(I)I"⟩, 6), (⟨"SeatStraps$CarText", "parseItem", "(LSeatStraps$Car;)V"⟩, 2), (⟨"SeatStraps$CarText", "kindNamed", "()I"⟩, 2), (⟨"SeatStraps$CarText", "parseChild", "(LSeatStraps$Car;I)V"⟩, 2), (⟨"SeatStraps$CarText", "numberBehind", "(I)I"⟩, 2), (⟨"SeatStraps$CarText", "parseSeat", "(LSeatStraps$Car;)V"⟩, 2), (⟨"SeatStraps", "trialTells", "(LSeatStraps$Sheet;I)Z"⟩, 8), (⟨"SeatStrapsModel", "becomes", "(II)I"⟩, 19)]
theorem lw_r1 : ∀ q ∈ lw_privs_1, lw_okq q := List.forall_mem_cons.mpr ⟨lw_p0, List.forall_mem_cons.mpr ⟨lw_p1, List.forall_mem_cons.mpr ⟨lw_p2, List.forall_mem_cons.mpr ⟨lw_p3, List.forall_mem_cons.mpr ⟨lw_p4, List.forall_mem_cons.mpr ⟨lw_p5, List.forall_mem_cons.mpr ⟨lw_p6, List.forall_mem_cons.mpr ⟨lw_p7, List.forall_mem_cons.mpr ⟨lw_p8, List.forall_mem_cons.mpr ⟨lw_p9, List.forall_mem_cons.mpr ⟨lw_p10, List.forall_mem_cons.mpr ⟨lw_p11, List.forall_mem_cons.mpr ⟨lw_p12, List.forall_mem_cons.mpr ⟨lw_p13, List.forall_mem_cons.mpr ⟨lw_p14, List.forall_mem_cons.mpr ⟨lw_p15, fun _ h => absurd h List.not_mem_nil⟩⟩⟩⟩⟩⟩⟩⟩⟩⟩⟩⟩⟩⟩⟩⟩
theorem lw_p16 : lw_okq (⟨"SeatStrapsModel", "finds", "(I)I"⟩, 19) := ⟨⟨by decide +kernel, by decide +kernel⟩, List.mem_of_getElem? (i := 782) (by decide +kernel), List.mem_of_getElem? (i := 867) (by decide +kernel), List.mem_of_getElem? (i := 868) (by decide +kernel)⟩
theorem lw_p17 : lw_okq (⟨"SeatStrapsModel", "its", "(II)I"⟩, 19) := ⟨⟨by decide +kernel, by decide +kernel⟩, List.mem_of_getElem? (i := 782) (by decide +kernel), List.mem_of_getElem? (i := 876) (by decide +kernel), List.mem_of_getElem? (i := 877) (by decide +kernel)⟩
theorem lw_p18 : lw_okq (⟨"SeatStrapsModel", "adds", "(I)I"⟩, 19) := ⟨⟨by decide +kernel, by decide +kernel⟩, List.mem_of_getElem? (i := 782) (by decide +kernel), List.mem_of_getElem? (i := 892) (by decide +kernel), List.mem_of_getElem? (i := 893) (by decide +kernel)⟩
theorem lw_p19 : lw_okq (⟨"SeatStrapsModel", "isChild", "(I)Z"⟩, 19) := ⟨⟨by decide +kernel, by decide +kernel⟩, List.mem_of_getElem? (i := 782) (by decide +kernel), List.mem_of_getElem? (i := 903) (by decide +kernel), List.mem_of_getElem? (i := 904) (by decide +kernel)⟩
theorem lw_p20 : lw_okq (⟨"SeatStrapsModel", "told", "(II)I"⟩, 19) := ⟨⟨by decide +kernel, by decide +kernel⟩, List.mem_of_getElem? (i := 782) (by decide +kernel), List.mem_of_getElem? (i := 908) (by decide +kernel), List.mem_of_getElem? (i := 909) (by decide +kernel)⟩
theorem lw_p21 : lw_okq (⟨"SeatStrapsModel", "seatedAt", "(I)I"⟩, 19) := ⟨⟨by decide +kernel, by decide +kernel⟩, List.mem_of_getElem? (i := 782) (by decide +kernel), List.mem_of_getElem? (i := 912) (by decide +kernel), List.mem_of_getElem? (i := 913) (by decide +kernel)⟩
theorem lw_p22 : lw_okq (⟨"SeatStrapsModel", "frets", "(I)I"⟩, 19) := ⟨⟨by decide +kernel, by decide +kernel⟩, List.mem_of_getElem? (i := 782) (by decide +kernel), List.mem_of_getElem? (i := 916) (by decide +kernel), List.mem_of_getElem? (i := 917) (by decide +kernel)⟩
theorem lw_p23 : lw_okq (⟨"SeatStrapsModel", "isNear", "(I)Z"⟩, 19) := ⟨⟨by decide +kernel, by decide +kernel⟩, List.mem_of_getElem? (i := 782) (by decide +kernel), List.mem_of_getElem? (i := 920) (by decide +kernel), List.mem_of_getElem? (i := 921) (by decide +kernel)⟩
theorem lw_p24 : lw_okq (⟨"SeatStrapsModel", "isTaken", "(I)Z"⟩, 19) := ⟨⟨by decide +kernel, by decide +kernel⟩, List.mem_of_getElem? (i := 782) (by decide +kernel), List.mem_of_getElem? (i := 924) (by decide +kernel), List.mem_of_getElem? (i := 925) (by decide +kernel)⟩
theorem lw_p25 : lw_okq (⟨"SeatStrapsModel", "secondsOf", "(II)I"⟩, 19) := ⟨⟨by decide +kernel, by decide +kernel⟩, List.mem_of_getElem? (i := 782) (by decide +kernel), List.mem_of_getElem? (i := 949) (by decide +kernel), List.mem_of_getElem? (i := 950) (by decide +kernel)⟩
theorem lw_p26 : lw_okq (⟨"SeatStrapsModel", "takes", "(II)I"⟩, 19) := ⟨⟨by decide +kernel, by decide +kernel⟩, List.mem_of_getElem? (i := 782) (by decide +kernel), List.mem_of_getElem? (i := 953) (by decide +kernel), List.mem_of_getElem? (i := 954) (by decide +kernel)⟩
theorem lw_p27 : lw_okq (⟨"SeatStrapsModel", "snugOf", "(II)I"⟩, 19) := ⟨⟨by decide +kernel, by decide +kernel⟩, List.mem_of_getElem? (i := 782) (by decide +kernel), List.mem_of_getElem? (i := 961) (by decide +kernel), List.mem_of_getElem? (i := 962) (by decide +kernel)⟩
theorem lw_p28 : lw_okq (⟨"SeatStrapsModel", "clicks", "(II)I"⟩, 19) := ⟨⟨by decide +kernel, by decide +kernel⟩, List.mem_of_getElem? (i := 782) (by decide +kernel), List.mem_of_getElem? (i := 970) (by decide +kernel), List.mem_of_getElem? (i := 971) (by decide +kernel)⟩
theorem lw_p29 : lw_okq (⟨"SeatStrapsModel", "goesOut", "(I)V"⟩, 19) := ⟨⟨by decide +kernel, by decide +kernel⟩, List.mem_of_getElem? (i := 782) (by decide +kernel), List.mem_of_getElem? (i := 982) (by decide +kernel), List.mem_of_getElem? (i := 983) (by decide +kernel)⟩
theorem lw_p30 : lw_okq (⟨"SeatStrapsModel", "bribed", "(I)V"⟩, 19) := ⟨⟨by decide +kernel, by decide +kernel⟩, List.mem_of_getElem? (i := 782) (by decide +kernel), List.mem_of_getElem? (i := 990) (by decide +kernel), List.mem_of_getElem? (i := 991) (by decide +kernel)⟩
theorem lw_p31 : lw_okq (⟨"SeatStrapsModel", "minutesGo", "(I)V"⟩, 19) := ⟨⟨by decide +kernel, by decide +kernel⟩, List.mem_of_getElem? (i := 782) (by decide +kernel), List.mem_of_getElem? (i := 999) (by decide +kernel), List.mem_of_getElem? (i := 1000) (by decide +kernel)⟩
def lw_privs_2 : List (MethodName × Nat) := [(⟨"SeatStrapsModel", "finds", "(I)I"⟩, 19), (⟨"SeatStrapsModel", "its", "(II)I"⟩, 19), (⟨"SeatStrapsModel", "adds", "(I)I"⟩, 19), (⟨"SeatStrapsModel", "isChild", "(I)Z"⟩, 19), (⟨"SeatStrapsModel", "told", "(II)I"⟩, 19), (⟨"SeatStrapsModel", "seatedAt", "(I)I"⟩, 19), (⟨"SeatStrapsModel", "frets", "(I)I"⟩, 19), (⟨"SeatStrapsModel", "isNear", "(I)Z"⟩, 19), (⟨"SeatStrapsModel", "isTaken", "(I)Z"⟩, 19), (⟨"SeatStrapsModel", "secondsOf", "(II)I"⟩, 19), (⟨"SeatStrapsModel", "takes", "(II)I"⟩, 19), (⟨"SeatStrapsModel", "snugOf", "(II)I"⟩, 19), (⟨"SeatStrapsModel", "clicks", "(II)I"⟩, 19), (⟨"SeatStrapsModel", "goesOut", "(I)V"⟩, 19), (⟨"SeatStrapsModel", "bribed", "(I)V"⟩, 19), (⟨"SeatStrapsModel", "minutesGo", "(I)V"⟩, 19)]
theorem lw_r2 : ∀ q ∈ lw_privs_2, lw_okq q := List.forall_mem_cons.mpr ⟨lw_p16, List.forall_mem_cons.mpr ⟨lw_p17, List.forall_mem_cons.mpr ⟨lw_p18, List.forall_mem_cons.mpr ⟨lw_p19, List.forall_mem_cons.mpr ⟨lw_p20, List.forall_mem_cons.mpr ⟨lw_p21, List.forall_mem_cons.mpr ⟨lw_p22, List.forall_mem_cons.mpr ⟨lw_p23, List.forall_mem_cons.mpr ⟨lw_p24, List.forall_mem_cons.mpr ⟨lw_p25, List.forall_mem_cons.mpr ⟨lw_p26, List.forall_mem_cons.mpr ⟨lw_p27, List.forall_mem_cons.mpr ⟨lw_p28, List.forall_mem_cons.mpr ⟨lw_p29, List.forall_mem_cons.mpr ⟨lw_p30, List.forall_mem_cons.mpr ⟨lw_p31, fun _ h => absurd h List.not_mem_nil⟩⟩⟩⟩⟩⟩⟩⟩⟩⟩⟩⟩⟩⟩⟩⟩
theorem lw_p32 : lw_okq (⟨"SeatStrapsModel", "minute", "()V"⟩, 19) := ⟨⟨by decide +kernel, by decide +kernel⟩, List.mem_of_getElem? (i := 782) (by decide +kernel), List.mem_of_getElem? (i := 1003) (by decide +kernel), List.mem_of_getElem? (i := 1004) (by decide +kernel)⟩
theorem lw_p33 : lw_okq (⟨"SeatStrapsModel", "seated", "()I"⟩, 19) := ⟨⟨by decide +kernel, by decide +kernel⟩, List.mem_of_getElem? (i := 782) (by decide +kernel), List.mem_of_getElem? (i := 1007) (by decide +kernel), List.mem_of_getElem? (i := 1008) (by decide +kernel)⟩
theorem lw_p34 : lw_okq (⟨"SeatStrapsModel", "together", "(I)I"⟩, 19) := ⟨⟨by decide +kernel, by decide +kernel⟩, List.mem_of_getElem? (i := 782) (by decide +kernel), List.mem_of_getElem? (i := 1015) (by decide +kernel), List.mem_of_getElem? (i := 1016) (by decide +kernel)⟩
theorem lw_p35 : lw_okq (⟨"SeatStrapsModel", "laysAside", "()V"⟩, 19) := ⟨⟨by decide +kernel, by decide +kernel⟩, List.mem_of_getElem? (i := 782) (by decide +kernel), List.mem_of_getElem? (i := 1023) (by decide +kernel), List.mem_of_getElem? (i := 1024) (by decide +kernel)⟩
theorem lw_p36 : lw_okq (⟨"SeatStrapsModel", "takesBack", "(I)I"⟩, 19) := ⟨⟨by decide +kernel, by decide +kernel⟩, List.mem_of_getElem? (i := 782) (by decide +kernel), List.mem_of_getElem? (i := 1027) (by decide +kernel), List.mem_of_getElem? (i := 1028) (by decide +kernel)⟩
theorem lw_p37 : lw_okq (⟨"SeatStrapsModel", "outIn", "(II)I"⟩, 19) := ⟨⟨by decide +kernel, by decide +kernel⟩, List.mem_of_getElem? (i := 782) (by decide +kernel), List.mem_of_getElem? (i := 1035) (by decide +kernel), List.mem_of_getElem? (i := 1036) (by decide +kernel)⟩
theorem lw_p38 : lw_okq (⟨"SeatStrapsModel", "wrongSeeker", "(I)I"⟩, 19) := ⟨⟨by decide +kernel, by decide +kernel⟩, List.mem_of_getElem? (i := 782) (by decide +kernel), List.mem_of_getElem? (i := 1048) (by decide +kernel), List.mem_of_getElem? (i := 1049) (by decide +kernel)⟩
theorem lw_p39 : lw_okq (⟨"SeatStrapsModel", "wrongThree", "(I)I"⟩, 19) := ⟨⟨by decide +kernel, by decide +kernel⟩, List.mem_of_getElem? (i := 782) (by decide +kernel), List.mem_of_getElem? (i := 1060) (by decide +kernel), List.mem_of_getElem? (i := 1061) (by decide +kernel)⟩
theorem lw_p40 : lw_okq (⟨"SeatStrapsModel", "findWay", "(I)V"⟩, 19) := ⟨⟨by decide +kernel, by decide +kernel⟩, List.mem_of_getElem? (i := 782) (by decide +kernel), List.mem_of_getElem? (i := 1068) (by decide +kernel), List.mem_of_getElem? (i := 1069) (by decide +kernel)⟩
theorem lw_p41 : lw_okq (⟨"SeatStrapsModel", "isWay", "(II)Z"⟩, 19) := ⟨⟨by decide +kernel, by decide +kernel⟩, List.mem_of_getElem? (i := 782) (by decide +kernel), List.mem_of_getElem? (i := 1072) (by decide +kernel), List.mem_of_getElem? (i := 1073) (by decide +kernel)⟩
theorem lw_p42 : lw_okq (⟨"SeatStrapsModel", "wrongStay", "(II)I"⟩, 19) := ⟨⟨by decide +kernel, by decide +kernel⟩, List.mem_of_getElem? (i := 782) (by decide +kernel), List.mem_of_getElem? (i := 1088) (by decide +kernel), List.mem_of_getElem? (i := 1089) (by decide +kernel)⟩
theorem lw_p43 : lw_okq (⟨"SeatStrapsModel", "isInStill", "(II)Z"⟩, 19) := ⟨⟨by decide +kernel, by decide +kernel⟩, List.mem_of_getElem? (i := 782) (by decide +kernel), List.mem_of_getElem? (i := 1092) (by decide +kernel), List.mem_of_getElem? (i := 1093) (by decide +kernel)⟩
theorem lw_p44 : lw_okq (⟨"SeatStrapsModel", "saves", "()V"⟩, 19) := ⟨⟨by decide +kernel, by decide +kernel⟩, List.mem_of_getElem? (i := 782) (by decide +kernel), List.mem_of_getElem? (i := 1120) (by decide +kernel), List.mem_of_getElem? (i := 1121) (by decide +kernel)⟩
theorem lw_p45 : lw_okq (⟨"SeatStrapsModel", "token", "()V"⟩, 19) := ⟨⟨by decide +kernel, by decide +kernel⟩, List.mem_of_getElem? (i := 782) (by decide +kernel), List.mem_of_getElem? (i := 1124) (by decide +kernel), List.mem_of_getElem? (i := 1125) (by decide +kernel)⟩
theorem lw_p46 : lw_okq (⟨"SeatStrapsModel", "byteAt", "(I)I"⟩, 19) := ⟨⟨by decide +kernel, by decide +kernel⟩, List.mem_of_getElem? (i := 782) (by decide +kernel), List.mem_of_getElem? (i := 1128) (by decide +kernel), List.mem_of_getElem? (i := 1129) (by decide +kernel)⟩
theorem lw_p47 : lw_okq (⟨"SeatStrapsModel", "item", "()V"⟩, 19) := ⟨⟨by decide +kernel, by decide +kernel⟩, List.mem_of_getElem? (i := 782) (by decide +kernel), List.mem_of_getElem? (i := 1142) (by decide +kernel), List.mem_of_getElem? (i := 1143) (by decide +kernel)⟩
def lw_privs_3 : List (MethodName × Nat) := [(⟨"SeatStrapsModel", "minute", "()V"⟩, 19), (⟨"SeatStrapsModel", "seated", "()I"⟩, 19), (⟨"SeatStrapsModel", "together", "(I)I"⟩, 19), (⟨"SeatStrapsModel", "laysAside", "()V"⟩, 19), (⟨"SeatStrapsModel", "takesBack", "(I)I"⟩, 19), (⟨"SeatStrapsModel", "outIn", "(II)I"⟩, 19), (⟨"SeatStrapsModel", "wrongSeeker", "(I)I"⟩, 19), (⟨"SeatStrapsModel", "wrongThree", "(I)I"⟩, 19), (⟨"SeatStrapsModel", "findWay", "(I)V"⟩, 19), (⟨"SeatStrapsModel", "isWay", "(II)Z"⟩, 19), (⟨"SeatStrapsModel", "wrongStay", "(II)I"⟩, 19), (⟨"SeatStrapsModel", "isInStill", "(II)Z"⟩, 19), (⟨"SeatStrapsModel", "saves", "()V"⟩, 19), (⟨"SeatStrapsModel", "token", "()V"⟩, 19), (⟨"SeatStrapsModel", "byteAt", "(I)I"⟩, 19), (⟨"SeatStrapsModel", "item", "()V"⟩, 19)]
theorem lw_r3 : ∀ q ∈ lw_privs_3, lw_okq q := List.forall_mem_cons.mpr ⟨lw_p32, List.forall_mem_cons.mpr ⟨lw_p33, List.forall_mem_cons.mpr ⟨lw_p34, List.forall_mem_cons.mpr ⟨lw_p35, List.forall_mem_cons.mpr ⟨lw_p36, List.forall_mem_cons.mpr ⟨lw_p37, List.forall_mem_cons.mpr ⟨lw_p38, List.forall_mem_cons.mpr ⟨lw_p39, List.forall_mem_cons.mpr ⟨lw_p40, List.forall_mem_cons.mpr ⟨lw_p41, List.forall_mem_cons.mpr ⟨lw_p42, List.forall_mem_cons.mpr ⟨lw_p43, List.forall_mem_cons.mpr ⟨lw_p44, List.forall_mem_cons.mpr ⟨lw_p45, List.forall_mem_cons.mpr ⟨lw_p46, List.forall_mem_cons.mpr ⟨lw_p47, fun _ h => absurd h List.not_mem_nil⟩⟩⟩⟩⟩⟩⟩⟩⟩⟩⟩⟩⟩⟩⟩⟩
theorem lw_p48 : lw_okq (⟨"SeatStrapsModel", "kindHere", "()I"⟩, 19) := ⟨⟨by decide +kernel, by decide +kernel⟩, List.mem_of_getElem? (i := 782) (by decide +kernel), List.mem_of_getElem? (i := 1146) (by decide +kernel), List.mem_of_getElem? (i := 1147) (by decide +kernel)⟩
theorem lw_p49 : lw_okq (⟨"SeatStrapsModel", "word", "()J"⟩, 19) := ⟨⟨by decide +kernel, by decide +kernel⟩, List.mem_of_getElem? (i := 782) (by decide +kernel), List.mem_of_getElem? (i := 1150) (by decide +kernel), List.mem_of_getElem? (i := 1151) (by decide +kernel)⟩
theorem lw_p50 : lw_okq (⟨"SeatStrapsModel", "childItem", "(I)V"⟩, 19) := ⟨⟨by decide +kernel, by decide +kernel⟩, List.mem_of_getElem? (i := 782) (by decide +kernel), List.mem_of_getElem? (i := 1162) (by decide +kernel), List.mem_of_getElem? (i := 1163) (by decide +kernel)⟩
theorem lw_p51 : lw_okq (⟨"SeatStrapsModel", "must", "(Z)V"⟩, 19) := ⟨⟨by decide +kernel, by decide +kernel⟩, List.mem_of_getElem? (i := 782) (by decide +kernel), List.mem_of_getElem? (i := 1166) (by decide +kernel), List.mem_of_getElem? (i := 1167) (by decide +kernel)⟩
theorem lw_p52 : lw_okq (⟨"SeatStrapsModel", "partItem", "(JII)V"⟩, 19) := ⟨⟨by decide +kernel, by decide +kernel⟩, List.mem_of_getElem? (i := 782) (by decide +kernel), List.mem_of_getElem? (i := 1171) (by decide +kernel), List.mem_of_getElem? (i := 1172) (by decide +kernel)⟩
theorem lw_p53 : lw_okq (⟨"SeatStrapsModel", "number", "(II)V"⟩, 19) := ⟨⟨by decide +kernel, by decide +kernel⟩, List.mem_of_getElem? (i := 782) (by decide +kernel), List.mem_of_getElem? (i := 1175) (by decide +kernel), List.mem_of_getElem? (i := 1176) (by decide +kernel)⟩
theorem lw_p54 : lw_okq (⟨"SeatStrapsModel", "mayBe", "(J)Z"⟩, 19) := ⟨⟨by decide +kernel, by decide +kernel⟩, List.mem_of_getElem? (i := 782) (by decide +kernel), List.mem_of_getElem? (i := 1181) (by decide +kernel), List.mem_of_getElem? (i := 1182) (by decide +kernel)⟩
theorem lw_p55 : lw_okq (⟨"SeatStrapsModel", "seatItem", "()V"⟩, 19) := ⟨⟨by decide +kernel, by decide +kernel⟩, List.mem_of_getElem? (i := 782) (by decide +kernel), List.mem_of_getElem? (i := 1186) (by decide +kernel), List.mem_of_getElem? (i := 1187) (by decide +kernel)⟩
theorem lw_p56 : lw_okq (⟨"SeatStrapsModel", "putsBack", "()V"⟩, 19) := ⟨⟨by decide +kernel, by decide +kernel⟩, List.mem_of_getElem? (i := 782) (by decide +kernel), List.mem_of_getElem? (i := 1194) (by decide +kernel), List.mem_of_getElem? (i := 1195) (by decide +kernel)⟩
theorem lw_p57 : lw_okq (⟨"SeatStrapsModel", "wrongSheet", "(I)I"⟩, 19) := ⟨⟨by decide +kernel, by decide +kernel⟩, List.mem_of_getElem? (i := 782) (by decide +kernel), List.mem_of_getElem? (i := 1210) (by decide +kernel), List.mem_of_getElem? (i := 1211) (by decide +kernel)⟩
theorem lw_p58 : lw_okq (⟨"SeatStrapsModel", "wrongBook", "(II)I"⟩, 19) := ⟨⟨by decide +kernel, by decide +kernel⟩, List.mem_of_getElem? (i := 782) (by decide +kernel), List.mem_of_getElem? (i := 1230) (by decide +kernel), List.mem_of_getElem? (i := 1231) (by decide +kernel)⟩
theorem lw_p59 : lw_okq (⟨"SeatStrapsModel", "isBook", "(II)Z"⟩, 19) := ⟨⟨by decide +kernel, by decide +kernel⟩, List.mem_of_getElem? (i := 782) (by decide +kernel), List.mem_of_getElem? (i := 1238) (by decide +kernel), List.mem_of_getElem? (i := 1239) (by decide +kernel)⟩
theorem lw_p60 : lw_okq (⟨"SeatStrapsModel", "wears", "()I"⟩, 19) := ⟨⟨by decide +kernel, by decide +kernel⟩, List.mem_of_getElem? (i := 782) (by decide +kernel), List.mem_of_getElem? (i := 1258) (by decide +kernel), List.mem_of_getElem? (i := 1259) (by decide +kernel)⟩
def lw_privs_4 : List (MethodName × Nat) := [(⟨"SeatStrapsModel", "kindHere", "()I"⟩, 19), (⟨"SeatStrapsModel", "word", "()J"⟩, 19), (⟨"SeatStrapsModel", "childItem", "(I)V"⟩, 19), (⟨"SeatStrapsModel", "must", "(Z)V"⟩, 19), (⟨"SeatStrapsModel", "partItem", "(JII)V"⟩, 19), (⟨"SeatStrapsModel", "number", "(II)V"⟩, 19), (⟨"SeatStrapsModel", "mayBe", "(J)Z"⟩, 19), (⟨"SeatStrapsModel", "seatItem", "()V"⟩, 19), (⟨"SeatStrapsModel", "putsBack", "()V"⟩, 19), (⟨"SeatStrapsModel", "wrongSheet", "(I)I"⟩, 19), (⟨"SeatStrapsModel", "wrongBook", "(II)I"⟩, 19), (⟨"SeatStrapsModel", "isBook", "(II)Z"⟩, 19), (⟨"SeatStrapsModel", "wears", "()I"⟩, 19)]
theorem lw_r4 : ∀ q ∈ lw_privs_4, lw_okq q := List.forall_mem_cons.mpr ⟨lw_p48, List.forall_mem_cons.mpr ⟨lw_p49, List.forall_mem_cons.mpr ⟨lw_p50, List.forall_mem_cons.mpr ⟨lw_p51, List.forall_mem_cons.mpr ⟨lw_p52, List.forall_mem_cons.mpr ⟨lw_p53, List.forall_mem_cons.mpr ⟨lw_p54, List.forall_mem_cons.mpr ⟨lw_p55, List.forall_mem_cons.mpr ⟨lw_p56, List.forall_mem_cons.mpr ⟨lw_p57, List.forall_mem_cons.mpr ⟨lw_p58, List.forall_mem_cons.mpr ⟨lw_p59, List.forall_mem_cons.mpr ⟨lw_p60, fun _ h => absurd h List.not_mem_nil⟩⟩⟩⟩⟩⟩⟩⟩⟩⟩⟩⟩⟩
def lw_privs : List (MethodName × Nat) := lw_privs_1 ++ (lw_privs_2 ++ (lw_privs_3 ++ (lw_privs_4)))
def lw_tbl : List Cond := k2_sels lw_privs ++ tables_1
theorem lw_privs_ok : ∀ q ∈ lw_privs, lw_okq q := by
  show ∀ q ∈ lw_privs_1 ++ (lw_privs_2 ++ (lw_privs_3 ++ (lw_privs_4))), lw_okq q
  exact List.forall_mem_append.mpr ⟨lw_r1, List.forall_mem_append.mpr ⟨lw_r2, List.forall_mem_append.mpr ⟨lw_r3, lw_r4⟩⟩⟩
end
section
def RX0 : String := "SeatStraps$Car"
def TX0 : u_T := fun k => match k with
  | 0 => ("SeatStraps$Car", "seats", "[LSeatStraps$Seat;", true)
  | 1 => ("SeatStraps$Car", "children", "[LSeatStraps$Child;", true)
  | 2 => ("SeatStraps$Car", "count", "I", false)
  | 3 => ("SeatStraps$Car", "rain", "I", false)
  | 4 => ("SeatStraps$Car", "minute", "I", false)
  | _ => ("SeatStraps$Car", "spent", "I", false)
def tyX0 : Nat → FieldType := fun k => match k with
  | 0 => .array (.object "SeatStraps$Seat")
  | 1 => .array (.object "SeatStraps$Child")
  | 2 => .int
  | 3 => .int
  | 4 => .int
  | _ => .int
theorem nmX0 : ∀ a, a < 6 → ∀ b, b < 6 → a ≠ b → (TX0 a).2.1 ≠ (TX0 b).2.1 := by decide +kernel
theorem tyX0_ok : ∀ k, k < 6 → parseFieldDescriptor (TX0 k).2.2.1 = some (tyX0 k) := by decide +kernel
abbrev cX0_init : ByteArray := prog_2_method_1_code
def yX0_init : MethodName := ⟨RX0, "<init>", "()V"⟩
abbrev cX0_become : ByteArray := prog_2_method_2_code
def yX0_become : MethodName := ⟨RX0, "become", "(LSeatStraps$Car;)V"⟩
abbrev cX0_has : ByteArray := prog_2_method_3_code
def yX0_has : MethodName := ⟨RX0, "has", "(I)Z"⟩
abbrev cX0_hasSet : ByteArray := prog_2_method_4_code
def yX0_hasSet : MethodName := ⟨RX0, "hasSet", "(I)Z"⟩
abbrev cX0_isFull : ByteArray := prog_2_method_5_code
def yX0_isFull : MethodName := ⟨RX0, "isFull", "()Z"⟩
abbrev cX0_add : ByteArray := prog_2_method_6_code
def yX0_add : MethodName := ⟨RX0, "add", "(I)I"⟩
abbrev cX0_secondsFor : ByteArray := prog_2_method_7_code
def yX0_secondsFor : MethodName := ⟨RX0, "secondsFor", "(II)I"⟩
abbrev cX0_secondsAs : ByteArray := prog_2_method_8_code
def yX0_secondsAs : MethodName := ⟨RX0, "secondsAs", "(III)I"⟩
abbrev cX0_takenBeside : ByteArray := prog_2_method_9_code
def yX0_takenBeside : MethodName := ⟨RX0, "takenBeside", "(I)I"⟩
abbrev cX0_snugFor : ByteArray := prog_2_method_10_code
def yX0_snugFor : MethodName := ⟨RX0, "snugFor", "(II)I"⟩
abbrev cX0_fretsNow : ByteArray := prog_2_method_11_code
def yX0_fretsNow : MethodName := ⟨RX0, "fretsNow", "(LSeatStraps$Child;)I"⟩
abbrev cX0_clickIn : ByteArray := prog_2_method_12_code
def yX0_clickIn : MethodName := ⟨RX0, "clickIn", "(II)V"⟩
abbrev cX0_getOut : ByteArray := prog_2_method_13_code
def yX0_getOut : MethodName := ⟨RX0, "getOut", "(I)V"⟩
abbrev cX0_giveBribe : ByteArray := prog_2_method_14_code
def yX0_giveBribe : MethodName := ⟨RX0, "giveBribe", "(I)V"⟩
abbrev cX0_passMinutes : ByteArray := prog_2_method_15_code
def yX0_passMinutes : MethodName := ⟨RX0, "passMinutes", "(I)V"⟩
abbrev cX0_passMinute : ByteArray := prog_2_method_16_code
def yX0_passMinute : MethodName := ⟨RX0, "passMinute", "()V"⟩
abbrev cX0_loosen : ByteArray := prog_2_method_17_code
def yX0_loosen : MethodName := ⟨RX0, "loosen", "(I)V"⟩
abbrev cX0_sitting : ByteArray := prog_2_method_18_code
def yX0_sitting : MethodName := ⟨RX0, "sitting", "()I"⟩
abbrev cX0_quickestSeat : ByteArray := prog_2_method_19_code
def yX0_quickestSeat : MethodName := ⟨RX0, "quickestSeat", "(I)I"⟩
abbrev cX0_snuggestSeat : ByteArray := prog_2_method_20_code
def yX0_snuggestSeat : MethodName := ⟨RX0, "snuggestSeat", "(I)I"⟩
abbrev cX0_moods : ByteArray := prog_2_method_21_code
def yX0_moods : MethodName := ⟨RX0, "moods", "()I"⟩
abbrev cX0_tights : ByteArray := prog_2_method_22_code
def yX0_tights : MethodName := ⟨RX0, "tights", "()I"⟩
abbrev cX0_wears : ByteArray := prog_2_method_23_code
def yX0_wears : MethodName := ⟨RX0, "wears", "()I"⟩
def RX1 : String := "SeatStraps$CarText"
def TX1 : u_T := fun k => match k with
  | 0 => ("SeatStraps$CarText", "tape", "LSeatStraps$Tape;", true)
  | _ => ("SeatStraps$CarText", "fault", "I", false)
def tyX1 : Nat → FieldType := fun k => match k with
  | 0 => .object "SeatStraps$Tape"
  | _ => .int
theorem nmX1 : ∀ a, a < 2 → ∀ b, b < 2 → a ≠ b → (TX1 a).2.1 ≠ (TX1 b).2.1 := by decide +kernel
theorem tyX1_ok : ∀ k, k < 2 → parseFieldDescriptor (TX1 k).2.2.1 = some (tyX1 k) := by decide +kernel
abbrev cX1_init : ByteArray := prog_3_method_1_code
def yX1_init : MethodName := ⟨RX1, "<init>", "()V"⟩
abbrev cX1_hasFault : ByteArray := prog_3_method_2_code
def yX1_hasFault : MethodName := ⟨RX1, "hasFault", "()Z"⟩
abbrev cX1_parse : ByteArray := prog_3_method_3_code
def yX1_parse : MethodName := ⟨RX1, "parse", "(LSeatStraps$Car;)I"⟩
abbrev cX1_parseItem : ByteArray := prog_3_method_4_code
def yX1_parseItem : MethodName := ⟨RX1, "parseItem", "(LSeatStraps$Car;)V"⟩
abbrev cX1_parseChild : ByteArray := prog_3_method_5_code
def yX1_parseChild : MethodName := ⟨RX1, "parseChild", "(LSeatStraps$Car;I)V"⟩
abbrev cX1_parseSeat : ByteArray := prog_3_method_6_code
def yX1_parseSeat : MethodName := ⟨RX1, "parseSeat", "(LSeatStraps$Car;)V"⟩
abbrev cX1_numberBehind : ByteArray := prog_3_method_7_code
def yX1_numberBehind : MethodName := ⟨RX1, "numberBehind", "(I)I"⟩
abbrev cX1_kindNamed : ByteArray := prog_3_method_8_code
def yX1_kindNamed : MethodName := ⟨RX1, "kindNamed", "()I"⟩
abbrev cX1_nameOf : ByteArray := prog_3_method_9_code
def yX1_nameOf : MethodName := ⟨RX1, "nameOf", "(I)Ljava/lang/String;"⟩
def RX2 : String := "SeatStraps$Child"
def TX2 : u_T := fun k => match k with
  | 0 => ("SeatStraps$Child", "kind", "I", false)
  | 1 => ("SeatStraps$Child", "size", "I", false)
  | 2 => ("SeatStraps$Child", "mood", "I", false)
  | 3 => ("SeatStraps$Child", "coat", "I", false)
  | 4 => ("SeatStraps$Child", "arch", "I", false)
  | 5 => ("SeatStraps$Child", "tight", "I", false)
  | _ => ("SeatStraps$Child", "place", "I", false)
def tyX2 : Nat → FieldType := fun k => match k with
  | 0 => .int
  | 1 => .int
  | 2 => .int
  | 3 => .int
  | 4 => .int
  | 5 => .int
  | _ => .int
theorem nmX2 : ∀ a, a < 7 → ∀ b, b < 7 → a ≠ b → (TX2 a).2.1 ≠ (TX2 b).2.1 := by decide +kernel
theorem tyX2_ok : ∀ k, k < 7 → parseFieldDescriptor (TX2 k).2.2.1 = some (tyX2 k) := by decide +kernel
abbrev cX2_init : ByteArray := prog_4_method_1_code
def yX2_init : MethodName := ⟨RX2, "<init>", "()V"⟩
abbrev cX2_most : ByteArray := prog_4_method_2_code
def yX2_most : MethodName := ⟨RX2, "most", "(I)I"⟩
abbrev cX2_begin : ByteArray := prog_4_method_3_code
def yX2_begin : MethodName := ⟨RX2, "begin", "(I)V"⟩
abbrev cX2_sits : ByteArray := prog_4_method_4_code
def yX2_sits : MethodName := ⟨RX2, "sits", "()Z"⟩
abbrev cX2_get : ByteArray := prog_4_method_5_code
def yX2_get : MethodName := ⟨RX2, "get", "(I)I"⟩
abbrev cX2_put : ByteArray := prog_4_method_6_code
def yX2_put : MethodName := ⟨RX2, "put", "(II)V"⟩
abbrev cX2_become : ByteArray := prog_4_method_7_code
def yX2_become : MethodName := ⟨RX2, "become", "(LSeatStraps$Child;)V"⟩
def RX3 : String := "SeatStraps$Kinds"
def TX3 : u_T := fun k => match k with
  | _ => ("", "", "", false)
def tyX3 : Nat → FieldType := fun k => match k with
  | _ => .int
theorem nmX3 : ∀ a, a < 0 → ∀ b, b < 0 → a ≠ b → (TX3 a).2.1 ≠ (TX3 b).2.1 := by decide +kernel
theorem tyX3_ok : ∀ k, k < 0 → parseFieldDescriptor (TX3 k).2.2.1 = some (tyX3 k) := by decide +kernel
abbrev cX3_isOneOf : ByteArray := prog_5_method_2_code
def yX3_isOneOf : MethodName := ⟨RX3, "isOneOf", "(II)Z"⟩
abbrev cX3_takes : ByteArray := prog_5_method_3_code
def yX3_takes : MethodName := ⟨RX3, "takes", "(ILSeatStraps$Child;LSeatStraps$Seat;)I"⟩
abbrev cX3_snugs : ByteArray := prog_5_method_4_code
def yX3_snugs : MethodName := ⟨RX3, "snugs", "(ILSeatStraps$Child;LSeatStraps$Seat;)I"⟩
abbrev cX3_frets : ByteArray := prog_5_method_5_code
def yX3_frets : MethodName := ⟨RX3, "frets", "(IIIZ)I"⟩
def RX4 : String := "SeatStraps$Seat"
def TX4 : u_T := fun k => match k with
  | 0 => ("SeatStraps$Seat", "twists", "I", false)
  | 1 => ("SeatStraps$Seat", "crumbs", "I", false)
  | 2 => ("SeatStraps$Seat", "turned", "I", false)
  | 3 => ("SeatStraps$Seat", "wear", "I", false)
  | _ => ("SeatStraps$Seat", "sitter", "I", false)
def tyX4 : Nat → FieldType := fun k => match k with
  | 0 => .int
  | 1 => .int
  | 2 => .int
  | 3 => .int
  | _ => .int
theorem nmX4 : ∀ a, a < 5 → ∀ b, b < 5 → a ≠ b → (TX4 a).2.1 ≠ (TX4 b).2.1 := by decide +kernel
theorem tyX4_ok : ∀ k, k < 5 → parseFieldDescriptor (TX4 k).2.2.1 = some (tyX4 k) := by decide +kernel
abbrev cX4_init : ByteArray := prog_6_method_1_code
def yX4_init : MethodName := ⟨RX4, "<init>", "()V"⟩
abbrev cX4_most : ByteArray := prog_6_method_2_code
def yX4_most : MethodName := ⟨RX4, "most", "(I)I"⟩
abbrev cX4_isTaken : ByteArray := prog_6_method_3_code
def yX4_isTaken : MethodName := ⟨RX4, "isTaken", "()Z"⟩
abbrev cX4_get : ByteArray := prog_6_method_4_code
def yX4_get : MethodName := ⟨RX4, "get", "(I)I"⟩
abbrev cX4_put : ByteArray := prog_6_method_5_code
def yX4_put : MethodName := ⟨RX4, "put", "(II)V"⟩
abbrev cX4_become : ByteArray := prog_6_method_6_code
def yX4_become : MethodName := ⟨RX4, "become", "(LSeatStraps$Seat;)V"⟩
def RX5 : String := "SeatStraps$Sheet"
def TX5 : u_T := fun k => match k with
  | 0 => ("SeatStraps$Sheet", "numbers", "[J", true)
  | 1 => ("SeatStraps$Sheet", "bits", "I", false)
  | _ => ("SeatStraps$Sheet", "length", "I", false)
def tyX5 : Nat → FieldType := fun k => match k with
  | 0 => .array .long
  | 1 => .int
  | _ => .int
theorem nmX5 : ∀ a, a < 3 → ∀ b, b < 3 → a ≠ b → (TX5 a).2.1 ≠ (TX5 b).2.1 := by decide +kernel
theorem tyX5_ok : ∀ k, k < 3 → parseFieldDescriptor (TX5 k).2.2.1 = some (tyX5 k) := by decide +kernel
abbrev cX5_init : ByteArray := prog_7_method_1_code
def yX5_init : MethodName := ⟨RX5, "<init>", "()V"⟩
abbrev cX5_isMissing : ByteArray := prog_7_method_2_code
def yX5_isMissing : MethodName := ⟨RX5, "isMissing", "()Z"⟩
abbrev cX5_make : ByteArray := prog_7_method_3_code
def yX5_make : MethodName := ⟨RX5, "make", "(II)V"⟩
abbrev cX5_holds : ByteArray := prog_7_method_4_code
def yX5_holds : MethodName := ⟨RX5, "holds", "(II)Z"⟩
abbrev cX5_put : ByteArray := prog_7_method_5_code
def yX5_put : MethodName := ⟨RX5, "put", "(IJ)V"⟩
def RX6 : String := "SeatStraps$Tape"
def TX6 : u_T := fun k => match k with
  | 0 => ("SeatStraps$Tape", "bytes", "[I", true)
  | 1 => ("SeatStraps$Tape", "length", "I", false)
  | 2 => ("SeatStraps$Tape", "token", "I", false)
  | 3 => ("SeatStraps$Tape", "start", "I", false)
  | 4 => ("SeatStraps$Tape", "end", "I", false)
  | _ => ("SeatStraps$Tape", "value", "I", false)
def tyX6 : Nat → FieldType := fun k => match k with
  | 0 => .array .int
  | 1 => .int
  | 2 => .int
  | 3 => .int
  | 4 => .int
  | _ => .int
theorem nmX6 : ∀ a, a < 6 → ∀ b, b < 6 → a ≠ b → (TX6 a).2.1 ≠ (TX6 b).2.1 := by decide +kernel
theorem tyX6_ok : ∀ k, k < 6 → parseFieldDescriptor (TX6 k).2.2.1 = some (tyX6 k) := by decide +kernel
abbrev cX6_init : ByteArray := prog_8_method_1_code
def yX6_init : MethodName := ⟨RX6, "<init>", "()V"⟩
abbrev cX6_add : ByteArray := prog_8_method_2_code
def yX6_add : MethodName := ⟨RX6, "add", "(I)V"⟩
abbrev cX6_first : ByteArray := prog_8_method_3_code
def yX6_first : MethodName := ⟨RX6, "first", "()V"⟩
abbrev cX6_next : ByteArray := prog_8_method_4_code
def yX6_next : MethodName := ⟨RX6, "next", "()V"⟩
abbrev cX6_tokenWith : ByteArray := prog_8_method_5_code
def yX6_tokenWith : MethodName := ⟨RX6, "tokenWith", "(I)I"⟩
abbrev cX6_byteAt : ByteArray := prog_8_method_6_code
def yX6_byteAt : MethodName := ⟨RX6, "byteAt", "(I)I"⟩
abbrev cX6_isWord : ByteArray := prog_8_method_7_code
def yX6_isWord : MethodName := ⟨RX6, "isWord", "(Ljava/lang/String;)Z"⟩
abbrev cX6_numberUpTo : ByteArray := prog_8_method_8_code
def yX6_numberUpTo : MethodName := ⟨RX6, "numberUpTo", "(I)I"⟩
def RX7 : String := "SeatStraps$Ways"
def TX7 : u_T := fun k => match k with
  | 0 => ("SeatStraps$Ways", "trial", "LSeatStraps$Car;", true)
  | 1 => ("SeatStraps$Ways", "three", "[I", true)
  | 2 => ("SeatStraps$Ways", "steps", "[I", true)
  | 3 => ("SeatStraps$Ways", "bestSteps", "[I", true)
  | _ => ("SeatStraps$Ways", "bestSeconds", "I", false)
def tyX7 : Nat → FieldType := fun k => match k with
  | 0 => .object "SeatStraps$Car"
  | 1 => .array .int
  | 2 => .array .int
  | 3 => .array .int
  | _ => .int
theorem nmX7 : ∀ a, a < 5 → ∀ b, b < 5 → a ≠ b → (TX7 a).2.1 ≠ (TX7 b).2.1 := by decide +kernel
theorem tyX7_ok : ∀ k, k < 5 → parseFieldDescriptor (TX7 k).2.2.1 = some (tyX7 k) := by decide +kernel
abbrev cX7_init : ByteArray := prog_9_method_1_code
def yX7_init : MethodName := ⟨RX7, "<init>", "()V"⟩
abbrev cX7_find : ByteArray := prog_9_method_2_code
def yX7_find : MethodName := ⟨RX7, "find", "(LSeatStraps$Car;I)V"⟩
abbrev cX7_listThree : ByteArray := prog_9_method_3_code
def yX7_listThree : MethodName := ⟨RX7, "listThree", "(I)V"⟩
abbrev cX7_findFrom : ByteArray := prog_9_method_4_code
def yX7_findFrom : MethodName := ⟨RX7, "findFrom", "(LSeatStraps$Car;II)V"⟩
abbrev cX7_takeStep : ByteArray := prog_9_method_5_code
def yX7_takeStep : MethodName := ⟨RX7, "takeStep", "(III)I"⟩
abbrev cX7_keepIfBetter : ByteArray := prog_9_method_6_code
def yX7_keepIfBetter : MethodName := ⟨RX7, "keepIfBetter", "(I)V"⟩
def RX8 : String := "SeatStraps"
def TX8 : u_T := fun k => match k with
  | 0 => ("SeatStraps", "live", "LSeatStraps$Car;", true)
  | 1 => ("SeatStraps", "kept", "LSeatStraps$Car;", true)
  | 2 => ("SeatStraps", "trial", "LSeatStraps$Car;", true)
  | 3 => ("SeatStraps", "text", "LSeatStraps$CarText;", true)
  | 4 => ("SeatStraps", "ways", "LSeatStraps$Ways;", true)
  | 5 => ("SeatStraps", "sheets", "[LSeatStraps$Sheet;", true)
  | 6 => ("SeatStraps", "told", "[I", true)
  | _ => ("SeatStraps", "somethingKept", "Z", false)
def tyX8 : Nat → FieldType := fun k => match k with
  | 0 => .object "SeatStraps$Car"
  | 1 => .object "SeatStraps$Car"
  | 2 => .object "SeatStraps$Car"
  | 3 => .object "SeatStraps$CarText"
  | 4 => .object "SeatStraps$Ways"
  | 5 => .array (.object "SeatStraps$Sheet")
  | 6 => .array .int
  | _ => .boolean
theorem nmX8 : ∀ a, a < 8 → ∀ b, b < 8 → a ≠ b → (TX8 a).2.1 ≠ (TX8 b).2.1 := by decide +kernel
theorem tyX8_ok : ∀ k, k < 8 → parseFieldDescriptor (TX8 k).2.2.1 = some (tyX8 k) := by decide +kernel
abbrev cX8_init : ByteArray := prog_1_method_1_code
def yX8_init : MethodName := ⟨RX8, "<init>", "()V"⟩
abbrev cX8_seat : ByteArray := prog_1_method_2_code
def yX8_seat : MethodName := ⟨RX8, "seat", "(III)I"⟩
abbrev cX8_seatOf : ByteArray := prog_1_method_3_code
def yX8_seatOf : MethodName := ⟨RX8, "seatOf", "(II)I"⟩
abbrev cX8_rain : ByteArray := prog_1_method_4_code
def yX8_rain : MethodName := ⟨RX8, "rain", "(I)I"⟩
abbrev cX8_child : ByteArray := prog_1_method_5_code
def yX8_child : MethodName := ⟨RX8, "child", "(I)I"⟩
abbrev cX8_of : ByteArray := prog_1_method_6_code
def yX8_of : MethodName := ⟨RX8, "of", "(II)I"⟩
abbrev cX8_set : ByteArray := prog_1_method_7_code
def yX8_set : MethodName := ⟨RX8, "set", "(III)I"⟩
abbrev cX8_turn : ByteArray := prog_1_method_8_code
def yX8_turn : MethodName := ⟨RX8, "turn", "(II)I"⟩
abbrev cX8_as : ByteArray := prog_1_method_9_code
def yX8_as : MethodName := ⟨RX8, "as", "(II)I"⟩
abbrev cX8_seconds : ByteArray := prog_1_method_10_code
def yX8_seconds : MethodName := ⟨RX8, "seconds", "(II)I"⟩
abbrev cX8_snug : ByteArray := prog_1_method_11_code
def yX8_snug : MethodName := ⟨RX8, "snug", "(II)I"⟩
abbrev cX8_click : ByteArray := prog_1_method_12_code
def yX8_click : MethodName := ⟨RX8, "click", "(II)I"⟩
abbrev cX8_letOut : ByteArray := prog_1_method_13_code
def yX8_letOut : MethodName := ⟨RX8, "letOut", "(I)I"⟩
abbrev cX8_bribe : ByteArray := prog_1_method_14_code
def yX8_bribe : MethodName := ⟨RX8, "bribe", "(I)I"⟩
abbrev cX8_drive : ByteArray := prog_1_method_15_code
def yX8_drive : MethodName := ⟨RX8, "drive", "(I)I"⟩
abbrev cX8_now : ByteArray := prog_1_method_16_code
def yX8_now : MethodName := ⟨RX8, "now", "(I)I"⟩
abbrev cX8_on : ByteArray := prog_1_method_17_code
def yX8_on : MethodName := ⟨RX8, "on", "(III)I"⟩
abbrev cX8_out : ByteArray := prog_1_method_18_code
def yX8_out : MethodName := ⟨RX8, "out", "(I)I"⟩
abbrev cX8_firstOut : ByteArray := prog_1_method_19_code
def yX8_firstOut : MethodName := ⟨RX8, "firstOut", "()I"⟩
abbrev cX8_quick : ByteArray := prog_1_method_20_code
def yX8_quick : MethodName := ⟨RX8, "quick", "(I)I"⟩
abbrev cX8_safe : ByteArray := prog_1_method_21_code
def yX8_safe : MethodName := ⟨RX8, "safe", "(I)I"⟩
abbrev cX8_all : ByteArray := prog_1_method_22_code
def yX8_all : MethodName := ⟨RX8, "all", "(I)I"⟩
abbrev cX8_way : ByteArray := prog_1_method_23_code
def yX8_way : MethodName := ⟨RX8, "way", "(II)I"⟩
abbrev cX8_kind : ByteArray := prog_1_method_24_code
def yX8_kind : MethodName := ⟨RX8, "kind", "(II)I"⟩
abbrev cX8_bribes : ByteArray := prog_1_method_25_code
def yX8_bribes : MethodName := ⟨RX8, "bribes", "(II)I"⟩
abbrev cX8_coat : ByteArray := prog_1_method_26_code
def yX8_coat : MethodName := ⟨RX8, "coat", "(II)I"⟩
abbrev cX8_mood : ByteArray := prog_1_method_27_code
def yX8_mood : MethodName := ⟨RX8, "mood", "(II)I"⟩
abbrev cX8_worst : ByteArray := prog_1_method_28_code
def yX8_worst : MethodName := ⟨RX8, "worst", "(I)I"⟩
abbrev cX8_feed : ByteArray := prog_1_method_29_code
def yX8_feed : MethodName := ⟨RX8, "feed", "(II)I"⟩
abbrev cX8_wipe : ByteArray := prog_1_method_30_code
def yX8_wipe : MethodName := ⟨RX8, "wipe", "()I"⟩
abbrev cX8_car : ByteArray := prog_1_method_31_code
def yX8_car : MethodName := ⟨RX8, "car", "()I"⟩
abbrev cX8_sheet : ByteArray := prog_1_method_32_code
def yX8_sheet : MethodName := ⟨RX8, "sheet", "(III)I"⟩
abbrev cX8_write : ByteArray := prog_1_method_33_code
def yX8_write : MethodName := ⟨RX8, "write", "(IIJ)J"⟩
abbrev cX8_copy : ByteArray := prog_1_method_34_code
def yX8_copy : MethodName := ⟨RX8, "copy", "(IIIII)I"⟩
abbrev cX8_lays : ByteArray := prog_1_method_35_code
def yX8_lays : MethodName := ⟨RX8, "lays", "(I)I"⟩
abbrev cX8_book : ByteArray := prog_1_method_36_code
def yX8_book : MethodName := ⟨RX8, "book", "(II)I"⟩
abbrev cX8_read : ByteArray := prog_1_method_37_code
def yX8_read : MethodName := ⟨RX8, "read", "(II)I"⟩
abbrev cX8_image : ByteArray := prog_1_method_38_code
def yX8_image : MethodName := ⟨RX8, "image", "()I"⟩
abbrev cX8_undo : ByteArray := prog_1_method_39_code
def yX8_undo : MethodName := ⟨RX8, "undo", "()I"⟩
abbrev cX8_tear : ByteArray := prog_1_method_40_code
def yX8_tear : MethodName := ⟨RX8, "tear", "()I"⟩
abbrev cX8_count : ByteArray := prog_1_method_41_code
def yX8_count : MethodName := ⟨RX8, "count", "(I)I"⟩
abbrev cX8_status : ByteArray := prog_1_method_42_code
def yX8_status : MethodName := ⟨RX8, "status", "(I)I"⟩
abbrev cX8_tell : ByteArray := prog_1_method_43_code
def yX8_tell : MethodName := ⟨RX8, "tell", "(I)I"⟩
abbrev cX8_staysInTrial : ByteArray := prog_1_method_44_code
def yX8_staysInTrial : MethodName := ⟨RX8, "staysInTrial", "(II)Z"⟩
abbrev cX8_trialTells : ByteArray := prog_1_method_45_code
def yX8_trialTells : MethodName := ⟨RX8, "trialTells", "(LSeatStraps$Sheet;I)Z"⟩
abbrev cX8_isSeat : ByteArray := prog_1_method_46_code
def yX8_isSeat : MethodName := ⟨RX8, "isSeat", "(I)Z"⟩
abbrev cX8_isKind : ByteArray := prog_1_method_47_code
def yX8_isKind : MethodName := ⟨RX8, "isKind", "(I)Z"⟩
abbrev cX8_isSheet : ByteArray := prog_1_method_48_code
def yX8_isSheet : MethodName := ⟨RX8, "isSheet", "(I)Z"⟩
def RX9 : String := "SeatStrapsModel"
def TX9 : u_T := fun k => match k with
  | 0 => ("SeatStrapsModel", "s", "[I", true)
  | 1 => ("SeatStrapsModel", "keptS", "[I", true)
  | 2 => ("SeatStrapsModel", "other", "[I", true)
  | 3 => ("SeatStrapsModel", "aside", "[I", true)
  | 4 => ("SeatStrapsModel", "statuses", "[I", true)
  | 5 => ("SeatStrapsModel", "isKept", "Z", false)
  | 6 => ("SeatStrapsModel", "steps", "[I", true)
  | 7 => ("SeatStrapsModel", "bestSteps", "[I", true)
  | 8 => ("SeatStrapsModel", "bestSeconds", "I", false)
  | 9 => ("SeatStrapsModel", "tape", "[I", true)
  | 10 => ("SeatStrapsModel", "taped", "I", false)
  | 11 => ("SeatStrapsModel", "from", "I", false)
  | 12 => ("SeatStrapsModel", "to", "I", false)
  | 13 => ("SeatStrapsModel", "value", "I", false)
  | 14 => ("SeatStrapsModel", "isWrong", "Z", false)
  | 15 => ("SeatStrapsModel", "bitsOf", "[I", true)
  | 16 => ("SeatStrapsModel", "sizeOf", "[I", true)
  | 17 => ("SeatStrapsModel", "numbers", "[J", true)
  | _ => ("SeatStrapsModel", "moved", "[J", true)
def tyX9 : Nat → FieldType := fun k => match k with
  | 0 => .array .int
  | 1 => .array .int
  | 2 => .array .int
  | 3 => .array .int
  | 4 => .array .int
  | 5 => .boolean
  | 6 => .array .int
  | 7 => .array .int
  | 8 => .int
  | 9 => .array .int
  | 10 => .int
  | 11 => .int
  | 12 => .int
  | 13 => .int
  | 14 => .boolean
  | 15 => .array .int
  | 16 => .array .int
  | 17 => .array .long
  | _ => .array .long
theorem nmX9 : ∀ a, a < 19 → ∀ b, b < 19 → a ≠ b → (TX9 a).2.1 ≠ (TX9 b).2.1 := by decide +kernel
theorem tyX9_ok : ∀ k, k < 19 → parseFieldDescriptor (TX9 k).2.2.1 = some (tyX9 k) := by decide +kernel
abbrev cX9_init : ByteArray := prog_11_method_1_code
def yX9_init : MethodName := ⟨RX9, "<init>", "()V"⟩
abbrev cX9_in : ByteArray := prog_11_method_2_code
def yX9_in : MethodName := ⟨RX9, "in", "(JJJ)Z"⟩
abbrev cX9_finds : ByteArray := prog_11_method_3_code
def yX9_finds : MethodName := ⟨RX9, "finds", "(I)I"⟩
abbrev cX9_saves : ByteArray := prog_11_method_4_code
def yX9_saves : MethodName := ⟨RX9, "saves", "()V"⟩
abbrev cX9_putsBack : ByteArray := prog_11_method_5_code
def yX9_putsBack : MethodName := ⟨RX9, "putsBack", "()V"⟩
abbrev cX9_laysAside : ByteArray := prog_11_method_6_code
def yX9_laysAside : MethodName := ⟨RX9, "laysAside", "()V"⟩
abbrev cX9_takesBack : ByteArray := prog_11_method_7_code
def yX9_takesBack : MethodName := ⟨RX9, "takesBack", "(I)I"⟩
abbrev cX9_becomes : ByteArray := prog_11_method_8_code
def yX9_becomes : MethodName := ⟨RX9, "becomes", "(II)I"⟩
abbrev cX9_isSeat : ByteArray := prog_11_method_9_code
def yX9_isSeat : MethodName := ⟨RX9, "isSeat", "(I)Z"⟩
abbrev cX9_isChild : ByteArray := prog_11_method_10_code
def yX9_isChild : MethodName := ⟨RX9, "isChild", "(I)Z"⟩
abbrev cX9_isKind : ByteArray := prog_11_method_11_code
def yX9_isKind : MethodName := ⟨RX9, "isKind", "(I)Z"⟩
abbrev cX9_spotOf : ByteArray := prog_11_method_12_code
def yX9_spotOf : MethodName := ⟨RX9, "spotOf", "(II)I"⟩
abbrev cX9_its : ByteArray := prog_11_method_13_code
def yX9_its : MethodName := ⟨RX9, "its", "(II)I"⟩
abbrev cX9_placeOf : ByteArray := prog_11_method_14_code
def yX9_placeOf : MethodName := ⟨RX9, "placeOf", "(II)I"⟩
abbrev cX9_told : ByteArray := prog_11_method_15_code
def yX9_told : MethodName := ⟨RX9, "told", "(II)I"⟩
abbrev cX9_seatedAt : ByteArray := prog_11_method_16_code
def yX9_seatedAt : MethodName := ⟨RX9, "seatedAt", "(I)I"⟩
abbrev cX9_isTaken : ByteArray := prog_11_method_17_code
def yX9_isTaken : MethodName := ⟨RX9, "isTaken", "(I)Z"⟩
abbrev cX9_seat : ByteArray := prog_11_method_18_code
def yX9_seat : MethodName := ⟨RX9, "seat", "(III)I"⟩
abbrev cX9_seatOf : ByteArray := prog_11_method_19_code
def yX9_seatOf : MethodName := ⟨RX9, "seatOf", "(II)I"⟩
abbrev cX9_rain : ByteArray := prog_11_method_20_code
def yX9_rain : MethodName := ⟨RX9, "rain", "(I)I"⟩
abbrev cX9_adds : ByteArray := prog_11_method_21_code
def yX9_adds : MethodName := ⟨RX9, "adds", "(I)I"⟩
abbrev cX9_child : ByteArray := prog_11_method_22_code
def yX9_child : MethodName := ⟨RX9, "child", "(I)I"⟩
abbrev cX9_isNear : ByteArray := prog_11_method_23_code
def yX9_isNear : MethodName := ⟨RX9, "isNear", "(I)Z"⟩
abbrev cX9_frets : ByteArray := prog_11_method_24_code
def yX9_frets : MethodName := ⟨RX9, "frets", "(I)I"⟩
abbrev cX9_of : ByteArray := prog_11_method_25_code
def yX9_of : MethodName := ⟨RX9, "of", "(II)I"⟩
abbrev cX9_set : ByteArray := prog_11_method_26_code
def yX9_set : MethodName := ⟨RX9, "set", "(III)I"⟩
abbrev cX9_turn : ByteArray := prog_11_method_27_code
def yX9_turn : MethodName := ⟨RX9, "turn", "(II)I"⟩
abbrev cX9_isUnder : ByteArray := prog_11_method_28_code
def yX9_isUnder : MethodName := ⟨RX9, "isUnder", "(II)Z"⟩
abbrev cX9_as : ByteArray := prog_11_method_29_code
def yX9_as : MethodName := ⟨RX9, "as", "(II)I"⟩
abbrev cX9_takes : ByteArray := prog_11_method_30_code
def yX9_takes : MethodName := ⟨RX9, "takes", "(II)I"⟩
abbrev cX9_secondsOf : ByteArray := prog_11_method_31_code
def yX9_secondsOf : MethodName := ⟨RX9, "secondsOf", "(II)I"⟩
abbrev cX9_snugOf : ByteArray := prog_11_method_32_code
def yX9_snugOf : MethodName := ⟨RX9, "snugOf", "(II)I"⟩
abbrev cX9_seconds : ByteArray := prog_11_method_33_code
def yX9_seconds : MethodName := ⟨RX9, "seconds", "(II)I"⟩
abbrev cX9_snug : ByteArray := prog_11_method_34_code
def yX9_snug : MethodName := ⟨RX9, "snug", "(II)I"⟩
abbrev cX9_heldTo : ByteArray := prog_11_method_35_code
def yX9_heldTo : MethodName := ⟨RX9, "heldTo", "(II)I"⟩
abbrev cX9_clicks : ByteArray := prog_11_method_36_code
def yX9_clicks : MethodName := ⟨RX9, "clicks", "(II)I"⟩
abbrev cX9_click : ByteArray := prog_11_method_37_code
def yX9_click : MethodName := ⟨RX9, "click", "(II)I"⟩
abbrev cX9_goesOut : ByteArray := prog_11_method_38_code
def yX9_goesOut : MethodName := ⟨RX9, "goesOut", "(I)V"⟩
abbrev cX9_letOut : ByteArray := prog_11_method_39_code
def yX9_letOut : MethodName := ⟨RX9, "letOut", "(I)I"⟩
abbrev cX9_bribed : ByteArray := prog_11_method_40_code
def yX9_bribed : MethodName := ⟨RX9, "bribed", "(I)V"⟩
abbrev cX9_bribe : ByteArray := prog_11_method_41_code
def yX9_bribe : MethodName := ⟨RX9, "bribe", "(I)I"⟩
abbrev cX9_minute : ByteArray := prog_11_method_42_code
def yX9_minute : MethodName := ⟨RX9, "minute", "()V"⟩
abbrev cX9_minutesGo : ByteArray := prog_11_method_43_code
def yX9_minutesGo : MethodName := ⟨RX9, "minutesGo", "(I)V"⟩
abbrev cX9_seated : ByteArray := prog_11_method_44_code
def yX9_seated : MethodName := ⟨RX9, "seated", "()I"⟩
abbrev cX9_drive : ByteArray := prog_11_method_45_code
def yX9_drive : MethodName := ⟨RX9, "drive", "(I)I"⟩
abbrev cX9_together : ByteArray := prog_11_method_46_code
def yX9_together : MethodName := ⟨RX9, "together", "(I)I"⟩
abbrev cX9_now : ByteArray := prog_11_method_47_code
def yX9_now : MethodName := ⟨RX9, "now", "(I)I"⟩
abbrev cX9_on : ByteArray := prog_11_method_48_code
def yX9_on : MethodName := ⟨RX9, "on", "(III)I"⟩
abbrev cX9_outIn : ByteArray := prog_11_method_49_code
def yX9_outIn : MethodName := ⟨RX9, "outIn", "(II)I"⟩
abbrev cX9_out : ByteArray := prog_11_method_50_code
def yX9_out : MethodName := ⟨RX9, "out", "(I)I"⟩
abbrev cX9_firstOut : ByteArray := prog_11_method_51_code
def yX9_firstOut : MethodName := ⟨RX9, "firstOut", "()I"⟩
abbrev cX9_wrongSeeker : ByteArray := prog_11_method_52_code
def yX9_wrongSeeker : MethodName := ⟨RX9, "wrongSeeker", "(I)I"⟩
abbrev cX9_quick : ByteArray := prog_11_method_53_code
def yX9_quick : MethodName := ⟨RX9, "quick", "(I)I"⟩
abbrev cX9_safe : ByteArray := prog_11_method_54_code
def yX9_safe : MethodName := ⟨RX9, "safe", "(I)I"⟩
abbrev cX9_ones : ByteArray := prog_11_method_55_code
def yX9_ones : MethodName := ⟨RX9, "ones", "(I)I"⟩
abbrev cX9_wrongThree : ByteArray := prog_11_method_56_code
def yX9_wrongThree : MethodName := ⟨RX9, "wrongThree", "(I)I"⟩
abbrev cX9_isWay : ByteArray := prog_11_method_57_code
def yX9_isWay : MethodName := ⟨RX9, "isWay", "(II)Z"⟩
abbrev cX9_findWay : ByteArray := prog_11_method_58_code
def yX9_findWay : MethodName := ⟨RX9, "findWay", "(I)V"⟩
abbrev cX9_all : ByteArray := prog_11_method_59_code
def yX9_all : MethodName := ⟨RX9, "all", "(I)I"⟩
abbrev cX9_way : ByteArray := prog_11_method_60_code
def yX9_way : MethodName := ⟨RX9, "way", "(II)I"⟩
abbrev cX9_kind : ByteArray := prog_11_method_61_code
def yX9_kind : MethodName := ⟨RX9, "kind", "(II)I"⟩
abbrev cX9_wrongStay : ByteArray := prog_11_method_62_code
def yX9_wrongStay : MethodName := ⟨RX9, "wrongStay", "(II)I"⟩
abbrev cX9_isInStill : ByteArray := prog_11_method_63_code
def yX9_isInStill : MethodName := ⟨RX9, "isInStill", "(II)Z"⟩
abbrev cX9_bribes : ByteArray := prog_11_method_64_code
def yX9_bribes : MethodName := ⟨RX9, "bribes", "(II)I"⟩
abbrev cX9_coat : ByteArray := prog_11_method_65_code
def yX9_coat : MethodName := ⟨RX9, "coat", "(II)I"⟩
abbrev cX9_mood : ByteArray := prog_11_method_66_code
def yX9_mood : MethodName := ⟨RX9, "mood", "(II)I"⟩
abbrev cX9_worst : ByteArray := prog_11_method_67_code
def yX9_worst : MethodName := ⟨RX9, "worst", "(I)I"⟩
abbrev cX9_feed : ByteArray := prog_11_method_68_code
def yX9_feed : MethodName := ⟨RX9, "feed", "(II)I"⟩
abbrev cX9_wipe : ByteArray := prog_11_method_69_code
def yX9_wipe : MethodName := ⟨RX9, "wipe", "()I"⟩
abbrev cX9_byteAt : ByteArray := prog_11_method_70_code
def yX9_byteAt : MethodName := ⟨RX9, "byteAt", "(I)I"⟩
abbrev cX9_isLetter : ByteArray := prog_11_method_71_code
def yX9_isLetter : MethodName := ⟨RX9, "isLetter", "(I)Z"⟩
abbrev cX9_isDigit : ByteArray := prog_11_method_72_code
def yX9_isDigit : MethodName := ⟨RX9, "isDigit", "(I)Z"⟩
abbrev cX9_token : ByteArray := prog_11_method_73_code
def yX9_token : MethodName := ⟨RX9, "token", "()V"⟩
abbrev cX9_must : ByteArray := prog_11_method_74_code
def yX9_must : MethodName := ⟨RX9, "must", "(Z)V"⟩
abbrev cX9_word : ByteArray := prog_11_method_75_code
def yX9_word : MethodName := ⟨RX9, "word", "()J"⟩
abbrev cX9_number : ByteArray := prog_11_method_76_code
def yX9_number : MethodName := ⟨RX9, "number", "(II)V"⟩
abbrev cX9_kindHere : ByteArray := prog_11_method_77_code
def yX9_kindHere : MethodName := ⟨RX9, "kindHere", "()I"⟩
abbrev cX9_partItem : ByteArray := prog_11_method_78_code
def yX9_partItem : MethodName := ⟨RX9, "partItem", "(JII)V"⟩
abbrev cX9_mayBe : ByteArray := prog_11_method_79_code
def yX9_mayBe : MethodName := ⟨RX9, "mayBe", "(J)Z"⟩
abbrev cX9_childItem : ByteArray := prog_11_method_80_code
def yX9_childItem : MethodName := ⟨RX9, "childItem", "(I)V"⟩
abbrev cX9_seatItem : ByteArray := prog_11_method_81_code
def yX9_seatItem : MethodName := ⟨RX9, "seatItem", "()V"⟩
abbrev cX9_item : ByteArray := prog_11_method_82_code
def yX9_item : MethodName := ⟨RX9, "item", "()V"⟩
abbrev cX9_car : ByteArray := prog_11_method_83_code
def yX9_car : MethodName := ⟨RX9, "car", "()I"⟩
abbrev cX9_isOne : ByteArray := prog_11_method_84_code
def yX9_isOne : MethodName := ⟨RX9, "isOne", "(I)Z"⟩
abbrev cX9_sheet : ByteArray := prog_11_method_85_code
def yX9_sheet : MethodName := ⟨RX9, "sheet", "(III)I"⟩
abbrev cX9_narrowed : ByteArray := prog_11_method_86_code
def yX9_narrowed : MethodName := ⟨RX9, "narrowed", "(IJ)J"⟩
abbrev cX9_wrongSheet : ByteArray := prog_11_method_87_code
def yX9_wrongSheet : MethodName := ⟨RX9, "wrongSheet", "(I)I"⟩
abbrev cX9_write : ByteArray := prog_11_method_88_code
def yX9_write : MethodName := ⟨RX9, "write", "(IIJ)J"⟩
abbrev cX9_copy : ByteArray := prog_11_method_89_code
def yX9_copy : MethodName := ⟨RX9, "copy", "(IIIII)I"⟩
abbrev cX9_lays : ByteArray := prog_11_method_90_code
def yX9_lays : MethodName := ⟨RX9, "lays", "(I)I"⟩
abbrev cX9_wrongBook : ByteArray := prog_11_method_91_code
def yX9_wrongBook : MethodName := ⟨RX9, "wrongBook", "(II)I"⟩
abbrev cX9_book : ByteArray := prog_11_method_92_code
def yX9_book : MethodName := ⟨RX9, "book", "(II)I"⟩
abbrev cX9_isBook : ByteArray := prog_11_method_93_code
def yX9_isBook : MethodName := ⟨RX9, "isBook", "(II)Z"⟩
abbrev cX9_read : ByteArray := prog_11_method_94_code
def yX9_read : MethodName := ⟨RX9, "read", "(II)I"⟩
abbrev cX9_image : ByteArray := prog_11_method_95_code
def yX9_image : MethodName := ⟨RX9, "image", "()I"⟩
abbrev cX9_undo : ByteArray := prog_11_method_96_code
def yX9_undo : MethodName := ⟨RX9, "undo", "()I"⟩
abbrev cX9_tear : ByteArray := prog_11_method_97_code
def yX9_tear : MethodName := ⟨RX9, "tear", "()I"⟩
abbrev cX9_wears : ByteArray := prog_11_method_98_code
def yX9_wears : MethodName := ⟨RX9, "wears", "()I"⟩
abbrev cX9_count : ByteArray := prog_11_method_99_code
def yX9_count : MethodName := ⟨RX9, "count", "(I)I"⟩
abbrev cX9_status : ByteArray := prog_11_method_100_code
def yX9_status : MethodName := ⟨RX9, "status", "(I)I"⟩
def RJ6 : String := "java/lang/Integer"
abbrev cJ6_bitCount_0f7a4 : ByteArray := prog_12_method_49_code
def yJ6_bitCount_0f7a4 : MethodName := ⟨RJ6, "bitCount", "(I)I"⟩
def RJ9 : String := "java/lang/Math"
abbrev cJ9_max_7cf53 : ByteArray := prog_13_method_65_code
def yJ9_max_7cf53 : MethodName := ⟨RJ9, "max", "(II)I"⟩
abbrev cJ9_min_7cf53 : ByteArray := prog_13_method_69_code
def yJ9_min_7cf53 : MethodName := ⟨RJ9, "min", "(II)I"⟩
def RJ0 : String := "java/lang/String"
abbrev cJ0_length_8abf5 : ByteArray := prog_14_method_54_code
def yJ0_length_8abf5 : MethodName := ⟨RJ0, "length", "()I"⟩
abbrev cJ0_charAt_5068e : ByteArray := prog_14_method_56_code
def yJ0_charAt_5068e : MethodName := ⟨RJ0, "charAt", "(I)C"⟩
abbrev cJ0_coder_7d493 : ByteArray := prog_14_method_152_code
def yJ0_coder_7d493 : MethodName := ⟨RJ0, "coder", "()B"⟩
abbrev cJ0_isLatin1_aae02 : ByteArray := prog_14_method_154_code
def yJ0_isLatin1_aae02 : MethodName := ⟨RJ0, "isLatin1", "()Z"⟩
abbrev cJ0_checkIndex_df160 : ByteArray := prog_14_method_155_code
def yJ0_checkIndex_df160 : MethodName := ⟨RJ0, "checkIndex", "(II)V"⟩
def RJ1 : String := "java/lang/StringLatin1"
abbrev cJ1_charAt_3b067 : ByteArray := prog_15_method_2_code
def yJ1_charAt_3b067 : MethodName := ⟨RJ1, "charAt", "([BI)C"⟩
def RJ2 : String := "java/lang/StringUTF16"
abbrev cJ2_getChar_3b067 : ByteArray := prog_16_method_5_code
def yJ2_getChar_3b067 : MethodName := ⟨RJ2, "getChar", "([BI)C"⟩
abbrev cJ2_length_9d52b : ByteArray := prog_16_method_6_code
def yJ2_length_9d52b : MethodName := ⟨RJ2, "length", "([B)I"⟩
abbrev cJ2_charAt_3b067 : ByteArray := prog_16_method_83_code
def yJ2_charAt_3b067 : MethodName := ⟨RJ2, "charAt", "([BI)C"⟩
abbrev cJ2_checkIndex_2214a : ByteArray := prog_16_method_91_code
def yJ2_checkIndex_2214a : MethodName := ⟨RJ2, "checkIndex", "(I[B)V"⟩
def RJ10 : String := "java/lang/System"
def RJ3 : String := "jdk/internal/util/Preconditions"
abbrev cJ3_checkIndex_8e157 : ByteArray := prog_18_method_11_code
def yJ3_checkIndex_8e157 : MethodName := ⟨RJ3, "checkIndex", "(IILjava/util/function/BiFunction;)I"⟩
def RL : String := "SeatStrapsLaw"
abbrev cL_law : ByteArray := code
abbrev vwCl : List vw_C := [(RX0, TX0, 6), (RX1, TX1, 2), (RX2, TX2, 7), (RX4, TX4, 5), (RX5, TX5, 3), (RX6, TX6, 6), (RX7, TX7, 5), (RX8, TX8, 8), (RX9, TX9, 19)]
end
section
theorem dX0_init_0 : decode cX0_init 0 = .ok (.aload_n 0, 1) := by decide +kernel
theorem dX0_init_1 : decode cX0_init 1 = .ok (.invokespecial 3, 3) := by decide +kernel
theorem dX0_init_4 : decode cX0_init 4 = .ok (.aload_n 0, 1) := by decide +kernel
theorem dX0_init_5 : decode cX0_init 5 = .ok (.iconst 3, 1) := by decide +kernel
theorem dX0_init_6 : decode cX0_init 6 = .ok (.anewarray 9, 3) := by decide +kernel
theorem dX0_init_9 : decode cX0_init 9 = .ok (.putfield 11, 3) := by decide +kernel
theorem dX0_init_12 : decode cX0_init 12 = .ok (.aload_n 0, 1) := by decide +kernel
theorem dX0_init_13 : decode cX0_init 13 = .ok (.bipush 6, 2) := by decide +kernel
theorem dX0_init_15 : decode cX0_init 15 = .ok (.anewarray 17, 3) := by decide +kernel
theorem dX0_init_18 : decode cX0_init 18 = .ok (.putfield 19, 3) := by decide +kernel
theorem dX0_init_21 : decode cX0_init 21 = .ok (.aload_n 0, 1) := by decide +kernel
theorem dX0_init_22 : decode cX0_init 22 = .ok (.iconst 0, 1) := by decide +kernel
theorem dX0_init_23 : decode cX0_init 23 = .ok (.putfield 23, 3) := by decide +kernel
theorem dX0_init_26 : decode cX0_init 26 = .ok (.aload_n 0, 1) := by decide +kernel
theorem dX0_init_27 : decode cX0_init 27 = .ok (.iconst 0, 1) := by decide +kernel
theorem dX0_init_28 : decode cX0_init 28 = .ok (.putfield 27, 3) := by decide +kernel
theorem dX0_init_31 : decode cX0_init 31 = .ok (.aload_n 0, 1) := by decide +kernel
theorem dX0_init_32 : decode cX0_init 32 = .ok (.iconst 0, 1) := by decide +kernel
theorem dX0_init_33 : decode cX0_init 33 = .ok (.putfield 30, 3) := by decide +kernel
theorem dX0_init_36 : decode cX0_init 36 = .ok (.aload_n 0, 1) := by decide +kernel
theorem dX0_init_37 : decode cX0_init 37 = .ok (.iconst 0, 1) := by decide +kernel
theorem dX0_init_38 : decode cX0_init 38 = .ok (.putfield 33, 3) := by decide +kernel
theorem dX0_init_41 : decode cX0_init 41 = .ok (.iconst 0, 1) := by decide +kernel
theorem dX0_init_42 : decode cX0_init 42 = .ok (.istore_n 1, 1) := by decide +kernel
theorem dX0_init_43 : decode cX0_init 43 = .ok (.iload_n 1, 1) := by decide +kernel
theorem dX0_init_44 : decode cX0_init 44 = .ok (.iconst 3, 1) := by decide +kernel
theorem dX0_init_45 : decode cX0_init 45 = .ok (.if_icmp .ge 22, 3) := by decide +kernel
theorem dX0_init_48 : decode cX0_init 48 = .ok (.aload_n 0, 1) := by decide +kernel
theorem dX0_init_49 : decode cX0_init 49 = .ok (.getfield 11, 3) := by decide +kernel
theorem dX0_init_52 : decode cX0_init 52 = .ok (.iload_n 1, 1) := by decide +kernel
theorem dX0_init_53 : decode cX0_init 53 = .ok (.new 9, 3) := by decide +kernel
theorem dX0_init_56 : decode cX0_init 56 = .ok (.dup, 1) := by decide +kernel
theorem dX0_init_57 : decode cX0_init 57 = .ok (.invokespecial 36, 3) := by decide +kernel
theorem dX0_init_60 : decode cX0_init 60 = .ok (.aastore, 1) := by decide +kernel
theorem dX0_init_61 : decode cX0_init 61 = .ok (.iinc 1 1, 3) := by decide +kernel
theorem dX0_init_64 : decode cX0_init 64 = .ok (.goto (-21), 3) := by decide +kernel
theorem dX0_init_67 : decode cX0_init 67 = .ok (.iconst 0, 1) := by decide +kernel
theorem dX0_init_68 : decode cX0_init 68 = .ok (.istore_n 1, 1) := by decide +kernel
theorem dX0_init_69 : decode cX0_init 69 = .ok (.iload_n 1, 1) := by decide +kernel
theorem dX0_init_70 : decode cX0_init 70 = .ok (.bipush 6, 2) := by decide +kernel
theorem dX0_init_72 : decode cX0_init 72 = .ok (.if_icmp .ge 22, 3) := by decide +kernel
theorem dX0_init_75 : decode cX0_init 75 = .ok (.aload_n 0, 1) := by decide +kernel
theorem dX0_init_76 : decode cX0_init 76 = .ok (.getfield 19, 3) := by decide +kernel
theorem dX0_init_79 : decode cX0_init 79 = .ok (.iload_n 1, 1) := by decide +kernel
theorem dX0_init_80 : decode cX0_init 80 = .ok (.new 17, 3) := by decide +kernel
theorem dX0_init_83 : decode cX0_init 83 = .ok (.dup, 1) := by decide +kernel
theorem dX0_init_84 : decode cX0_init 84 = .ok (.invokespecial 37, 3) := by decide +kernel
theorem dX0_init_87 : decode cX0_init 87 = .ok (.aastore, 1) := by decide +kernel
theorem dX0_init_88 : decode cX0_init 88 = .ok (.iinc 1 1, 3) := by decide +kernel
theorem dX0_init_91 : decode cX0_init 91 = .ok (.goto (-22), 3) := by decide +kernel
theorem dX0_init_94 : decode cX0_init 94 = .ok (.return_, 1) := by decide +kernel
theorem dX0_become_0 : decode cX0_become 0 = .ok (.iconst 0, 1) := by decide +kernel
theorem dX0_become_1 : decode cX0_become 1 = .ok (.istore_n 2, 1) := by decide +kernel
theorem dX0_become_2 : decode cX0_become 2 = .ok (.iload_n 2, 1) := by decide +kernel
theorem dX0_become_3 : decode cX0_become 3 = .ok (.iconst 3, 1) := by decide +kernel
theorem dX0_become_4 : decode cX0_become 4 = .ok (.if_icmp .ge 24, 3) := by decide +kernel
theorem dX0_become_7 : decode cX0_become 7 = .ok (.aload_n 0, 1) := by decide +kernel
theorem dX0_become_8 : decode cX0_become 8 = .ok (.getfield 11, 3) := by decide +kernel
theorem dX0_become_11 : decode cX0_become 11 = .ok (.iload_n 2, 1) := by decide +kernel
theorem dX0_become_12 : decode cX0_become 12 = .ok (.aaload, 1) := by decide +kernel
theorem dX0_become_13 : decode cX0_become 13 = .ok (.aload_n 1, 1) := by decide +kernel
theorem dX0_become_14 : decode cX0_become 14 = .ok (.getfield 11, 3) := by decide +kernel
theorem dX0_become_17 : decode cX0_become 17 = .ok (.iload_n 2, 1) := by decide +kernel
theorem dX0_become_18 : decode cX0_become 18 = .ok (.aaload, 1) := by decide +kernel
theorem dX0_become_19 : decode cX0_become 19 = .ok (.invokevirtual 38, 3) := by decide +kernel
theorem dX0_become_22 : decode cX0_become 22 = .ok (.iinc 2 1, 3) := by decide +kernel
theorem dX0_become_25 : decode cX0_become 25 = .ok (.goto (-23), 3) := by decide +kernel
theorem dX0_become_28 : decode cX0_become 28 = .ok (.iconst 0, 1) := by decide +kernel
theorem dX0_become_29 : decode cX0_become 29 = .ok (.istore_n 2, 1) := by decide +kernel
theorem dX0_become_30 : decode cX0_become 30 = .ok (.iload_n 2, 1) := by decide +kernel
theorem dX0_become_31 : decode cX0_become 31 = .ok (.aload_n 1, 1) := by decide +kernel
theorem dX0_become_32 : decode cX0_become 32 = .ok (.getfield 23, 3) := by decide +kernel
theorem dX0_become_35 : decode cX0_become 35 = .ok (.if_icmp .ge 24, 3) := by decide +kernel
theorem dX0_become_38 : decode cX0_become 38 = .ok (.aload_n 0, 1) := by decide +kernel
theorem dX0_become_39 : decode cX0_become 39 = .ok (.getfield 19, 3) := by decide +kernel
theorem dX0_become_42 : decode cX0_become 42 = .ok (.iload_n 2, 1) := by decide +kernel
theorem dX0_become_43 : decode cX0_become 43 = .ok (.aaload, 1) := by decide +kernel
theorem dX0_become_44 : decode cX0_become 44 = .ok (.aload_n 1, 1) := by decide +kernel
theorem dX0_become_45 : decode cX0_become 45 = .ok (.getfield 19, 3) := by decide +kernel
theorem dX0_become_48 : decode cX0_become 48 = .ok (.iload_n 2, 1) := by decide +kernel
theorem dX0_become_49 : decode cX0_become 49 = .ok (.aaload, 1) := by decide +kernel
theorem dX0_become_50 : decode cX0_become 50 = .ok (.invokevirtual 42, 3) := by decide +kernel
theorem dX0_become_53 : decode cX0_become 53 = .ok (.iinc 2 1, 3) := by decide +kernel
theorem dX0_become_56 : decode cX0_become 56 = .ok (.goto (-26), 3) := by decide +kernel
theorem dX0_become_59 : decode cX0_become 59 = .ok (.aload_n 0, 1) := by decide +kernel
theorem dX0_become_60 : decode cX0_become 60 = .ok (.aload_n 1, 1) := by decide +kernel
theorem dX0_become_61 : decode cX0_become 61 = .ok (.getfield 23, 3) := by decide +kernel
theorem dX0_become_64 : decode cX0_become 64 = .ok (.putfield 23, 3) := by decide +kernel
theorem dX0_become_67 : decode cX0_become 67 = .ok (.aload_n 0, 1) := by decide +kernel
theorem dX0_become_68 : decode cX0_become 68 = .ok (.aload_n 1, 1) := by decide +kernel
theorem dX0_become_69 : decode cX0_become 69 = .ok (.getfield 27, 3) := by decide +kernel
theorem dX0_become_72 : decode cX0_become 72 = .ok (.putfield 27, 3) := by decide +kernel
theorem dX0_become_75 : decode cX0_become 75 = .ok (.aload_n 0, 1) := by decide +kernel
theorem dX0_become_76 : decode cX0_become 76 = .ok (.aload_n 1, 1) := by decide +kernel
theorem dX0_become_77 : decode cX0_become 77 = .ok (.getfield 30, 3) := by decide +kernel
theorem dX0_become_80 : decode cX0_become 80 = .ok (.putfield 30, 3) := by decide +kernel
theorem dX0_become_83 : decode cX0_become 83 = .ok (.aload_n 0, 1) := by decide +kernel
theorem dX0_become_84 : decode cX0_become 84 = .ok (.aload_n 1, 1) := by decide +kernel
theorem dX0_become_85 : decode cX0_become 85 = .ok (.getfield 33, 3) := by decide +kernel
theorem dX0_become_88 : decode cX0_become 88 = .ok (.putfield 33, 3) := by decide +kernel
theorem dX0_become_91 : decode cX0_become 91 = .ok (.return_, 1) := by decide +kernel
theorem dX0_has_0 : decode cX0_has 0 = .ok (.iload_n 1, 1) := by decide +kernel
theorem dX0_has_1 : decode cX0_has 1 = .ok (.ifCond .lt 15, 3) := by decide +kernel
theorem dX0_has_4 : decode cX0_has 4 = .ok (.iload_n 1, 1) := by decide +kernel
theorem dX0_has_5 : decode cX0_has 5 = .ok (.aload_n 0, 1) := by decide +kernel
theorem dX0_has_6 : decode cX0_has 6 = .ok (.getfield 23, 3) := by decide +kernel
theorem dX0_has_9 : decode cX0_has 9 = .ok (.if_icmp .ge 7, 3) := by decide +kernel
theorem dX0_has_12 : decode cX0_has 12 = .ok (.iconst 1, 1) := by decide +kernel
theorem dX0_has_13 : decode cX0_has 13 = .ok (.goto 4, 3) := by decide +kernel
theorem dX0_has_16 : decode cX0_has 16 = .ok (.iconst 0, 1) := by decide +kernel
theorem dX0_has_17 : decode cX0_has 17 = .ok (.ireturn, 1) := by decide +kernel
theorem dX0_hasSet_0 : decode cX0_hasSet 0 = .ok (.iload_n 1, 1) := by decide +kernel
theorem dX0_hasSet_1 : decode cX0_hasSet 1 = .ok (.ifCond .lt 17, 3) := by decide +kernel
theorem dX0_hasSet_4 : decode cX0_hasSet 4 = .ok (.iload_n 1, 1) := by decide +kernel
theorem dX0_hasSet_5 : decode cX0_hasSet 5 = .ok (.iconst 1, 1) := by decide +kernel
theorem dX0_hasSet_6 : decode cX0_hasSet 6 = .ok (.aload_n 0, 1) := by decide +kernel
theorem dX0_hasSet_7 : decode cX0_hasSet 7 = .ok (.getfield 23, 3) := by decide +kernel
theorem dX0_hasSet_10 : decode cX0_hasSet 10 = .ok (.ishl, 1) := by decide +kernel
theorem dX0_hasSet_11 : decode cX0_hasSet 11 = .ok (.if_icmp .ge 7, 3) := by decide +kernel
theorem dX0_hasSet_14 : decode cX0_hasSet 14 = .ok (.iconst 1, 1) := by decide +kernel
theorem dX0_hasSet_15 : decode cX0_hasSet 15 = .ok (.goto 4, 3) := by decide +kernel
theorem dX0_hasSet_18 : decode cX0_hasSet 18 = .ok (.iconst 0, 1) := by decide +kernel
theorem dX0_hasSet_19 : decode cX0_hasSet 19 = .ok (.ireturn, 1) := by decide +kernel
theorem dX0_isFull_0 : decode cX0_isFull 0 = .ok (.aload_n 0, 1) := by decide +kernel
theorem dX0_isFull_1 : decode cX0_isFull 1 = .ok (.getfield 23, 3) := by decide +kernel
theorem dX0_isFull_4 : decode cX0_isFull 4 = .ok (.bipush 6, 2) := by decide +kernel
theorem dX0_isFull_6 : decode cX0_isFull 6 = .ok (.if_icmp .lt 7, 3) := by decide +kernel
theorem dX0_isFull_9 : decode cX0_isFull 9 = .ok (.iconst 1, 1) := by decide +kernel
theorem dX0_isFull_10 : decode cX0_isFull 10 = .ok (.goto 4, 3) := by decide +kernel
theorem dX0_isFull_13 : decode cX0_isFull 13 = .ok (.iconst 0, 1) := by decide +kernel
theorem dX0_isFull_14 : decode cX0_isFull 14 = .ok (.ireturn, 1) := by decide +kernel
theorem dX0_add_0 : decode cX0_add 0 = .ok (.aload_n 0, 1) := by decide +kernel
theorem dX0_add_1 : decode cX0_add 1 = .ok (.getfield 19, 3) := by decide +kernel
theorem dX0_add_4 : decode cX0_add 4 = .ok (.aload_n 0, 1) := by decide +kernel
theorem dX0_add_5 : decode cX0_add 5 = .ok (.getfield 23, 3) := by decide +kernel
theorem dX0_add_8 : decode cX0_add 8 = .ok (.aaload, 1) := by decide +kernel
theorem dX0_add_9 : decode cX0_add 9 = .ok (.iload_n 1, 1) := by decide +kernel
theorem dX0_add_10 : decode cX0_add 10 = .ok (.invokevirtual 45, 3) := by decide +kernel
theorem dX0_add_13 : decode cX0_add 13 = .ok (.aload_n 0, 1) := by decide +kernel
theorem dX0_add_14 : decode cX0_add 14 = .ok (.dup, 1) := by decide +kernel
theorem dX0_add_15 : decode cX0_add 15 = .ok (.getfield 23, 3) := by decide +kernel
theorem dX0_add_18 : decode cX0_add 18 = .ok (.iconst 1, 1) := by decide +kernel
theorem dX0_add_19 : decode cX0_add 19 = .ok (.iadd, 1) := by decide +kernel
theorem dX0_add_20 : decode cX0_add 20 = .ok (.putfield 23, 3) := by decide +kernel
theorem dX0_add_23 : decode cX0_add 23 = .ok (.aload_n 0, 1) := by decide +kernel
theorem dX0_add_24 : decode cX0_add 24 = .ok (.getfield 23, 3) := by decide +kernel
theorem dX0_add_27 : decode cX0_add 27 = .ok (.iconst 1, 1) := by decide +kernel
theorem dX0_add_28 : decode cX0_add 28 = .ok (.isub, 1) := by decide +kernel
theorem dX0_add_29 : decode cX0_add 29 = .ok (.ireturn, 1) := by decide +kernel
theorem dX0_secondsFor_0 : decode cX0_secondsFor 0 = .ok (.aload_n 0, 1) := by decide +kernel
theorem dX0_secondsFor_1 : decode cX0_secondsFor 1 = .ok (.aload_n 0, 1) := by decide +kernel
theorem dX0_secondsFor_2 : decode cX0_secondsFor 2 = .ok (.getfield 19, 3) := by decide +kernel
theorem dX0_secondsFor_5 : decode cX0_secondsFor 5 = .ok (.iload_n 1, 1) := by decide +kernel
theorem dX0_secondsFor_6 : decode cX0_secondsFor 6 = .ok (.aaload, 1) := by decide +kernel
theorem dX0_secondsFor_7 : decode cX0_secondsFor 7 = .ok (.getfield 49, 3) := by decide +kernel
theorem dX0_secondsFor_10 : decode cX0_secondsFor 10 = .ok (.iload_n 1, 1) := by decide +kernel
theorem dX0_secondsFor_11 : decode cX0_secondsFor 11 = .ok (.iload_n 2, 1) := by decide +kernel
theorem dX0_secondsFor_12 : decode cX0_secondsFor 12 = .ok (.invokevirtual 52, 3) := by decide +kernel
theorem dX0_secondsFor_15 : decode cX0_secondsFor 15 = .ok (.ireturn, 1) := by decide +kernel
theorem dX0_secondsAs_0 : decode cX0_secondsAs 0 = .ok (.aload_n 0, 1) := by decide +kernel
theorem dX0_secondsAs_1 : decode cX0_secondsAs 1 = .ok (.getfield 11, 3) := by decide +kernel
theorem dX0_secondsAs_4 : decode cX0_secondsAs 4 = .ok (.iload_n 3, 1) := by decide +kernel
theorem dX0_secondsAs_5 : decode cX0_secondsAs 5 = .ok (.aaload, 1) := by decide +kernel
theorem dX0_secondsAs_6 : decode cX0_secondsAs 6 = .ok (.astore 4, 2) := by decide +kernel
theorem dX0_secondsAs_8 : decode cX0_secondsAs 8 = .ok (.aload_n 0, 1) := by decide +kernel
theorem dX0_secondsAs_9 : decode cX0_secondsAs 9 = .ok (.getfield 19, 3) := by decide +kernel
theorem dX0_secondsAs_12 : decode cX0_secondsAs 12 = .ok (.iload_n 2, 1) := by decide +kernel
theorem dX0_secondsAs_13 : decode cX0_secondsAs 13 = .ok (.aaload, 1) := by decide +kernel
theorem dX0_secondsAs_14 : decode cX0_secondsAs 14 = .ok (.astore 5, 2) := by decide +kernel
theorem dX0_secondsAs_16 : decode cX0_secondsAs 16 = .ok (.iload_n 1, 1) := by decide +kernel
theorem dX0_secondsAs_17 : decode cX0_secondsAs 17 = .ok (.aload 5, 2) := by decide +kernel
theorem dX0_secondsAs_19 : decode cX0_secondsAs 19 = .ok (.aload 4, 2) := by decide +kernel
theorem dX0_secondsAs_21 : decode cX0_secondsAs 21 = .ok (.invokestatic 56, 3) := by decide +kernel
theorem dX0_secondsAs_24 : decode cX0_secondsAs 24 = .ok (.iconst 5, 1) := by decide +kernel
theorem dX0_secondsAs_25 : decode cX0_secondsAs 25 = .ok (.aload 4, 2) := by decide +kernel
theorem dX0_secondsAs_27 : decode cX0_secondsAs 27 = .ok (.getfield 62, 3) := by decide +kernel
theorem dX0_secondsAs_30 : decode cX0_secondsAs 30 = .ok (.imul, 1) := by decide +kernel
theorem dX0_secondsAs_31 : decode cX0_secondsAs 31 = .ok (.iadd, 1) := by decide +kernel
theorem dX0_secondsAs_32 : decode cX0_secondsAs 32 = .ok (.iconst 2, 1) := by decide +kernel
theorem dX0_secondsAs_33 : decode cX0_secondsAs 33 = .ok (.aload 4, 2) := by decide +kernel
theorem dX0_secondsAs_35 : decode cX0_secondsAs 35 = .ok (.getfield 65, 3) := by decide +kernel
theorem dX0_secondsAs_38 : decode cX0_secondsAs 38 = .ok (.imul, 1) := by decide +kernel
theorem dX0_secondsAs_39 : decode cX0_secondsAs 39 = .ok (.iadd, 1) := by decide +kernel
theorem dX0_secondsAs_40 : decode cX0_secondsAs 40 = .ok (.iconst 4, 1) := by decide +kernel
theorem dX0_secondsAs_41 : decode cX0_secondsAs 41 = .ok (.aload 5, 2) := by decide +kernel
theorem dX0_secondsAs_43 : decode cX0_secondsAs 43 = .ok (.getfield 68, 3) := by decide +kernel
theorem dX0_secondsAs_46 : decode cX0_secondsAs 46 = .ok (.imul, 1) := by decide +kernel
theorem dX0_secondsAs_47 : decode cX0_secondsAs 47 = .ok (.iadd, 1) := by decide +kernel
theorem dX0_secondsAs_48 : decode cX0_secondsAs 48 = .ok (.aload_n 0, 1) := by decide +kernel
theorem dX0_secondsAs_49 : decode cX0_secondsAs 49 = .ok (.getfield 27, 3) := by decide +kernel
theorem dX0_secondsAs_52 : decode cX0_secondsAs 52 = .ok (.iadd, 1) := by decide +kernel
theorem dX0_secondsAs_53 : decode cX0_secondsAs 53 = .ok (.iload_n 3, 1) := by decide +kernel
theorem dX0_secondsAs_54 : decode cX0_secondsAs 54 = .ok (.iconst 1, 1) := by decide +kernel
theorem dX0_secondsAs_55 : decode cX0_secondsAs 55 = .ok (.if_icmp .ne 8, 3) := by decide +kernel
theorem dX0_secondsAs_58 : decode cX0_secondsAs 58 = .ok (.bipush 8, 2) := by decide +kernel
theorem dX0_secondsAs_60 : decode cX0_secondsAs 60 = .ok (.goto 4, 3) := by decide +kernel
theorem dX0_secondsAs_63 : decode cX0_secondsAs 63 = .ok (.iconst 3, 1) := by decide +kernel
theorem dX0_secondsAs_64 : decode cX0_secondsAs 64 = .ok (.aload_n 0, 1) := by decide +kernel
theorem dX0_secondsAs_65 : decode cX0_secondsAs 65 = .ok (.iload_n 3, 1) := by decide +kernel
theorem dX0_secondsAs_66 : decode cX0_secondsAs 66 = .ok (.invokevirtual 71, 3) := by decide +kernel
theorem dX0_secondsAs_69 : decode cX0_secondsAs 69 = .ok (.imul, 1) := by decide +kernel
theorem dX0_secondsAs_70 : decode cX0_secondsAs 70 = .ok (.iadd, 1) := by decide +kernel
theorem dX0_secondsAs_71 : decode cX0_secondsAs 71 = .ok (.ireturn, 1) := by decide +kernel
theorem dX0_takenBeside_0 : decode cX0_takenBeside 0 = .ok (.iconst 0, 1) := by decide +kernel
theorem dX0_takenBeside_1 : decode cX0_takenBeside 1 = .ok (.istore_n 2, 1) := by decide +kernel
theorem dX0_takenBeside_2 : decode cX0_takenBeside 2 = .ok (.iconst 0, 1) := by decide +kernel
theorem dX0_takenBeside_3 : decode cX0_takenBeside 3 = .ok (.istore_n 3, 1) := by decide +kernel
theorem dX0_takenBeside_4 : decode cX0_takenBeside 4 = .ok (.iload_n 3, 1) := by decide +kernel
theorem dX0_takenBeside_5 : decode cX0_takenBeside 5 = .ok (.iconst 3, 1) := by decide +kernel
theorem dX0_takenBeside_6 : decode cX0_takenBeside 6 = .ok (.if_icmp .ge 51, 3) := by decide +kernel
theorem dX0_takenBeside_9 : decode cX0_takenBeside 9 = .ok (.iload_n 3, 1) := by decide +kernel
theorem dX0_takenBeside_10 : decode cX0_takenBeside 10 = .ok (.iload_n 1, 1) := by decide +kernel
theorem dX0_takenBeside_11 : decode cX0_takenBeside 11 = .ok (.iconst 1, 1) := by decide +kernel
theorem dX0_takenBeside_12 : decode cX0_takenBeside 12 = .ok (.isub, 1) := by decide +kernel
theorem dX0_takenBeside_13 : decode cX0_takenBeside 13 = .ok (.if_icmp .eq 10, 3) := by decide +kernel
theorem dX0_takenBeside_16 : decode cX0_takenBeside 16 = .ok (.iload_n 3, 1) := by decide +kernel
theorem dX0_takenBeside_17 : decode cX0_takenBeside 17 = .ok (.iload_n 1, 1) := by decide +kernel
theorem dX0_takenBeside_18 : decode cX0_takenBeside 18 = .ok (.iconst 1, 1) := by decide +kernel
theorem dX0_takenBeside_19 : decode cX0_takenBeside 19 = .ok (.iadd, 1) := by decide +kernel
theorem dX0_takenBeside_20 : decode cX0_takenBeside 20 = .ok (.if_icmp .ne 7, 3) := by decide +kernel
theorem dX0_takenBeside_23 : decode cX0_takenBeside 23 = .ok (.iconst 1, 1) := by decide +kernel
theorem dX0_takenBeside_24 : decode cX0_takenBeside 24 = .ok (.goto 4, 3) := by decide +kernel
theorem dX0_takenBeside_27 : decode cX0_takenBeside 27 = .ok (.iconst 0, 1) := by decide +kernel
theorem dX0_takenBeside_28 : decode cX0_takenBeside 28 = .ok (.istore 4, 2) := by decide +kernel
theorem dX0_takenBeside_30 : decode cX0_takenBeside 30 = .ok (.iload 4, 2) := by decide +kernel
theorem dX0_takenBeside_32 : decode cX0_takenBeside 32 = .ok (.ifCond .eq 19, 3) := by decide +kernel
theorem dX0_takenBeside_35 : decode cX0_takenBeside 35 = .ok (.aload_n 0, 1) := by decide +kernel
theorem dX0_takenBeside_36 : decode cX0_takenBeside 36 = .ok (.getfield 11, 3) := by decide +kernel
theorem dX0_takenBeside_39 : decode cX0_takenBeside 39 = .ok (.iload_n 3, 1) := by decide +kernel
theorem dX0_takenBeside_40 : decode cX0_takenBeside 40 = .ok (.aaload, 1) := by decide +kernel
theorem dX0_takenBeside_41 : decode cX0_takenBeside 41 = .ok (.getfield 75, 3) := by decide +kernel
theorem dX0_takenBeside_44 : decode cX0_takenBeside 44 = .ok (.iconst (-1), 1) := by decide +kernel
theorem dX0_takenBeside_45 : decode cX0_takenBeside 45 = .ok (.if_icmp .eq 6, 3) := by decide +kernel
theorem dX0_takenBeside_48 : decode cX0_takenBeside 48 = .ok (.iinc 2 1, 3) := by decide +kernel
theorem dX0_takenBeside_51 : decode cX0_takenBeside 51 = .ok (.iinc 3 1, 3) := by decide +kernel
theorem dX0_takenBeside_54 : decode cX0_takenBeside 54 = .ok (.goto (-50), 3) := by decide +kernel
theorem dX0_takenBeside_57 : decode cX0_takenBeside 57 = .ok (.iload_n 2, 1) := by decide +kernel
theorem dX0_takenBeside_58 : decode cX0_takenBeside 58 = .ok (.ireturn, 1) := by decide +kernel
theorem dX0_snugFor_0 : decode cX0_snugFor 0 = .ok (.aload_n 0, 1) := by decide +kernel
theorem dX0_snugFor_1 : decode cX0_snugFor 1 = .ok (.getfield 19, 3) := by decide +kernel
theorem dX0_snugFor_4 : decode cX0_snugFor 4 = .ok (.iload_n 1, 1) := by decide +kernel
theorem dX0_snugFor_5 : decode cX0_snugFor 5 = .ok (.aaload, 1) := by decide +kernel
theorem dX0_snugFor_6 : decode cX0_snugFor 6 = .ok (.astore_n 3, 1) := by decide +kernel
theorem dX0_snugFor_7 : decode cX0_snugFor 7 = .ok (.iconst 0, 1) := by decide +kernel
theorem dX0_snugFor_8 : decode cX0_snugFor 8 = .ok (.aload_n 3, 1) := by decide +kernel
theorem dX0_snugFor_9 : decode cX0_snugFor 9 = .ok (.getfield 49, 3) := by decide +kernel
theorem dX0_snugFor_12 : decode cX0_snugFor 12 = .ok (.aload_n 3, 1) := by decide +kernel
theorem dX0_snugFor_13 : decode cX0_snugFor 13 = .ok (.aload_n 0, 1) := by decide +kernel
theorem dX0_snugFor_14 : decode cX0_snugFor 14 = .ok (.getfield 11, 3) := by decide +kernel
theorem dX0_snugFor_17 : decode cX0_snugFor 17 = .ok (.iload_n 2, 1) := by decide +kernel
theorem dX0_snugFor_18 : decode cX0_snugFor 18 = .ok (.aaload, 1) := by decide +kernel
theorem dX0_snugFor_19 : decode cX0_snugFor 19 = .ok (.invokestatic 78, 3) := by decide +kernel
theorem dX0_snugFor_22 : decode cX0_snugFor 22 = .ok (.iconst 3, 1) := by decide +kernel
theorem dX0_snugFor_23 : decode cX0_snugFor 23 = .ok (.aload_n 3, 1) := by decide +kernel
theorem dX0_snugFor_24 : decode cX0_snugFor 24 = .ok (.getfield 68, 3) := by decide +kernel
theorem dX0_snugFor_27 : decode cX0_snugFor 27 = .ok (.imul, 1) := by decide +kernel
theorem dX0_snugFor_28 : decode cX0_snugFor 28 = .ok (.isub, 1) := by decide +kernel
theorem dX0_snugFor_29 : decode cX0_snugFor 29 = .ok (.invokestatic 81, 3) := by decide +kernel
theorem dX0_snugFor_32 : decode cX0_snugFor 32 = .ok (.ireturn, 1) := by decide +kernel
theorem dX0_fretsNow_0 : decode cX0_fretsNow 0 = .ok (.aload_n 1, 1) := by decide +kernel
theorem dX0_fretsNow_1 : decode cX0_fretsNow 1 = .ok (.invokevirtual 87, 3) := by decide +kernel
theorem dX0_fretsNow_4 : decode cX0_fretsNow 4 = .ok (.ifCond .eq 14, 3) := by decide +kernel
theorem dX0_fretsNow_7 : decode cX0_fretsNow 7 = .ok (.aload_n 0, 1) := by decide +kernel
theorem dX0_fretsNow_8 : decode cX0_fretsNow 8 = .ok (.aload_n 1, 1) := by decide +kernel
theorem dX0_fretsNow_9 : decode cX0_fretsNow 9 = .ok (.getfield 91, 3) := by decide +kernel
theorem dX0_fretsNow_12 : decode cX0_fretsNow 12 = .ok (.invokevirtual 71, 3) := by decide +kernel
theorem dX0_fretsNow_15 : decode cX0_fretsNow 15 = .ok (.ifCond .ne 7, 3) := by decide +kernel
theorem dX0_fretsNow_18 : decode cX0_fretsNow 18 = .ok (.iconst 1, 1) := by decide +kernel
theorem dX0_fretsNow_19 : decode cX0_fretsNow 19 = .ok (.goto 4, 3) := by decide +kernel
theorem dX0_fretsNow_22 : decode cX0_fretsNow 22 = .ok (.iconst 0, 1) := by decide +kernel
theorem dX0_fretsNow_23 : decode cX0_fretsNow 23 = .ok (.istore_n 2, 1) := by decide +kernel
theorem dX0_fretsNow_24 : decode cX0_fretsNow 24 = .ok (.aload_n 1, 1) := by decide +kernel
theorem dX0_fretsNow_25 : decode cX0_fretsNow 25 = .ok (.getfield 49, 3) := by decide +kernel
theorem dX0_fretsNow_28 : decode cX0_fretsNow 28 = .ok (.aload_n 0, 1) := by decide +kernel
theorem dX0_fretsNow_29 : decode cX0_fretsNow 29 = .ok (.getfield 30, 3) := by decide +kernel
theorem dX0_fretsNow_32 : decode cX0_fretsNow 32 = .ok (.aload_n 1, 1) := by decide +kernel
theorem dX0_fretsNow_33 : decode cX0_fretsNow 33 = .ok (.getfield 94, 3) := by decide +kernel
theorem dX0_fretsNow_36 : decode cX0_fretsNow 36 = .ok (.iload_n 2, 1) := by decide +kernel
theorem dX0_fretsNow_37 : decode cX0_fretsNow 37 = .ok (.invokestatic 97, 3) := by decide +kernel
theorem dX0_fretsNow_40 : decode cX0_fretsNow 40 = .ok (.ireturn, 1) := by decide +kernel
theorem dX0_clickIn_0 : decode cX0_clickIn 0 = .ok (.aload_n 0, 1) := by decide +kernel
theorem dX0_clickIn_1 : decode cX0_clickIn 1 = .ok (.getfield 19, 3) := by decide +kernel
theorem dX0_clickIn_4 : decode cX0_clickIn 4 = .ok (.iload_n 1, 1) := by decide +kernel
theorem dX0_clickIn_5 : decode cX0_clickIn 5 = .ok (.aaload, 1) := by decide +kernel
theorem dX0_clickIn_6 : decode cX0_clickIn 6 = .ok (.astore_n 3, 1) := by decide +kernel
theorem dX0_clickIn_7 : decode cX0_clickIn 7 = .ok (.aload_n 0, 1) := by decide +kernel
theorem dX0_clickIn_8 : decode cX0_clickIn 8 = .ok (.getfield 11, 3) := by decide +kernel
theorem dX0_clickIn_11 : decode cX0_clickIn 11 = .ok (.iload_n 2, 1) := by decide +kernel
theorem dX0_clickIn_12 : decode cX0_clickIn 12 = .ok (.aaload, 1) := by decide +kernel
theorem dX0_clickIn_13 : decode cX0_clickIn 13 = .ok (.astore 4, 2) := by decide +kernel
theorem dX0_clickIn_15 : decode cX0_clickIn 15 = .ok (.aload_n 0, 1) := by decide +kernel
theorem dX0_clickIn_16 : decode cX0_clickIn 16 = .ok (.ldc 101, 2) := by decide +kernel
theorem dX0_clickIn_18 : decode cX0_clickIn 18 = .ok (.aload_n 0, 1) := by decide +kernel
theorem dX0_clickIn_19 : decode cX0_clickIn 19 = .ok (.getfield 33, 3) := by decide +kernel
theorem dX0_clickIn_22 : decode cX0_clickIn 22 = .ok (.aload_n 0, 1) := by decide +kernel
theorem dX0_clickIn_23 : decode cX0_clickIn 23 = .ok (.aload_n 3, 1) := by decide +kernel
theorem dX0_clickIn_24 : decode cX0_clickIn 24 = .ok (.getfield 49, 3) := by decide +kernel
theorem dX0_clickIn_27 : decode cX0_clickIn 27 = .ok (.iload_n 1, 1) := by decide +kernel
theorem dX0_clickIn_28 : decode cX0_clickIn 28 = .ok (.iload_n 2, 1) := by decide +kernel
theorem dX0_clickIn_29 : decode cX0_clickIn 29 = .ok (.invokevirtual 52, 3) := by decide +kernel
theorem dX0_clickIn_32 : decode cX0_clickIn 32 = .ok (.iadd, 1) := by decide +kernel
theorem dX0_clickIn_33 : decode cX0_clickIn 33 = .ok (.invokestatic 102, 3) := by decide +kernel
theorem dX0_clickIn_36 : decode cX0_clickIn 36 = .ok (.putfield 33, 3) := by decide +kernel
theorem dX0_clickIn_39 : decode cX0_clickIn 39 = .ok (.aload_n 3, 1) := by decide +kernel
theorem dX0_clickIn_40 : decode cX0_clickIn 40 = .ok (.aload_n 0, 1) := by decide +kernel
theorem dX0_clickIn_41 : decode cX0_clickIn 41 = .ok (.iload_n 1, 1) := by decide +kernel
theorem dX0_clickIn_42 : decode cX0_clickIn 42 = .ok (.iload_n 2, 1) := by decide +kernel
theorem dX0_clickIn_43 : decode cX0_clickIn 43 = .ok (.invokevirtual 105, 3) := by decide +kernel
theorem dX0_clickIn_46 : decode cX0_clickIn 46 = .ok (.putfield 94, 3) := by decide +kernel
theorem dX0_clickIn_49 : decode cX0_clickIn 49 = .ok (.aload_n 3, 1) := by decide +kernel
theorem dX0_clickIn_50 : decode cX0_clickIn 50 = .ok (.iload_n 2, 1) := by decide +kernel
theorem dX0_clickIn_51 : decode cX0_clickIn 51 = .ok (.putfield 91, 3) := by decide +kernel
theorem dX0_clickIn_54 : decode cX0_clickIn 54 = .ok (.aload 4, 2) := by decide +kernel
theorem dX0_clickIn_56 : decode cX0_clickIn 56 = .ok (.iload_n 1, 1) := by decide +kernel
theorem dX0_clickIn_57 : decode cX0_clickIn 57 = .ok (.putfield 75, 3) := by decide +kernel
theorem dX0_clickIn_60 : decode cX0_clickIn 60 = .ok (.aload 4, 2) := by decide +kernel
theorem dX0_clickIn_62 : decode cX0_clickIn 62 = .ok (.sipush 9999, 3) := by decide +kernel
theorem dX0_clickIn_65 : decode cX0_clickIn 65 = .ok (.aload 4, 2) := by decide +kernel
theorem dX0_clickIn_67 : decode cX0_clickIn 67 = .ok (.getfield 108, 3) := by decide +kernel
theorem dX0_clickIn_70 : decode cX0_clickIn 70 = .ok (.iconst 1, 1) := by decide +kernel
theorem dX0_clickIn_71 : decode cX0_clickIn 71 = .ok (.iadd, 1) := by decide +kernel
theorem dX0_clickIn_72 : decode cX0_clickIn 72 = .ok (.invokestatic 102, 3) := by decide +kernel
theorem dX0_clickIn_75 : decode cX0_clickIn 75 = .ok (.putfield 108, 3) := by decide +kernel
theorem dX0_clickIn_78 : decode cX0_clickIn 78 = .ok (.aload_n 3, 1) := by decide +kernel
theorem dX0_clickIn_79 : decode cX0_clickIn 79 = .ok (.getfield 49, 3) := by decide +kernel
theorem dX0_clickIn_82 : decode cX0_clickIn 82 = .ok (.iconst 1, 1) := by decide +kernel
theorem dX0_clickIn_83 : decode cX0_clickIn 83 = .ok (.invokestatic 111, 3) := by decide +kernel
theorem dX0_clickIn_86 : decode cX0_clickIn 86 = .ok (.ifCond .eq 18, 3) := by decide +kernel
theorem dX0_clickIn_89 : decode cX0_clickIn 89 = .ok (.aload_n 3, 1) := by decide +kernel
theorem dX0_clickIn_90 : decode cX0_clickIn 90 = .ok (.bipush 9, 2) := by decide +kernel
theorem dX0_clickIn_92 : decode cX0_clickIn 92 = .ok (.aload_n 3, 1) := by decide +kernel
theorem dX0_clickIn_93 : decode cX0_clickIn 93 = .ok (.getfield 115, 3) := by decide +kernel
theorem dX0_clickIn_96 : decode cX0_clickIn 96 = .ok (.iconst 1, 1) := by decide +kernel
theorem dX0_clickIn_97 : decode cX0_clickIn 97 = .ok (.iadd, 1) := by decide +kernel
theorem dX0_clickIn_98 : decode cX0_clickIn 98 = .ok (.invokestatic 102, 3) := by decide +kernel
theorem dX0_clickIn_101 : decode cX0_clickIn 101 = .ok (.putfield 115, 3) := by decide +kernel
theorem dX0_clickIn_104 : decode cX0_clickIn 104 = .ok (.return_, 1) := by decide +kernel
theorem dX0_getOut_0 : decode cX0_getOut 0 = .ok (.aload_n 0, 1) := by decide +kernel
theorem dX0_getOut_1 : decode cX0_getOut 1 = .ok (.getfield 11, 3) := by decide +kernel
theorem dX0_getOut_4 : decode cX0_getOut 4 = .ok (.iload_n 1, 1) := by decide +kernel
theorem dX0_getOut_5 : decode cX0_getOut 5 = .ok (.aaload, 1) := by decide +kernel
theorem dX0_getOut_6 : decode cX0_getOut 6 = .ok (.getfield 75, 3) := by decide +kernel
theorem dX0_getOut_9 : decode cX0_getOut 9 = .ok (.istore_n 2, 1) := by decide +kernel
theorem dX0_getOut_10 : decode cX0_getOut 10 = .ok (.aload_n 0, 1) := by decide +kernel
theorem dX0_getOut_11 : decode cX0_getOut 11 = .ok (.iload_n 2, 1) := by decide +kernel
theorem dX0_getOut_12 : decode cX0_getOut 12 = .ok (.invokevirtual 118, 3) := by decide +kernel
theorem dX0_getOut_15 : decode cX0_getOut 15 = .ok (.ifCond .eq 23, 3) := by decide +kernel
theorem dX0_getOut_18 : decode cX0_getOut 18 = .ok (.aload_n 0, 1) := by decide +kernel
theorem dX0_getOut_19 : decode cX0_getOut 19 = .ok (.getfield 19, 3) := by decide +kernel
theorem dX0_getOut_22 : decode cX0_getOut 22 = .ok (.iload_n 2, 1) := by decide +kernel
theorem dX0_getOut_23 : decode cX0_getOut 23 = .ok (.aaload, 1) := by decide +kernel
theorem dX0_getOut_24 : decode cX0_getOut 24 = .ok (.iconst 0, 1) := by decide +kernel
theorem dX0_getOut_25 : decode cX0_getOut 25 = .ok (.putfield 94, 3) := by decide +kernel
theorem dX0_getOut_28 : decode cX0_getOut 28 = .ok (.aload_n 0, 1) := by decide +kernel
theorem dX0_getOut_29 : decode cX0_getOut 29 = .ok (.getfield 19, 3) := by decide +kernel
theorem dX0_getOut_32 : decode cX0_getOut 32 = .ok (.iload_n 2, 1) := by decide +kernel
theorem dX0_getOut_33 : decode cX0_getOut 33 = .ok (.aaload, 1) := by decide +kernel
theorem dX0_getOut_34 : decode cX0_getOut 34 = .ok (.iconst (-1), 1) := by decide +kernel
theorem dX0_getOut_35 : decode cX0_getOut 35 = .ok (.putfield 91, 3) := by decide +kernel
theorem dX0_getOut_38 : decode cX0_getOut 38 = .ok (.aload_n 0, 1) := by decide +kernel
theorem dX0_getOut_39 : decode cX0_getOut 39 = .ok (.getfield 11, 3) := by decide +kernel
theorem dX0_getOut_42 : decode cX0_getOut 42 = .ok (.iload_n 1, 1) := by decide +kernel
theorem dX0_getOut_43 : decode cX0_getOut 43 = .ok (.aaload, 1) := by decide +kernel
theorem dX0_getOut_44 : decode cX0_getOut 44 = .ok (.iconst (-1), 1) := by decide +kernel
theorem dX0_getOut_45 : decode cX0_getOut 45 = .ok (.putfield 75, 3) := by decide +kernel
theorem dX0_getOut_48 : decode cX0_getOut 48 = .ok (.return_, 1) := by decide +kernel
theorem dX0_giveBribe_0 : decode cX0_giveBribe 0 = .ok (.aload_n 0, 1) := by decide +kernel
theorem dX0_giveBribe_1 : decode cX0_giveBribe 1 = .ok (.getfield 19, 3) := by decide +kernel
theorem dX0_giveBribe_4 : decode cX0_giveBribe 4 = .ok (.iload_n 1, 1) := by decide +kernel
theorem dX0_giveBribe_5 : decode cX0_giveBribe 5 = .ok (.aaload, 1) := by decide +kernel
theorem dX0_giveBribe_6 : decode cX0_giveBribe 6 = .ok (.astore_n 2, 1) := by decide +kernel
theorem dX0_giveBribe_7 : decode cX0_giveBribe 7 = .ok (.aload_n 2, 1) := by decide +kernel
theorem dX0_giveBribe_8 : decode cX0_giveBribe 8 = .ok (.bipush 9, 2) := by decide +kernel
theorem dX0_giveBribe_10 : decode cX0_giveBribe 10 = .ok (.aload_n 2, 1) := by decide +kernel
theorem dX0_giveBribe_11 : decode cX0_giveBribe 11 = .ok (.getfield 122, 3) := by decide +kernel
theorem dX0_giveBribe_14 : decode cX0_giveBribe 14 = .ok (.iconst 3, 1) := by decide +kernel
theorem dX0_giveBribe_15 : decode cX0_giveBribe 15 = .ok (.iadd, 1) := by decide +kernel
theorem dX0_giveBribe_16 : decode cX0_giveBribe 16 = .ok (.invokestatic 102, 3) := by decide +kernel
theorem dX0_giveBribe_19 : decode cX0_giveBribe 19 = .ok (.putfield 122, 3) := by decide +kernel
theorem dX0_giveBribe_22 : decode cX0_giveBribe 22 = .ok (.aload_n 2, 1) := by decide +kernel
theorem dX0_giveBribe_23 : decode cX0_giveBribe 23 = .ok (.getfield 91, 3) := by decide +kernel
theorem dX0_giveBribe_26 : decode cX0_giveBribe 26 = .ok (.invokestatic 125, 3) := by decide +kernel
theorem dX0_giveBribe_29 : decode cX0_giveBribe 29 = .ok (.ifCond .eq 28, 3) := by decide +kernel
theorem dX0_giveBribe_32 : decode cX0_giveBribe 32 = .ok (.aload_n 0, 1) := by decide +kernel
theorem dX0_giveBribe_33 : decode cX0_giveBribe 33 = .ok (.getfield 11, 3) := by decide +kernel
theorem dX0_giveBribe_36 : decode cX0_giveBribe 36 = .ok (.aload_n 2, 1) := by decide +kernel
theorem dX0_giveBribe_37 : decode cX0_giveBribe 37 = .ok (.getfield 91, 3) := by decide +kernel
theorem dX0_giveBribe_40 : decode cX0_giveBribe 40 = .ok (.aaload, 1) := by decide +kernel
theorem dX0_giveBribe_41 : decode cX0_giveBribe 41 = .ok (.astore_n 3, 1) := by decide +kernel
theorem dX0_giveBribe_42 : decode cX0_giveBribe 42 = .ok (.aload_n 3, 1) := by decide +kernel
theorem dX0_giveBribe_43 : decode cX0_giveBribe 43 = .ok (.bipush 9, 2) := by decide +kernel
theorem dX0_giveBribe_45 : decode cX0_giveBribe 45 = .ok (.aload_n 3, 1) := by decide +kernel
theorem dX0_giveBribe_46 : decode cX0_giveBribe 46 = .ok (.getfield 65, 3) := by decide +kernel
theorem dX0_giveBribe_49 : decode cX0_giveBribe 49 = .ok (.iconst 1, 1) := by decide +kernel
theorem dX0_giveBribe_50 : decode cX0_giveBribe 50 = .ok (.iadd, 1) := by decide +kernel
theorem dX0_giveBribe_51 : decode cX0_giveBribe 51 = .ok (.invokestatic 102, 3) := by decide +kernel
theorem dX0_giveBribe_54 : decode cX0_giveBribe 54 = .ok (.putfield 65, 3) := by decide +kernel
theorem dX0_giveBribe_57 : decode cX0_giveBribe 57 = .ok (.return_, 1) := by decide +kernel
theorem dX0_passMinutes_0 : decode cX0_passMinutes 0 = .ok (.iconst 0, 1) := by decide +kernel
theorem dX0_passMinutes_1 : decode cX0_passMinutes 1 = .ok (.istore_n 2, 1) := by decide +kernel
theorem dX0_passMinutes_2 : decode cX0_passMinutes 2 = .ok (.iload_n 2, 1) := by decide +kernel
theorem dX0_passMinutes_3 : decode cX0_passMinutes 3 = .ok (.iload_n 1, 1) := by decide +kernel
theorem dX0_passMinutes_4 : decode cX0_passMinutes 4 = .ok (.if_icmp .ge 13, 3) := by decide +kernel
theorem dX0_passMinutes_7 : decode cX0_passMinutes 7 = .ok (.aload_n 0, 1) := by decide +kernel
theorem dX0_passMinutes_8 : decode cX0_passMinutes 8 = .ok (.invokevirtual 128, 3) := by decide +kernel
theorem dX0_passMinutes_11 : decode cX0_passMinutes 11 = .ok (.iinc 2 1, 3) := by decide +kernel
theorem dX0_passMinutes_14 : decode cX0_passMinutes 14 = .ok (.goto (-12), 3) := by decide +kernel
theorem dX0_passMinutes_17 : decode cX0_passMinutes 17 = .ok (.return_, 1) := by decide +kernel
theorem dX0_passMinute_0 : decode cX0_passMinute 0 = .ok (.iconst 0, 1) := by decide +kernel
theorem dX0_passMinute_1 : decode cX0_passMinute 1 = .ok (.istore_n 1, 1) := by decide +kernel
theorem dX0_passMinute_2 : decode cX0_passMinute 2 = .ok (.iload_n 1, 1) := by decide +kernel
theorem dX0_passMinute_3 : decode cX0_passMinute 3 = .ok (.iconst 3, 1) := by decide +kernel
theorem dX0_passMinute_4 : decode cX0_passMinute 4 = .ok (.if_icmp .ge 58, 3) := by decide +kernel
theorem dX0_passMinute_7 : decode cX0_passMinute 7 = .ok (.aload_n 0, 1) := by decide +kernel
theorem dX0_passMinute_8 : decode cX0_passMinute 8 = .ok (.aload_n 0, 1) := by decide +kernel
theorem dX0_passMinute_9 : decode cX0_passMinute 9 = .ok (.getfield 11, 3) := by decide +kernel
theorem dX0_passMinute_12 : decode cX0_passMinute 12 = .ok (.iload_n 1, 1) := by decide +kernel
theorem dX0_passMinute_13 : decode cX0_passMinute 13 = .ok (.aaload, 1) := by decide +kernel
theorem dX0_passMinute_14 : decode cX0_passMinute 14 = .ok (.getfield 75, 3) := by decide +kernel
theorem dX0_passMinute_17 : decode cX0_passMinute 17 = .ok (.invokevirtual 118, 3) := by decide +kernel
theorem dX0_passMinute_20 : decode cX0_passMinute 20 = .ok (.ifCond .eq 36, 3) := by decide +kernel
theorem dX0_passMinute_23 : decode cX0_passMinute 23 = .ok (.aload_n 0, 1) := by decide +kernel
theorem dX0_passMinute_24 : decode cX0_passMinute 24 = .ok (.getfield 19, 3) := by decide +kernel
theorem dX0_passMinute_27 : decode cX0_passMinute 27 = .ok (.aload_n 0, 1) := by decide +kernel
theorem dX0_passMinute_28 : decode cX0_passMinute 28 = .ok (.getfield 11, 3) := by decide +kernel
theorem dX0_passMinute_31 : decode cX0_passMinute 31 = .ok (.iload_n 1, 1) := by decide +kernel
theorem dX0_passMinute_32 : decode cX0_passMinute 32 = .ok (.aaload, 1) := by decide +kernel
theorem dX0_passMinute_33 : decode cX0_passMinute 33 = .ok (.getfield 75, 3) := by decide +kernel
theorem dX0_passMinute_36 : decode cX0_passMinute 36 = .ok (.aaload, 1) := by decide +kernel
theorem dX0_passMinute_37 : decode cX0_passMinute 37 = .ok (.astore_n 2, 1) := by decide +kernel
theorem dX0_passMinute_38 : decode cX0_passMinute 38 = .ok (.aload_n 2, 1) := by decide +kernel
theorem dX0_passMinute_39 : decode cX0_passMinute 39 = .ok (.iconst 0, 1) := by decide +kernel
theorem dX0_passMinute_40 : decode cX0_passMinute 40 = .ok (.aload_n 2, 1) := by decide +kernel
theorem dX0_passMinute_41 : decode cX0_passMinute 41 = .ok (.getfield 122, 3) := by decide +kernel
theorem dX0_passMinute_44 : decode cX0_passMinute 44 = .ok (.aload_n 0, 1) := by decide +kernel
theorem dX0_passMinute_45 : decode cX0_passMinute 45 = .ok (.aload_n 2, 1) := by decide +kernel
theorem dX0_passMinute_46 : decode cX0_passMinute 46 = .ok (.invokevirtual 131, 3) := by decide +kernel
theorem dX0_passMinute_49 : decode cX0_passMinute 49 = .ok (.isub, 1) := by decide +kernel
theorem dX0_passMinute_50 : decode cX0_passMinute 50 = .ok (.invokestatic 81, 3) := by decide +kernel
theorem dX0_passMinute_53 : decode cX0_passMinute 53 = .ok (.putfield 122, 3) := by decide +kernel
theorem dX0_passMinute_56 : decode cX0_passMinute 56 = .ok (.iinc 1 1, 3) := by decide +kernel
theorem dX0_passMinute_59 : decode cX0_passMinute 59 = .ok (.goto (-57), 3) := by decide +kernel
theorem dX0_passMinute_62 : decode cX0_passMinute 62 = .ok (.iconst 0, 1) := by decide +kernel
theorem dX0_passMinute_63 : decode cX0_passMinute 63 = .ok (.istore_n 1, 1) := by decide +kernel
theorem dX0_passMinute_64 : decode cX0_passMinute 64 = .ok (.iload_n 1, 1) := by decide +kernel
theorem dX0_passMinute_65 : decode cX0_passMinute 65 = .ok (.iconst 3, 1) := by decide +kernel
theorem dX0_passMinute_66 : decode cX0_passMinute 66 = .ok (.if_icmp .ge 30, 3) := by decide +kernel
theorem dX0_passMinute_69 : decode cX0_passMinute 69 = .ok (.aload_n 0, 1) := by decide +kernel
theorem dX0_passMinute_70 : decode cX0_passMinute 70 = .ok (.aload_n 0, 1) := by decide +kernel
theorem dX0_passMinute_71 : decode cX0_passMinute 71 = .ok (.getfield 11, 3) := by decide +kernel
theorem dX0_passMinute_74 : decode cX0_passMinute 74 = .ok (.iload_n 1, 1) := by decide +kernel
theorem dX0_passMinute_75 : decode cX0_passMinute 75 = .ok (.aaload, 1) := by decide +kernel
theorem dX0_passMinute_76 : decode cX0_passMinute 76 = .ok (.getfield 75, 3) := by decide +kernel
theorem dX0_passMinute_79 : decode cX0_passMinute 79 = .ok (.invokevirtual 118, 3) := by decide +kernel
theorem dX0_passMinute_82 : decode cX0_passMinute 82 = .ok (.ifCond .eq 8, 3) := by decide +kernel
theorem dX0_passMinute_85 : decode cX0_passMinute 85 = .ok (.aload_n 0, 1) := by decide +kernel
theorem dX0_passMinute_86 : decode cX0_passMinute 86 = .ok (.iload_n 1, 1) := by decide +kernel
theorem dX0_passMinute_87 : decode cX0_passMinute 87 = .ok (.invokevirtual 135, 3) := by decide +kernel
theorem dX0_passMinute_90 : decode cX0_passMinute 90 = .ok (.iinc 1 1, 3) := by decide +kernel
theorem dX0_passMinute_93 : decode cX0_passMinute 93 = .ok (.goto (-29), 3) := by decide +kernel
theorem dX0_passMinute_96 : decode cX0_passMinute 96 = .ok (.aload_n 0, 1) := by decide +kernel
theorem dX0_passMinute_97 : decode cX0_passMinute 97 = .ok (.dup, 1) := by decide +kernel
theorem dX0_passMinute_98 : decode cX0_passMinute 98 = .ok (.getfield 30, 3) := by decide +kernel
theorem dX0_passMinute_101 : decode cX0_passMinute 101 = .ok (.iconst 1, 1) := by decide +kernel
theorem dX0_passMinute_102 : decode cX0_passMinute 102 = .ok (.iadd, 1) := by decide +kernel
theorem dX0_passMinute_103 : decode cX0_passMinute 103 = .ok (.putfield 30, 3) := by decide +kernel
theorem dX0_passMinute_106 : decode cX0_passMinute 106 = .ok (.return_, 1) := by decide +kernel
theorem dX0_loosen_0 : decode cX0_loosen 0 = .ok (.aload_n 0, 1) := by decide +kernel
theorem dX0_loosen_1 : decode cX0_loosen 1 = .ok (.getfield 19, 3) := by decide +kernel
theorem dX0_loosen_4 : decode cX0_loosen 4 = .ok (.aload_n 0, 1) := by decide +kernel
theorem dX0_loosen_5 : decode cX0_loosen 5 = .ok (.getfield 11, 3) := by decide +kernel
theorem dX0_loosen_8 : decode cX0_loosen 8 = .ok (.iload_n 1, 1) := by decide +kernel
theorem dX0_loosen_9 : decode cX0_loosen 9 = .ok (.aaload, 1) := by decide +kernel
theorem dX0_loosen_10 : decode cX0_loosen 10 = .ok (.getfield 75, 3) := by decide +kernel
theorem dX0_loosen_13 : decode cX0_loosen 13 = .ok (.aaload, 1) := by decide +kernel
theorem dX0_loosen_14 : decode cX0_loosen 14 = .ok (.astore_n 2, 1) := by decide +kernel
theorem dX0_loosen_15 : decode cX0_loosen 15 = .ok (.aload_n 2, 1) := by decide +kernel
theorem dX0_loosen_16 : decode cX0_loosen 16 = .ok (.getfield 122, 3) := by decide +kernel
theorem dX0_loosen_19 : decode cX0_loosen 19 = .ok (.iconst 2, 1) := by decide +kernel
theorem dX0_loosen_20 : decode cX0_loosen 20 = .ok (.if_icmp .lt 4, 3) := by decide +kernel
theorem dX0_loosen_23 : decode cX0_loosen 23 = .ok (.return_, 1) := by decide +kernel
theorem dX0_loosen_24 : decode cX0_loosen 24 = .ok (.aload_n 2, 1) := by decide +kernel
theorem dX0_loosen_25 : decode cX0_loosen 25 = .ok (.iconst 0, 1) := by decide +kernel
theorem dX0_loosen_26 : decode cX0_loosen 26 = .ok (.aload_n 2, 1) := by decide +kernel
theorem dX0_loosen_27 : decode cX0_loosen 27 = .ok (.getfield 94, 3) := by decide +kernel
theorem dX0_loosen_30 : decode cX0_loosen 30 = .ok (.iconst 1, 1) := by decide +kernel
theorem dX0_loosen_31 : decode cX0_loosen 31 = .ok (.isub, 1) := by decide +kernel
theorem dX0_loosen_32 : decode cX0_loosen 32 = .ok (.invokestatic 81, 3) := by decide +kernel
theorem dX0_loosen_35 : decode cX0_loosen 35 = .ok (.putfield 94, 3) := by decide +kernel
theorem dX0_loosen_38 : decode cX0_loosen 38 = .ok (.aload_n 2, 1) := by decide +kernel
theorem dX0_loosen_39 : decode cX0_loosen 39 = .ok (.getfield 94, 3) := by decide +kernel
theorem dX0_loosen_42 : decode cX0_loosen 42 = .ok (.ifCond .ne 8, 3) := by decide +kernel
theorem dX0_loosen_45 : decode cX0_loosen 45 = .ok (.aload_n 0, 1) := by decide +kernel
theorem dX0_loosen_46 : decode cX0_loosen 46 = .ok (.iload_n 1, 1) := by decide +kernel
theorem dX0_loosen_47 : decode cX0_loosen 47 = .ok (.invokevirtual 138, 3) := by decide +kernel
theorem dX0_loosen_50 : decode cX0_loosen 50 = .ok (.return_, 1) := by decide +kernel
theorem dX0_sitting_0 : decode cX0_sitting 0 = .ok (.iconst 0, 1) := by decide +kernel
theorem dX0_sitting_1 : decode cX0_sitting 1 = .ok (.istore_n 1, 1) := by decide +kernel
theorem dX0_sitting_2 : decode cX0_sitting 2 = .ok (.iconst 0, 1) := by decide +kernel
theorem dX0_sitting_3 : decode cX0_sitting 3 = .ok (.istore_n 2, 1) := by decide +kernel
theorem dX0_sitting_4 : decode cX0_sitting 4 = .ok (.iload_n 2, 1) := by decide +kernel
theorem dX0_sitting_5 : decode cX0_sitting 5 = .ok (.iconst 3, 1) := by decide +kernel
theorem dX0_sitting_6 : decode cX0_sitting 6 = .ok (.if_icmp .ge 35, 3) := by decide +kernel
theorem dX0_sitting_9 : decode cX0_sitting 9 = .ok (.aload_n 0, 1) := by decide +kernel
theorem dX0_sitting_10 : decode cX0_sitting 10 = .ok (.getfield 11, 3) := by decide +kernel
theorem dX0_sitting_13 : decode cX0_sitting 13 = .ok (.iload_n 2, 1) := by decide +kernel
theorem dX0_sitting_14 : decode cX0_sitting 14 = .ok (.aaload, 1) := by decide +kernel
theorem dX0_sitting_15 : decode cX0_sitting 15 = .ok (.invokevirtual 141, 3) := by decide +kernel
theorem dX0_sitting_18 : decode cX0_sitting 18 = .ok (.ifCond .eq 17, 3) := by decide +kernel
theorem dX0_sitting_21 : decode cX0_sitting 21 = .ok (.iload_n 1, 1) := by decide +kernel
theorem dX0_sitting_22 : decode cX0_sitting 22 = .ok (.iconst 1, 1) := by decide +kernel
theorem dX0_sitting_23 : decode cX0_sitting 23 = .ok (.aload_n 0, 1) := by decide +kernel
theorem dX0_sitting_24 : decode cX0_sitting 24 = .ok (.getfield 11, 3) := by decide +kernel
theorem dX0_sitting_27 : decode cX0_sitting 27 = .ok (.iload_n 2, 1) := by decide +kernel
theorem dX0_sitting_28 : decode cX0_sitting 28 = .ok (.aaload, 1) := by decide +kernel
theorem dX0_sitting_29 : decode cX0_sitting 29 = .ok (.getfield 75, 3) := by decide +kernel
theorem dX0_sitting_32 : decode cX0_sitting 32 = .ok (.ishl, 1) := by decide +kernel
theorem dX0_sitting_33 : decode cX0_sitting 33 = .ok (.ior, 1) := by decide +kernel
theorem dX0_sitting_34 : decode cX0_sitting 34 = .ok (.istore_n 1, 1) := by decide +kernel
theorem dX0_sitting_35 : decode cX0_sitting 35 = .ok (.iinc 2 1, 3) := by decide +kernel
theorem dX0_sitting_38 : decode cX0_sitting 38 = .ok (.goto (-34), 3) := by decide +kernel
theorem dX0_sitting_41 : decode cX0_sitting 41 = .ok (.iload_n 1, 1) := by decide +kernel
theorem dX0_sitting_42 : decode cX0_sitting 42 = .ok (.ireturn, 1) := by decide +kernel
theorem dX0_quickestSeat_0 : decode cX0_quickestSeat 0 = .ok (.iconst (-1), 1) := by decide +kernel
theorem dX0_quickestSeat_1 : decode cX0_quickestSeat 1 = .ok (.istore_n 2, 1) := by decide +kernel
theorem dX0_quickestSeat_2 : decode cX0_quickestSeat 2 = .ok (.iconst 0, 1) := by decide +kernel
theorem dX0_quickestSeat_3 : decode cX0_quickestSeat 3 = .ok (.istore_n 3, 1) := by decide +kernel
theorem dX0_quickestSeat_4 : decode cX0_quickestSeat 4 = .ok (.iconst 0, 1) := by decide +kernel
theorem dX0_quickestSeat_5 : decode cX0_quickestSeat 5 = .ok (.istore 4, 2) := by decide +kernel
theorem dX0_quickestSeat_7 : decode cX0_quickestSeat 7 = .ok (.iload 4, 2) := by decide +kernel
theorem dX0_quickestSeat_9 : decode cX0_quickestSeat 9 = .ok (.iconst 3, 1) := by decide +kernel
theorem dX0_quickestSeat_10 : decode cX0_quickestSeat 10 = .ok (.if_icmp .ge 48, 3) := by decide +kernel
theorem dX0_quickestSeat_13 : decode cX0_quickestSeat 13 = .ok (.aload_n 0, 1) := by decide +kernel
theorem dX0_quickestSeat_14 : decode cX0_quickestSeat 14 = .ok (.iload_n 1, 1) := by decide +kernel
theorem dX0_quickestSeat_15 : decode cX0_quickestSeat 15 = .ok (.iload 4, 2) := by decide +kernel
theorem dX0_quickestSeat_17 : decode cX0_quickestSeat 17 = .ok (.invokevirtual 144, 3) := by decide +kernel
theorem dX0_quickestSeat_20 : decode cX0_quickestSeat 20 = .ok (.istore 5, 2) := by decide +kernel
theorem dX0_quickestSeat_22 : decode cX0_quickestSeat 22 = .ok (.aload_n 0, 1) := by decide +kernel
theorem dX0_quickestSeat_23 : decode cX0_quickestSeat 23 = .ok (.getfield 11, 3) := by decide +kernel
theorem dX0_quickestSeat_26 : decode cX0_quickestSeat 26 = .ok (.iload 4, 2) := by decide +kernel
theorem dX0_quickestSeat_28 : decode cX0_quickestSeat 28 = .ok (.aaload, 1) := by decide +kernel
theorem dX0_quickestSeat_29 : decode cX0_quickestSeat 29 = .ok (.invokevirtual 141, 3) := by decide +kernel
theorem dX0_quickestSeat_32 : decode cX0_quickestSeat 32 = .ok (.ifCond .ne 20, 3) := by decide +kernel
theorem dX0_quickestSeat_35 : decode cX0_quickestSeat 35 = .ok (.iload_n 2, 1) := by decide +kernel
theorem dX0_quickestSeat_36 : decode cX0_quickestSeat 36 = .ok (.iconst (-1), 1) := by decide +kernel
theorem dX0_quickestSeat_37 : decode cX0_quickestSeat 37 = .ok (.if_icmp .eq 9, 3) := by decide +kernel
theorem dX0_quickestSeat_40 : decode cX0_quickestSeat 40 = .ok (.iload 5, 2) := by decide +kernel
theorem dX0_quickestSeat_42 : decode cX0_quickestSeat 42 = .ok (.iload_n 3, 1) := by decide +kernel
theorem dX0_quickestSeat_43 : decode cX0_quickestSeat 43 = .ok (.if_icmp .ge 9, 3) := by decide +kernel
theorem dX0_quickestSeat_46 : decode cX0_quickestSeat 46 = .ok (.iload 4, 2) := by decide +kernel
theorem dX0_quickestSeat_48 : decode cX0_quickestSeat 48 = .ok (.istore_n 2, 1) := by decide +kernel
theorem dX0_quickestSeat_49 : decode cX0_quickestSeat 49 = .ok (.iload 5, 2) := by decide +kernel
theorem dX0_quickestSeat_51 : decode cX0_quickestSeat 51 = .ok (.istore_n 3, 1) := by decide +kernel
theorem dX0_quickestSeat_52 : decode cX0_quickestSeat 52 = .ok (.iinc 4 1, 3) := by decide +kernel
theorem dX0_quickestSeat_55 : decode cX0_quickestSeat 55 = .ok (.goto (-48), 3) := by decide +kernel
theorem dX0_quickestSeat_58 : decode cX0_quickestSeat 58 = .ok (.iload_n 2, 1) := by decide +kernel
theorem dX0_quickestSeat_59 : decode cX0_quickestSeat 59 = .ok (.ireturn, 1) := by decide +kernel
theorem dX0_snuggestSeat_0 : decode cX0_snuggestSeat 0 = .ok (.iconst (-1), 1) := by decide +kernel
theorem dX0_snuggestSeat_1 : decode cX0_snuggestSeat 1 = .ok (.istore_n 2, 1) := by decide +kernel
theorem dX0_snuggestSeat_2 : decode cX0_snuggestSeat 2 = .ok (.iconst 0, 1) := by decide +kernel
theorem dX0_snuggestSeat_3 : decode cX0_snuggestSeat 3 = .ok (.istore_n 3, 1) := by decide +kernel
theorem dX0_snuggestSeat_4 : decode cX0_snuggestSeat 4 = .ok (.iconst 0, 1) := by decide +kernel
theorem dX0_snuggestSeat_5 : decode cX0_snuggestSeat 5 = .ok (.istore 4, 2) := by decide +kernel
theorem dX0_snuggestSeat_7 : decode cX0_snuggestSeat 7 = .ok (.iload 4, 2) := by decide +kernel
theorem dX0_snuggestSeat_9 : decode cX0_snuggestSeat 9 = .ok (.iconst 3, 1) := by decide +kernel
theorem dX0_snuggestSeat_10 : decode cX0_snuggestSeat 10 = .ok (.if_icmp .ge 48, 3) := by decide +kernel
theorem dX0_snuggestSeat_13 : decode cX0_snuggestSeat 13 = .ok (.aload_n 0, 1) := by decide +kernel
theorem dX0_snuggestSeat_14 : decode cX0_snuggestSeat 14 = .ok (.iload_n 1, 1) := by decide +kernel
theorem dX0_snuggestSeat_15 : decode cX0_snuggestSeat 15 = .ok (.iload 4, 2) := by decide +kernel
theorem dX0_snuggestSeat_17 : decode cX0_snuggestSeat 17 = .ok (.invokevirtual 105, 3) := by decide +kernel
theorem dX0_snuggestSeat_20 : decode cX0_snuggestSeat 20 = .ok (.istore 5, 2) := by decide +kernel
theorem dX0_snuggestSeat_22 : decode cX0_snuggestSeat 22 = .ok (.aload_n 0, 1) := by decide +kernel
theorem dX0_snuggestSeat_23 : decode cX0_snuggestSeat 23 = .ok (.getfield 11, 3) := by decide +kernel
theorem dX0_snuggestSeat_26 : decode cX0_snuggestSeat 26 = .ok (.iload 4, 2) := by decide +kernel
theorem dX0_snuggestSeat_28 : decode cX0_snuggestSeat 28 = .ok (.aaload, 1) := by decide +kernel
theorem dX0_snuggestSeat_29 : decode cX0_snuggestSeat 29 = .ok (.invokevirtual 141, 3) := by decide +kernel
theorem dX0_snuggestSeat_32 : decode cX0_snuggestSeat 32 = .ok (.ifCond .ne 20, 3) := by decide +kernel
theorem dX0_snuggestSeat_35 : decode cX0_snuggestSeat 35 = .ok (.iload_n 2, 1) := by decide +kernel
theorem dX0_snuggestSeat_36 : decode cX0_snuggestSeat 36 = .ok (.iconst (-1), 1) := by decide +kernel
theorem dX0_snuggestSeat_37 : decode cX0_snuggestSeat 37 = .ok (.if_icmp .eq 9, 3) := by decide +kernel
theorem dX0_snuggestSeat_40 : decode cX0_snuggestSeat 40 = .ok (.iload 5, 2) := by decide +kernel
theorem dX0_snuggestSeat_42 : decode cX0_snuggestSeat 42 = .ok (.iload_n 3, 1) := by decide +kernel
theorem dX0_snuggestSeat_43 : decode cX0_snuggestSeat 43 = .ok (.if_icmp .le 9, 3) := by decide +kernel
theorem dX0_snuggestSeat_46 : decode cX0_snuggestSeat 46 = .ok (.iload 4, 2) := by decide +kernel
theorem dX0_snuggestSeat_48 : decode cX0_snuggestSeat 48 = .ok (.istore_n 2, 1) := by decide +kernel
theorem dX0_snuggestSeat_49 : decode cX0_snuggestSeat 49 = .ok (.iload 5, 2) := by decide +kernel
theorem dX0_snuggestSeat_51 : decode cX0_snuggestSeat 51 = .ok (.istore_n 3, 1) := by decide +kernel
theorem dX0_snuggestSeat_52 : decode cX0_snuggestSeat 52 = .ok (.iinc 4 1, 3) := by decide +kernel
theorem dX0_snuggestSeat_55 : decode cX0_snuggestSeat 55 = .ok (.goto (-48), 3) := by decide +kernel
theorem dX0_snuggestSeat_58 : decode cX0_snuggestSeat 58 = .ok (.iload_n 2, 1) := by decide +kernel
theorem dX0_snuggestSeat_59 : decode cX0_snuggestSeat 59 = .ok (.ireturn, 1) := by decide +kernel
theorem dX0_moods_0 : decode cX0_moods 0 = .ok (.iconst 0, 1) := by decide +kernel
theorem dX0_moods_1 : decode cX0_moods 1 = .ok (.istore_n 1, 1) := by decide +kernel
theorem dX0_moods_2 : decode cX0_moods 2 = .ok (.iconst 0, 1) := by decide +kernel
theorem dX0_moods_3 : decode cX0_moods 3 = .ok (.istore_n 2, 1) := by decide +kernel
theorem dX0_moods_4 : decode cX0_moods 4 = .ok (.iload_n 2, 1) := by decide +kernel
theorem dX0_moods_5 : decode cX0_moods 5 = .ok (.aload_n 0, 1) := by decide +kernel
theorem dX0_moods_6 : decode cX0_moods 6 = .ok (.getfield 23, 3) := by decide +kernel
theorem dX0_moods_9 : decode cX0_moods 9 = .ok (.if_icmp .ge 21, 3) := by decide +kernel
theorem dX0_moods_12 : decode cX0_moods 12 = .ok (.iload_n 1, 1) := by decide +kernel
theorem dX0_moods_13 : decode cX0_moods 13 = .ok (.aload_n 0, 1) := by decide +kernel
theorem dX0_moods_14 : decode cX0_moods 14 = .ok (.getfield 19, 3) := by decide +kernel
theorem dX0_moods_17 : decode cX0_moods 17 = .ok (.iload_n 2, 1) := by decide +kernel
theorem dX0_moods_18 : decode cX0_moods 18 = .ok (.aaload, 1) := by decide +kernel
theorem dX0_moods_19 : decode cX0_moods 19 = .ok (.getfield 122, 3) := by decide +kernel
theorem dX0_moods_22 : decode cX0_moods 22 = .ok (.iadd, 1) := by decide +kernel
theorem dX0_moods_23 : decode cX0_moods 23 = .ok (.istore_n 1, 1) := by decide +kernel
theorem dX0_moods_24 : decode cX0_moods 24 = .ok (.iinc 2 1, 3) := by decide +kernel
theorem dX0_moods_27 : decode cX0_moods 27 = .ok (.goto (-23), 3) := by decide +kernel
theorem dX0_moods_30 : decode cX0_moods 30 = .ok (.iload_n 1, 1) := by decide +kernel
theorem dX0_moods_31 : decode cX0_moods 31 = .ok (.ireturn, 1) := by decide +kernel
theorem dX0_tights_0 : decode cX0_tights 0 = .ok (.iconst 0, 1) := by decide +kernel
theorem dX0_tights_1 : decode cX0_tights 1 = .ok (.istore_n 1, 1) := by decide +kernel
theorem dX0_tights_2 : decode cX0_tights 2 = .ok (.iconst 0, 1) := by decide +kernel
theorem dX0_tights_3 : decode cX0_tights 3 = .ok (.istore_n 2, 1) := by decide +kernel
theorem dX0_tights_4 : decode cX0_tights 4 = .ok (.iload_n 2, 1) := by decide +kernel
theorem dX0_tights_5 : decode cX0_tights 5 = .ok (.aload_n 0, 1) := by decide +kernel
theorem dX0_tights_6 : decode cX0_tights 6 = .ok (.getfield 23, 3) := by decide +kernel
theorem dX0_tights_9 : decode cX0_tights 9 = .ok (.if_icmp .ge 21, 3) := by decide +kernel
theorem dX0_tights_12 : decode cX0_tights 12 = .ok (.iload_n 1, 1) := by decide +kernel
theorem dX0_tights_13 : decode cX0_tights 13 = .ok (.aload_n 0, 1) := by decide +kernel
theorem dX0_tights_14 : decode cX0_tights 14 = .ok (.getfield 19, 3) := by decide +kernel
theorem dX0_tights_17 : decode cX0_tights 17 = .ok (.iload_n 2, 1) := by decide +kernel
theorem dX0_tights_18 : decode cX0_tights 18 = .ok (.aaload, 1) := by decide +kernel
theorem dX0_tights_19 : decode cX0_tights 19 = .ok (.getfield 94, 3) := by decide +kernel
theorem dX0_tights_22 : decode cX0_tights 22 = .ok (.iadd, 1) := by decide +kernel
theorem dX0_tights_23 : decode cX0_tights 23 = .ok (.istore_n 1, 1) := by decide +kernel
theorem dX0_tights_24 : decode cX0_tights 24 = .ok (.iinc 2 1, 3) := by decide +kernel
theorem dX0_tights_27 : decode cX0_tights 27 = .ok (.goto (-23), 3) := by decide +kernel
theorem dX0_tights_30 : decode cX0_tights 30 = .ok (.iload_n 1, 1) := by decide +kernel
theorem dX0_tights_31 : decode cX0_tights 31 = .ok (.ireturn, 1) := by decide +kernel
theorem dX0_wears_0 : decode cX0_wears 0 = .ok (.iconst 0, 1) := by decide +kernel
theorem dX0_wears_1 : decode cX0_wears 1 = .ok (.istore_n 1, 1) := by decide +kernel
theorem dX0_wears_2 : decode cX0_wears 2 = .ok (.iconst 0, 1) := by decide +kernel
theorem dX0_wears_3 : decode cX0_wears 3 = .ok (.istore_n 2, 1) := by decide +kernel
theorem dX0_wears_4 : decode cX0_wears 4 = .ok (.iload_n 2, 1) := by decide +kernel
theorem dX0_wears_5 : decode cX0_wears 5 = .ok (.iconst 3, 1) := by decide +kernel
theorem dX0_wears_6 : decode cX0_wears 6 = .ok (.if_icmp .ge 21, 3) := by decide +kernel
theorem dX0_wears_9 : decode cX0_wears 9 = .ok (.iload_n 1, 1) := by decide +kernel
theorem dX0_wears_10 : decode cX0_wears 10 = .ok (.aload_n 0, 1) := by decide +kernel
theorem dX0_wears_11 : decode cX0_wears 11 = .ok (.getfield 11, 3) := by decide +kernel
theorem dX0_wears_14 : decode cX0_wears 14 = .ok (.iload_n 2, 1) := by decide +kernel
theorem dX0_wears_15 : decode cX0_wears 15 = .ok (.aaload, 1) := by decide +kernel
theorem dX0_wears_16 : decode cX0_wears 16 = .ok (.getfield 108, 3) := by decide +kernel
theorem dX0_wears_19 : decode cX0_wears 19 = .ok (.iadd, 1) := by decide +kernel
theorem dX0_wears_20 : decode cX0_wears 20 = .ok (.istore_n 1, 1) := by decide +kernel
theorem dX0_wears_21 : decode cX0_wears 21 = .ok (.iinc 2 1, 3) := by decide +kernel
theorem dX0_wears_24 : decode cX0_wears 24 = .ok (.goto (-20), 3) := by decide +kernel
theorem dX0_wears_27 : decode cX0_wears 27 = .ok (.iload_n 1, 1) := by decide +kernel
theorem dX0_wears_28 : decode cX0_wears 28 = .ok (.ireturn, 1) := by decide +kernel
theorem dX1_init_0 : decode cX1_init 0 = .ok (.aload_n 0, 1) := by decide +kernel
theorem dX1_init_1 : decode cX1_init 1 = .ok (.invokespecial 3, 3) := by decide +kernel
theorem dX1_init_4 : decode cX1_init 4 = .ok (.aload_n 0, 1) := by decide +kernel
theorem dX1_init_5 : decode cX1_init 5 = .ok (.new 9, 3) := by decide +kernel
theorem dX1_init_8 : decode cX1_init 8 = .ok (.dup, 1) := by decide +kernel
theorem dX1_init_9 : decode cX1_init 9 = .ok (.invokespecial 11, 3) := by decide +kernel
theorem dX1_init_12 : decode cX1_init 12 = .ok (.putfield 12, 3) := by decide +kernel
theorem dX1_init_15 : decode cX1_init 15 = .ok (.aload_n 0, 1) := by decide +kernel
theorem dX1_init_16 : decode cX1_init 16 = .ok (.iconst (-1), 1) := by decide +kernel
theorem dX1_init_17 : decode cX1_init 17 = .ok (.putfield 18, 3) := by decide +kernel
theorem dX1_init_20 : decode cX1_init 20 = .ok (.return_, 1) := by decide +kernel
theorem dX1_hasFault_0 : decode cX1_hasFault 0 = .ok (.aload_n 0, 1) := by decide +kernel
theorem dX1_hasFault_1 : decode cX1_hasFault 1 = .ok (.getfield 18, 3) := by decide +kernel
theorem dX1_hasFault_4 : decode cX1_hasFault 4 = .ok (.iconst (-1), 1) := by decide +kernel
theorem dX1_hasFault_5 : decode cX1_hasFault 5 = .ok (.if_icmp .eq 7, 3) := by decide +kernel
theorem dX1_hasFault_8 : decode cX1_hasFault 8 = .ok (.iconst 1, 1) := by decide +kernel
theorem dX1_hasFault_9 : decode cX1_hasFault 9 = .ok (.goto 4, 3) := by decide +kernel
theorem dX1_hasFault_12 : decode cX1_hasFault 12 = .ok (.iconst 0, 1) := by decide +kernel
theorem dX1_hasFault_13 : decode cX1_hasFault 13 = .ok (.ireturn, 1) := by decide +kernel
theorem dX1_parse_0 : decode cX1_parse 0 = .ok (.aload_n 0, 1) := by decide +kernel
theorem dX1_parse_1 : decode cX1_parse 1 = .ok (.iconst (-1), 1) := by decide +kernel
theorem dX1_parse_2 : decode cX1_parse 2 = .ok (.putfield 18, 3) := by decide +kernel
theorem dX1_parse_5 : decode cX1_parse 5 = .ok (.aload_n 0, 1) := by decide +kernel
theorem dX1_parse_6 : decode cX1_parse 6 = .ok (.getfield 12, 3) := by decide +kernel
theorem dX1_parse_9 : decode cX1_parse 9 = .ok (.invokevirtual 22, 3) := by decide +kernel
theorem dX1_parse_12 : decode cX1_parse 12 = .ok (.iconst 1, 1) := by decide +kernel
theorem dX1_parse_13 : decode cX1_parse 13 = .ok (.istore_n 2, 1) := by decide +kernel
theorem dX1_parse_14 : decode cX1_parse 14 = .ok (.iload_n 2, 1) := by decide +kernel
theorem dX1_parse_15 : decode cX1_parse 15 = .ok (.bipush 120, 2) := by decide +kernel
theorem dX1_parse_17 : decode cX1_parse 17 = .ok (.if_icmp .gt 64, 3) := by decide +kernel
theorem dX1_parse_20 : decode cX1_parse 20 = .ok (.aload_n 0, 1) := by decide +kernel
theorem dX1_parse_21 : decode cX1_parse 21 = .ok (.aload_n 1, 1) := by decide +kernel
theorem dX1_parse_22 : decode cX1_parse 22 = .ok (.invokevirtual 25, 3) := by decide +kernel
theorem dX1_parse_25 : decode cX1_parse 25 = .ok (.aload_n 0, 1) := by decide +kernel
theorem dX1_parse_26 : decode cX1_parse 26 = .ok (.invokevirtual 29, 3) := by decide +kernel
theorem dX1_parse_29 : decode cX1_parse 29 = .ok (.ifCond .ne 13, 3) := by decide +kernel
theorem dX1_parse_32 : decode cX1_parse 32 = .ok (.aload_n 0, 1) := by decide +kernel
theorem dX1_parse_33 : decode cX1_parse 33 = .ok (.getfield 12, 3) := by decide +kernel
theorem dX1_parse_36 : decode cX1_parse 36 = .ok (.getfield 33, 3) := by decide +kernel
theorem dX1_parse_39 : decode cX1_parse 39 = .ok (.ifCond .ne 5, 3) := by decide +kernel
theorem dX1_parse_42 : decode cX1_parse 42 = .ok (.iload_n 2, 1) := by decide +kernel
theorem dX1_parse_43 : decode cX1_parse 43 = .ok (.ireturn, 1) := by decide +kernel
theorem dX1_parse_44 : decode cX1_parse 44 = .ok (.aload_n 0, 1) := by decide +kernel
theorem dX1_parse_45 : decode cX1_parse 45 = .ok (.getfield 12, 3) := by decide +kernel
theorem dX1_parse_48 : decode cX1_parse 48 = .ok (.getfield 33, 3) := by decide +kernel
theorem dX1_parse_51 : decode cX1_parse 51 = .ok (.iconst 3, 1) := by decide +kernel
theorem dX1_parse_52 : decode cX1_parse 52 = .ok (.if_icmp .eq 16, 3) := by decide +kernel
theorem dX1_parse_55 : decode cX1_parse 55 = .ok (.aload_n 0, 1) := by decide +kernel
theorem dX1_parse_56 : decode cX1_parse 56 = .ok (.aload_n 0, 1) := by decide +kernel
theorem dX1_parse_57 : decode cX1_parse 57 = .ok (.getfield 12, 3) := by decide +kernel
theorem dX1_parse_60 : decode cX1_parse 60 = .ok (.getfield 36, 3) := by decide +kernel
theorem dX1_parse_63 : decode cX1_parse 63 = .ok (.putfield 18, 3) := by decide +kernel
theorem dX1_parse_66 : decode cX1_parse 66 = .ok (.iload_n 2, 1) := by decide +kernel
theorem dX1_parse_67 : decode cX1_parse 67 = .ok (.ireturn, 1) := by decide +kernel
theorem dX1_parse_68 : decode cX1_parse 68 = .ok (.aload_n 0, 1) := by decide +kernel
theorem dX1_parse_69 : decode cX1_parse 69 = .ok (.getfield 12, 3) := by decide +kernel
theorem dX1_parse_72 : decode cX1_parse 72 = .ok (.invokevirtual 39, 3) := by decide +kernel
theorem dX1_parse_75 : decode cX1_parse 75 = .ok (.iinc 2 1, 3) := by decide +kernel
theorem dX1_parse_78 : decode cX1_parse 78 = .ok (.goto (-64), 3) := by decide +kernel
theorem dX1_parse_81 : decode cX1_parse 81 = .ok (.bipush 120, 2) := by decide +kernel
theorem dX1_parse_83 : decode cX1_parse 83 = .ok (.ireturn, 1) := by decide +kernel
theorem dX1_parseItem_0 : decode cX1_parseItem 0 = .ok (.aload_n 0, 1) := by decide +kernel
theorem dX1_parseItem_1 : decode cX1_parseItem 1 = .ok (.invokevirtual 42, 3) := by decide +kernel
theorem dX1_parseItem_4 : decode cX1_parseItem 4 = .ok (.istore_n 2, 1) := by decide +kernel
theorem dX1_parseItem_5 : decode cX1_parseItem 5 = .ok (.iload_n 2, 1) := by decide +kernel
theorem dX1_parseItem_6 : decode cX1_parseItem 6 = .ok (.invokestatic 46, 3) := by decide +kernel
theorem dX1_parseItem_9 : decode cX1_parseItem 9 = .ok (.ifCond .eq 12, 3) := by decide +kernel
theorem dX1_parseItem_12 : decode cX1_parseItem 12 = .ok (.aload_n 0, 1) := by decide +kernel
theorem dX1_parseItem_13 : decode cX1_parseItem 13 = .ok (.aload_n 1, 1) := by decide +kernel
theorem dX1_parseItem_14 : decode cX1_parseItem 14 = .ok (.iload_n 2, 1) := by decide +kernel
theorem dX1_parseItem_15 : decode cX1_parseItem 15 = .ok (.invokevirtual 50, 3) := by decide +kernel
theorem dX1_parseItem_18 : decode cX1_parseItem 18 = .ok (.goto 59, 3) := by decide +kernel
theorem dX1_parseItem_21 : decode cX1_parseItem 21 = .ok (.aload_n 0, 1) := by decide +kernel
theorem dX1_parseItem_22 : decode cX1_parseItem 22 = .ok (.getfield 12, 3) := by decide +kernel
theorem dX1_parseItem_25 : decode cX1_parseItem 25 = .ok (.ldc 54, 2) := by decide +kernel
theorem dX1_parseItem_27 : decode cX1_parseItem 27 = .ok (.invokevirtual 56, 3) := by decide +kernel
theorem dX1_parseItem_30 : decode cX1_parseItem 30 = .ok (.ifCond .eq 11, 3) := by decide +kernel
theorem dX1_parseItem_33 : decode cX1_parseItem 33 = .ok (.aload_n 0, 1) := by decide +kernel
theorem dX1_parseItem_34 : decode cX1_parseItem 34 = .ok (.aload_n 1, 1) := by decide +kernel
theorem dX1_parseItem_35 : decode cX1_parseItem 35 = .ok (.invokevirtual 60, 3) := by decide +kernel
theorem dX1_parseItem_38 : decode cX1_parseItem 38 = .ok (.goto 39, 3) := by decide +kernel
theorem dX1_parseItem_41 : decode cX1_parseItem 41 = .ok (.aload_n 0, 1) := by decide +kernel
theorem dX1_parseItem_42 : decode cX1_parseItem 42 = .ok (.getfield 12, 3) := by decide +kernel
theorem dX1_parseItem_45 : decode cX1_parseItem 45 = .ok (.ldc 63, 2) := by decide +kernel
theorem dX1_parseItem_47 : decode cX1_parseItem 47 = .ok (.invokevirtual 56, 3) := by decide +kernel
theorem dX1_parseItem_50 : decode cX1_parseItem 50 = .ok (.ifCond .eq 16, 3) := by decide +kernel
theorem dX1_parseItem_53 : decode cX1_parseItem 53 = .ok (.aload_n 1, 1) := by decide +kernel
theorem dX1_parseItem_54 : decode cX1_parseItem 54 = .ok (.aload_n 0, 1) := by decide +kernel
theorem dX1_parseItem_55 : decode cX1_parseItem 55 = .ok (.bipush 9, 2) := by decide +kernel
theorem dX1_parseItem_57 : decode cX1_parseItem 57 = .ok (.invokevirtual 65, 3) := by decide +kernel
theorem dX1_parseItem_60 : decode cX1_parseItem 60 = .ok (.putfield 69, 3) := by decide +kernel
theorem dX1_parseItem_63 : decode cX1_parseItem 63 = .ok (.goto 14, 3) := by decide +kernel
theorem dX1_parseItem_66 : decode cX1_parseItem 66 = .ok (.aload_n 0, 1) := by decide +kernel
theorem dX1_parseItem_67 : decode cX1_parseItem 67 = .ok (.aload_n 0, 1) := by decide +kernel
theorem dX1_parseItem_68 : decode cX1_parseItem 68 = .ok (.getfield 12, 3) := by decide +kernel
theorem dX1_parseItem_71 : decode cX1_parseItem 71 = .ok (.getfield 36, 3) := by decide +kernel
theorem dX1_parseItem_74 : decode cX1_parseItem 74 = .ok (.putfield 18, 3) := by decide +kernel
theorem dX1_parseItem_77 : decode cX1_parseItem 77 = .ok (.return_, 1) := by decide +kernel
theorem dX1_parseChild_0 : decode cX1_parseChild 0 = .ok (.aload_n 1, 1) := by decide +kernel
theorem dX1_parseChild_1 : decode cX1_parseChild 1 = .ok (.invokevirtual 73, 3) := by decide +kernel
theorem dX1_parseChild_4 : decode cX1_parseChild 4 = .ok (.ifCond .eq 15, 3) := by decide +kernel
theorem dX1_parseChild_7 : decode cX1_parseChild 7 = .ok (.aload_n 0, 1) := by decide +kernel
theorem dX1_parseChild_8 : decode cX1_parseChild 8 = .ok (.aload_n 0, 1) := by decide +kernel
theorem dX1_parseChild_9 : decode cX1_parseChild 9 = .ok (.getfield 12, 3) := by decide +kernel
theorem dX1_parseChild_12 : decode cX1_parseChild 12 = .ok (.getfield 36, 3) := by decide +kernel
theorem dX1_parseChild_15 : decode cX1_parseChild 15 = .ok (.putfield 18, 3) := by decide +kernel
theorem dX1_parseChild_18 : decode cX1_parseChild 18 = .ok (.return_, 1) := by decide +kernel
theorem dX1_parseChild_19 : decode cX1_parseChild 19 = .ok (.aload_n 1, 1) := by decide +kernel
theorem dX1_parseChild_20 : decode cX1_parseChild 20 = .ok (.getfield 76, 3) := by decide +kernel
theorem dX1_parseChild_23 : decode cX1_parseChild 23 = .ok (.aload_n 1, 1) := by decide +kernel
theorem dX1_parseChild_24 : decode cX1_parseChild 24 = .ok (.iload_n 2, 1) := by decide +kernel
theorem dX1_parseChild_25 : decode cX1_parseChild 25 = .ok (.invokevirtual 80, 3) := by decide +kernel
theorem dX1_parseChild_28 : decode cX1_parseChild 28 = .ok (.aaload, 1) := by decide +kernel
theorem dX1_parseChild_29 : decode cX1_parseChild 29 = .ok (.astore_n 3, 1) := by decide +kernel
theorem dX1_parseChild_30 : decode cX1_parseChild 30 = .ok (.aload_n 0, 1) := by decide +kernel
theorem dX1_parseChild_31 : decode cX1_parseChild 31 = .ok (.getfield 12, 3) := by decide +kernel
theorem dX1_parseChild_34 : decode cX1_parseChild 34 = .ok (.invokevirtual 39, 3) := by decide +kernel
theorem dX1_parseChild_37 : decode cX1_parseChild 37 = .ok (.aload_n 0, 1) := by decide +kernel
theorem dX1_parseChild_38 : decode cX1_parseChild 38 = .ok (.getfield 12, 3) := by decide +kernel
theorem dX1_parseChild_41 : decode cX1_parseChild 41 = .ok (.ldc 83, 2) := by decide +kernel
theorem dX1_parseChild_43 : decode cX1_parseChild 43 = .ok (.invokevirtual 56, 3) := by decide +kernel
theorem dX1_parseChild_46 : decode cX1_parseChild 46 = .ok (.ifCond .eq 13, 3) := by decide +kernel
theorem dX1_parseChild_49 : decode cX1_parseChild 49 = .ok (.aload_n 3, 1) := by decide +kernel
theorem dX1_parseChild_50 : decode cX1_parseChild 50 = .ok (.aload_n 0, 1) := by decide +kernel
theorem dX1_parseChild_51 : decode cX1_parseChild 51 = .ok (.bipush 99, 2) := by decide +kernel
theorem dX1_parseChild_53 : decode cX1_parseChild 53 = .ok (.invokevirtual 65, 3) := by decide +kernel
theorem dX1_parseChild_56 : decode cX1_parseChild 56 = .ok (.putfield 85, 3) := by decide +kernel
theorem dX1_parseChild_59 : decode cX1_parseChild 59 = .ok (.aload_n 0, 1) := by decide +kernel
theorem dX1_parseChild_60 : decode cX1_parseChild 60 = .ok (.invokevirtual 29, 3) := by decide +kernel
theorem dX1_parseChild_63 : decode cX1_parseChild 63 = .ok (.ifCond .ne 25, 3) := by decide +kernel
theorem dX1_parseChild_66 : decode cX1_parseChild 66 = .ok (.aload_n 0, 1) := by decide +kernel
theorem dX1_parseChild_67 : decode cX1_parseChild 67 = .ok (.getfield 12, 3) := by decide +kernel
theorem dX1_parseChild_70 : decode cX1_parseChild 70 = .ok (.ldc 89, 2) := by decide +kernel
theorem dX1_parseChild_72 : decode cX1_parseChild 72 = .ok (.invokevirtual 56, 3) := by decide +kernel
theorem dX1_parseChild_75 : decode cX1_parseChild 75 = .ok (.ifCond .eq 13, 3) := by decide +kernel
theorem dX1_parseChild_78 : decode cX1_parseChild 78 = .ok (.aload_n 3, 1) := by decide +kernel
theorem dX1_parseChild_79 : decode cX1_parseChild 79 = .ok (.aload_n 0, 1) := by decide +kernel
theorem dX1_parseChild_80 : decode cX1_parseChild 80 = .ok (.bipush 9, 2) := by decide +kernel
theorem dX1_parseChild_82 : decode cX1_parseChild 82 = .ok (.invokevirtual 65, 3) := by decide +kernel
theorem dX1_parseChild_85 : decode cX1_parseChild 85 = .ok (.putfield 91, 3) := by decide +kernel
theorem dX1_parseChild_88 : decode cX1_parseChild 88 = .ok (.aload_n 0, 1) := by decide +kernel
theorem dX1_parseChild_89 : decode cX1_parseChild 89 = .ok (.invokevirtual 29, 3) := by decide +kernel
theorem dX1_parseChild_92 : decode cX1_parseChild 92 = .ok (.ifCond .ne 27, 3) := by decide +kernel
theorem dX1_parseChild_95 : decode cX1_parseChild 95 = .ok (.aload_n 0, 1) := by decide +kernel
theorem dX1_parseChild_96 : decode cX1_parseChild 96 = .ok (.getfield 12, 3) := by decide +kernel
theorem dX1_parseChild_99 : decode cX1_parseChild 99 = .ok (.ldc 93, 2) := by decide +kernel
theorem dX1_parseChild_101 : decode cX1_parseChild 101 = .ok (.invokevirtual 56, 3) := by decide +kernel
theorem dX1_parseChild_104 : decode cX1_parseChild 104 = .ok (.ifCond .eq 15, 3) := by decide +kernel
theorem dX1_parseChild_107 : decode cX1_parseChild 107 = .ok (.aload_n 3, 1) := by decide +kernel
theorem dX1_parseChild_108 : decode cX1_parseChild 108 = .ok (.iconst 1, 1) := by decide +kernel
theorem dX1_parseChild_109 : decode cX1_parseChild 109 = .ok (.putfield 95, 3) := by decide +kernel
theorem dX1_parseChild_112 : decode cX1_parseChild 112 = .ok (.aload_n 0, 1) := by decide +kernel
theorem dX1_parseChild_113 : decode cX1_parseChild 113 = .ok (.getfield 12, 3) := by decide +kernel
theorem dX1_parseChild_116 : decode cX1_parseChild 116 = .ok (.invokevirtual 39, 3) := by decide +kernel
theorem dX1_parseChild_119 : decode cX1_parseChild 119 = .ok (.return_, 1) := by decide +kernel
theorem dX1_parseSeat_0 : decode cX1_parseSeat 0 = .ok (.aload_n 0, 1) := by decide +kernel
theorem dX1_parseSeat_1 : decode cX1_parseSeat 1 = .ok (.iconst 2, 1) := by decide +kernel
theorem dX1_parseSeat_2 : decode cX1_parseSeat 2 = .ok (.invokevirtual 65, 3) := by decide +kernel
theorem dX1_parseSeat_5 : decode cX1_parseSeat 5 = .ok (.istore_n 2, 1) := by decide +kernel
theorem dX1_parseSeat_6 : decode cX1_parseSeat 6 = .ok (.aload_n 0, 1) := by decide +kernel
theorem dX1_parseSeat_7 : decode cX1_parseSeat 7 = .ok (.invokevirtual 29, 3) := by decide +kernel
theorem dX1_parseSeat_10 : decode cX1_parseSeat 10 = .ok (.ifCond .ne 10, 3) := by decide +kernel
theorem dX1_parseSeat_13 : decode cX1_parseSeat 13 = .ok (.iload_n 2, 1) := by decide +kernel
theorem dX1_parseSeat_14 : decode cX1_parseSeat 14 = .ok (.invokestatic 97, 3) := by decide +kernel
theorem dX1_parseSeat_17 : decode cX1_parseSeat 17 = .ok (.ifCond .ne 4, 3) := by decide +kernel
theorem dX1_parseSeat_20 : decode cX1_parseSeat 20 = .ok (.return_, 1) := by decide +kernel
theorem dX1_parseSeat_21 : decode cX1_parseSeat 21 = .ok (.aload_n 1, 1) := by decide +kernel
theorem dX1_parseSeat_22 : decode cX1_parseSeat 22 = .ok (.getfield 100, 3) := by decide +kernel
theorem dX1_parseSeat_25 : decode cX1_parseSeat 25 = .ok (.iload_n 2, 1) := by decide +kernel
theorem dX1_parseSeat_26 : decode cX1_parseSeat 26 = .ok (.aaload, 1) := by decide +kernel
theorem dX1_parseSeat_27 : decode cX1_parseSeat 27 = .ok (.astore_n 3, 1) := by decide +kernel
theorem dX1_parseSeat_28 : decode cX1_parseSeat 28 = .ok (.aload_n 3, 1) := by decide +kernel
theorem dX1_parseSeat_29 : decode cX1_parseSeat 29 = .ok (.iconst 0, 1) := by decide +kernel
theorem dX1_parseSeat_30 : decode cX1_parseSeat 30 = .ok (.putfield 104, 3) := by decide +kernel
theorem dX1_parseSeat_33 : decode cX1_parseSeat 33 = .ok (.aload_n 0, 1) := by decide +kernel
theorem dX1_parseSeat_34 : decode cX1_parseSeat 34 = .ok (.getfield 12, 3) := by decide +kernel
theorem dX1_parseSeat_37 : decode cX1_parseSeat 37 = .ok (.ldc 109, 2) := by decide +kernel
theorem dX1_parseSeat_39 : decode cX1_parseSeat 39 = .ok (.invokevirtual 56, 3) := by decide +kernel
theorem dX1_parseSeat_42 : decode cX1_parseSeat 42 = .ok (.ifCond .eq 12, 3) := by decide +kernel
theorem dX1_parseSeat_45 : decode cX1_parseSeat 45 = .ok (.aload_n 3, 1) := by decide +kernel
theorem dX1_parseSeat_46 : decode cX1_parseSeat 46 = .ok (.aload_n 0, 1) := by decide +kernel
theorem dX1_parseSeat_47 : decode cX1_parseSeat 47 = .ok (.iconst 5, 1) := by decide +kernel
theorem dX1_parseSeat_48 : decode cX1_parseSeat 48 = .ok (.invokevirtual 65, 3) := by decide +kernel
theorem dX1_parseSeat_51 : decode cX1_parseSeat 51 = .ok (.putfield 111, 3) := by decide +kernel
theorem dX1_parseSeat_54 : decode cX1_parseSeat 54 = .ok (.aload_n 0, 1) := by decide +kernel
theorem dX1_parseSeat_55 : decode cX1_parseSeat 55 = .ok (.invokevirtual 29, 3) := by decide +kernel
theorem dX1_parseSeat_58 : decode cX1_parseSeat 58 = .ok (.ifCond .ne 25, 3) := by decide +kernel
theorem dX1_parseSeat_61 : decode cX1_parseSeat 61 = .ok (.aload_n 0, 1) := by decide +kernel
theorem dX1_parseSeat_62 : decode cX1_parseSeat 62 = .ok (.getfield 12, 3) := by decide +kernel
theorem dX1_parseSeat_65 : decode cX1_parseSeat 65 = .ok (.ldc 113, 2) := by decide +kernel
theorem dX1_parseSeat_67 : decode cX1_parseSeat 67 = .ok (.invokevirtual 56, 3) := by decide +kernel
theorem dX1_parseSeat_70 : decode cX1_parseSeat 70 = .ok (.ifCond .eq 13, 3) := by decide +kernel
theorem dX1_parseSeat_73 : decode cX1_parseSeat 73 = .ok (.aload_n 3, 1) := by decide +kernel
theorem dX1_parseSeat_74 : decode cX1_parseSeat 74 = .ok (.aload_n 0, 1) := by decide +kernel
theorem dX1_parseSeat_75 : decode cX1_parseSeat 75 = .ok (.bipush 9, 2) := by decide +kernel
theorem dX1_parseSeat_77 : decode cX1_parseSeat 77 = .ok (.invokevirtual 65, 3) := by decide +kernel
theorem dX1_parseSeat_80 : decode cX1_parseSeat 80 = .ok (.putfield 115, 3) := by decide +kernel
theorem dX1_parseSeat_83 : decode cX1_parseSeat 83 = .ok (.aload_n 0, 1) := by decide +kernel
theorem dX1_parseSeat_84 : decode cX1_parseSeat 84 = .ok (.invokevirtual 29, 3) := by decide +kernel
theorem dX1_parseSeat_87 : decode cX1_parseSeat 87 = .ok (.ifCond .ne 27, 3) := by decide +kernel
theorem dX1_parseSeat_90 : decode cX1_parseSeat 90 = .ok (.aload_n 0, 1) := by decide +kernel
theorem dX1_parseSeat_91 : decode cX1_parseSeat 91 = .ok (.getfield 12, 3) := by decide +kernel
theorem dX1_parseSeat_94 : decode cX1_parseSeat 94 = .ok (.ldc 117, 2) := by decide +kernel
theorem dX1_parseSeat_96 : decode cX1_parseSeat 96 = .ok (.invokevirtual 56, 3) := by decide +kernel
theorem dX1_parseSeat_99 : decode cX1_parseSeat 99 = .ok (.ifCond .eq 15, 3) := by decide +kernel
theorem dX1_parseSeat_102 : decode cX1_parseSeat 102 = .ok (.aload_n 3, 1) := by decide +kernel
theorem dX1_parseSeat_103 : decode cX1_parseSeat 103 = .ok (.iconst 1, 1) := by decide +kernel
theorem dX1_parseSeat_104 : decode cX1_parseSeat 104 = .ok (.putfield 104, 3) := by decide +kernel
theorem dX1_parseSeat_107 : decode cX1_parseSeat 107 = .ok (.aload_n 0, 1) := by decide +kernel
theorem dX1_parseSeat_108 : decode cX1_parseSeat 108 = .ok (.getfield 12, 3) := by decide +kernel
theorem dX1_parseSeat_111 : decode cX1_parseSeat 111 = .ok (.invokevirtual 39, 3) := by decide +kernel
theorem dX1_parseSeat_114 : decode cX1_parseSeat 114 = .ok (.return_, 1) := by decide +kernel
theorem dX1_numberBehind_0 : decode cX1_numberBehind 0 = .ok (.aload_n 0, 1) := by decide +kernel
theorem dX1_numberBehind_1 : decode cX1_numberBehind 1 = .ok (.getfield 12, 3) := by decide +kernel
theorem dX1_numberBehind_4 : decode cX1_numberBehind 4 = .ok (.invokevirtual 39, 3) := by decide +kernel
theorem dX1_numberBehind_7 : decode cX1_numberBehind 7 = .ok (.aload_n 0, 1) := by decide +kernel
theorem dX1_numberBehind_8 : decode cX1_numberBehind 8 = .ok (.getfield 12, 3) := by decide +kernel
theorem dX1_numberBehind_11 : decode cX1_numberBehind 11 = .ok (.iload_n 1, 1) := by decide +kernel
theorem dX1_numberBehind_12 : decode cX1_numberBehind 12 = .ok (.invokevirtual 118, 3) := by decide +kernel
theorem dX1_numberBehind_15 : decode cX1_numberBehind 15 = .ok (.istore_n 2, 1) := by decide +kernel
theorem dX1_numberBehind_16 : decode cX1_numberBehind 16 = .ok (.iload_n 2, 1) := by decide +kernel
theorem dX1_numberBehind_17 : decode cX1_numberBehind 17 = .ok (.ifCond .ge 16, 3) := by decide +kernel
theorem dX1_numberBehind_20 : decode cX1_numberBehind 20 = .ok (.aload_n 0, 1) := by decide +kernel
theorem dX1_numberBehind_21 : decode cX1_numberBehind 21 = .ok (.aload_n 0, 1) := by decide +kernel
theorem dX1_numberBehind_22 : decode cX1_numberBehind 22 = .ok (.getfield 12, 3) := by decide +kernel
theorem dX1_numberBehind_25 : decode cX1_numberBehind 25 = .ok (.getfield 36, 3) := by decide +kernel
theorem dX1_numberBehind_28 : decode cX1_numberBehind 28 = .ok (.putfield 18, 3) := by decide +kernel
theorem dX1_numberBehind_31 : decode cX1_numberBehind 31 = .ok (.iconst 0, 1) := by decide +kernel
theorem dX1_numberBehind_32 : decode cX1_numberBehind 32 = .ok (.ireturn, 1) := by decide +kernel
theorem dX1_numberBehind_33 : decode cX1_numberBehind 33 = .ok (.aload_n 0, 1) := by decide +kernel
theorem dX1_numberBehind_34 : decode cX1_numberBehind 34 = .ok (.getfield 12, 3) := by decide +kernel
theorem dX1_numberBehind_37 : decode cX1_numberBehind 37 = .ok (.invokevirtual 39, 3) := by decide +kernel
theorem dX1_numberBehind_40 : decode cX1_numberBehind 40 = .ok (.iload_n 2, 1) := by decide +kernel
theorem dX1_numberBehind_41 : decode cX1_numberBehind 41 = .ok (.ireturn, 1) := by decide +kernel
theorem dX1_kindNamed_0 : decode cX1_kindNamed 0 = .ok (.iconst 0, 1) := by decide +kernel
theorem dX1_kindNamed_1 : decode cX1_kindNamed 1 = .ok (.istore_n 1, 1) := by decide +kernel
theorem dX1_kindNamed_2 : decode cX1_kindNamed 2 = .ok (.iload_n 1, 1) := by decide +kernel
theorem dX1_kindNamed_3 : decode cX1_kindNamed 3 = .ok (.bipush 6, 2) := by decide +kernel
theorem dX1_kindNamed_5 : decode cX1_kindNamed 5 = .ok (.if_icmp .ge 25, 3) := by decide +kernel
theorem dX1_kindNamed_8 : decode cX1_kindNamed 8 = .ok (.aload_n 0, 1) := by decide +kernel
theorem dX1_kindNamed_9 : decode cX1_kindNamed 9 = .ok (.getfield 12, 3) := by decide +kernel
theorem dX1_kindNamed_12 : decode cX1_kindNamed 12 = .ok (.iload_n 1, 1) := by decide +kernel
theorem dX1_kindNamed_13 : decode cX1_kindNamed 13 = .ok (.invokestatic 121, 3) := by decide +kernel
theorem dX1_kindNamed_16 : decode cX1_kindNamed 16 = .ok (.invokevirtual 56, 3) := by decide +kernel
theorem dX1_kindNamed_19 : decode cX1_kindNamed 19 = .ok (.ifCond .eq 5, 3) := by decide +kernel
theorem dX1_kindNamed_22 : decode cX1_kindNamed 22 = .ok (.iload_n 1, 1) := by decide +kernel
theorem dX1_kindNamed_23 : decode cX1_kindNamed 23 = .ok (.ireturn, 1) := by decide +kernel
theorem dX1_kindNamed_24 : decode cX1_kindNamed 24 = .ok (.iinc 1 1, 3) := by decide +kernel
theorem dX1_kindNamed_27 : decode cX1_kindNamed 27 = .ok (.goto (-25), 3) := by decide +kernel
theorem dX1_kindNamed_30 : decode cX1_kindNamed 30 = .ok (.iconst (-1), 1) := by decide +kernel
theorem dX1_kindNamed_31 : decode cX1_kindNamed 31 = .ok (.ireturn, 1) := by decide +kernel
theorem dX1_nameOf_0 : decode cX1_nameOf 0 = .ok (.iload_n 0, 1) := by decide +kernel
theorem dX1_nameOf_1 : decode cX1_nameOf 1 = .ok (.tableswitch 50 1 5 #[35, 38, 41, 44, 47], 35) := by decide +kernel
theorem dX1_nameOf_36 : decode cX1_nameOf 36 = .ok (.ldc 125, 2) := by decide +kernel
theorem dX1_nameOf_38 : decode cX1_nameOf 38 = .ok (.areturn, 1) := by decide +kernel
theorem dX1_nameOf_39 : decode cX1_nameOf 39 = .ok (.ldc 127, 2) := by decide +kernel
theorem dX1_nameOf_41 : decode cX1_nameOf 41 = .ok (.areturn, 1) := by decide +kernel
theorem dX1_nameOf_42 : decode cX1_nameOf 42 = .ok (.ldc 129, 2) := by decide +kernel
theorem dX1_nameOf_44 : decode cX1_nameOf 44 = .ok (.areturn, 1) := by decide +kernel
theorem dX1_nameOf_45 : decode cX1_nameOf 45 = .ok (.ldc 131, 2) := by decide +kernel
theorem dX1_nameOf_47 : decode cX1_nameOf 47 = .ok (.areturn, 1) := by decide +kernel
theorem dX1_nameOf_48 : decode cX1_nameOf 48 = .ok (.ldc 133, 2) := by decide +kernel
theorem dX1_nameOf_50 : decode cX1_nameOf 50 = .ok (.areturn, 1) := by decide +kernel
theorem dX1_nameOf_51 : decode cX1_nameOf 51 = .ok (.ldc 135, 2) := by decide +kernel
theorem dX1_nameOf_53 : decode cX1_nameOf 53 = .ok (.areturn, 1) := by decide +kernel
theorem dX2_init_0 : decode cX2_init 0 = .ok (.aload_n 0, 1) := by decide +kernel
theorem dX2_init_1 : decode cX2_init 1 = .ok (.invokespecial 3, 3) := by decide +kernel
theorem dX2_init_4 : decode cX2_init 4 = .ok (.aload_n 0, 1) := by decide +kernel
theorem dX2_init_5 : decode cX2_init 5 = .ok (.iconst 0, 1) := by decide +kernel
theorem dX2_init_6 : decode cX2_init 6 = .ok (.putfield 9, 3) := by decide +kernel
theorem dX2_init_9 : decode cX2_init 9 = .ok (.aload_n 0, 1) := by decide +kernel
theorem dX2_init_10 : decode cX2_init 10 = .ok (.iconst 0, 1) := by decide +kernel
theorem dX2_init_11 : decode cX2_init 11 = .ok (.putfield 15, 3) := by decide +kernel
theorem dX2_init_14 : decode cX2_init 14 = .ok (.aload_n 0, 1) := by decide +kernel
theorem dX2_init_15 : decode cX2_init 15 = .ok (.iconst 0, 1) := by decide +kernel
theorem dX2_init_16 : decode cX2_init 16 = .ok (.putfield 18, 3) := by decide +kernel
theorem dX2_init_19 : decode cX2_init 19 = .ok (.aload_n 0, 1) := by decide +kernel
theorem dX2_init_20 : decode cX2_init 20 = .ok (.iconst 0, 1) := by decide +kernel
theorem dX2_init_21 : decode cX2_init 21 = .ok (.putfield 21, 3) := by decide +kernel
theorem dX2_init_24 : decode cX2_init 24 = .ok (.aload_n 0, 1) := by decide +kernel
theorem dX2_init_25 : decode cX2_init 25 = .ok (.iconst 0, 1) := by decide +kernel
theorem dX2_init_26 : decode cX2_init 26 = .ok (.putfield 24, 3) := by decide +kernel
theorem dX2_init_29 : decode cX2_init 29 = .ok (.aload_n 0, 1) := by decide +kernel
theorem dX2_init_30 : decode cX2_init 30 = .ok (.iconst 0, 1) := by decide +kernel
theorem dX2_init_31 : decode cX2_init 31 = .ok (.putfield 27, 3) := by decide +kernel
theorem dX2_init_34 : decode cX2_init 34 = .ok (.aload_n 0, 1) := by decide +kernel
theorem dX2_init_35 : decode cX2_init 35 = .ok (.iconst (-1), 1) := by decide +kernel
theorem dX2_init_36 : decode cX2_init 36 = .ok (.putfield 30, 3) := by decide +kernel
theorem dX2_init_39 : decode cX2_init 39 = .ok (.return_, 1) := by decide +kernel
theorem dX2_most_0 : decode cX2_most 0 = .ok (.iload_n 0, 1) := by decide +kernel
theorem dX2_most_1 : decode cX2_most 1 = .ok (.tableswitch 35 1 3 #[27, 30, 33], 27) := by decide +kernel
theorem dX2_most_28 : decode cX2_most 28 = .ok (.bipush 99, 2) := by decide +kernel
theorem dX2_most_30 : decode cX2_most 30 = .ok (.ireturn, 1) := by decide +kernel
theorem dX2_most_31 : decode cX2_most 31 = .ok (.bipush 9, 2) := by decide +kernel
theorem dX2_most_33 : decode cX2_most 33 = .ok (.ireturn, 1) := by decide +kernel
theorem dX2_most_34 : decode cX2_most 34 = .ok (.iconst 1, 1) := by decide +kernel
theorem dX2_most_35 : decode cX2_most 35 = .ok (.ireturn, 1) := by decide +kernel
theorem dX2_most_36 : decode cX2_most 36 = .ok (.bipush 9, 2) := by decide +kernel
theorem dX2_most_38 : decode cX2_most 38 = .ok (.ireturn, 1) := by decide +kernel
theorem dX2_begin_0 : decode cX2_begin 0 = .ok (.aload_n 0, 1) := by decide +kernel
theorem dX2_begin_1 : decode cX2_begin 1 = .ok (.iload_n 1, 1) := by decide +kernel
theorem dX2_begin_2 : decode cX2_begin 2 = .ok (.putfield 9, 3) := by decide +kernel
theorem dX2_begin_5 : decode cX2_begin 5 = .ok (.aload_n 0, 1) := by decide +kernel
theorem dX2_begin_6 : decode cX2_begin 6 = .ok (.bipush 30, 2) := by decide +kernel
theorem dX2_begin_8 : decode cX2_begin 8 = .ok (.putfield 15, 3) := by decide +kernel
theorem dX2_begin_11 : decode cX2_begin 11 = .ok (.aload_n 0, 1) := by decide +kernel
theorem dX2_begin_12 : decode cX2_begin 12 = .ok (.iconst 5, 1) := by decide +kernel
theorem dX2_begin_13 : decode cX2_begin 13 = .ok (.putfield 18, 3) := by decide +kernel
theorem dX2_begin_16 : decode cX2_begin 16 = .ok (.aload_n 0, 1) := by decide +kernel
theorem dX2_begin_17 : decode cX2_begin 17 = .ok (.iconst 0, 1) := by decide +kernel
theorem dX2_begin_18 : decode cX2_begin 18 = .ok (.putfield 21, 3) := by decide +kernel
theorem dX2_begin_21 : decode cX2_begin 21 = .ok (.aload_n 0, 1) := by decide +kernel
theorem dX2_begin_22 : decode cX2_begin 22 = .ok (.iconst 0, 1) := by decide +kernel
theorem dX2_begin_23 : decode cX2_begin 23 = .ok (.putfield 24, 3) := by decide +kernel
theorem dX2_begin_26 : decode cX2_begin 26 = .ok (.aload_n 0, 1) := by decide +kernel
theorem dX2_begin_27 : decode cX2_begin 27 = .ok (.iconst 0, 1) := by decide +kernel
theorem dX2_begin_28 : decode cX2_begin 28 = .ok (.putfield 27, 3) := by decide +kernel
theorem dX2_begin_31 : decode cX2_begin 31 = .ok (.aload_n 0, 1) := by decide +kernel
theorem dX2_begin_32 : decode cX2_begin 32 = .ok (.iconst (-1), 1) := by decide +kernel
theorem dX2_begin_33 : decode cX2_begin 33 = .ok (.putfield 30, 3) := by decide +kernel
theorem dX2_begin_36 : decode cX2_begin 36 = .ok (.return_, 1) := by decide +kernel
theorem dX2_sits_0 : decode cX2_sits 0 = .ok (.aload_n 0, 1) := by decide +kernel
theorem dX2_sits_1 : decode cX2_sits 1 = .ok (.getfield 30, 3) := by decide +kernel
theorem dX2_sits_4 : decode cX2_sits 4 = .ok (.iconst (-1), 1) := by decide +kernel
theorem dX2_sits_5 : decode cX2_sits 5 = .ok (.if_icmp .eq 7, 3) := by decide +kernel
theorem dX2_sits_8 : decode cX2_sits 8 = .ok (.iconst 1, 1) := by decide +kernel
theorem dX2_sits_9 : decode cX2_sits 9 = .ok (.goto 4, 3) := by decide +kernel
theorem dX2_sits_12 : decode cX2_sits 12 = .ok (.iconst 0, 1) := by decide +kernel
theorem dX2_sits_13 : decode cX2_sits 13 = .ok (.ireturn, 1) := by decide +kernel
theorem dX2_get_0 : decode cX2_get 0 = .ok (.iload_n 1, 1) := by decide +kernel
theorem dX2_get_1 : decode cX2_get 1 = .ok (.tableswitch 69 0 5 #[39, 44, 49, 54, 59, 64], 39) := by decide +kernel
theorem dX2_get_40 : decode cX2_get 40 = .ok (.aload_n 0, 1) := by decide +kernel
theorem dX2_get_41 : decode cX2_get 41 = .ok (.getfield 9, 3) := by decide +kernel
theorem dX2_get_44 : decode cX2_get 44 = .ok (.ireturn, 1) := by decide +kernel
theorem dX2_get_45 : decode cX2_get 45 = .ok (.aload_n 0, 1) := by decide +kernel
theorem dX2_get_46 : decode cX2_get 46 = .ok (.getfield 15, 3) := by decide +kernel
theorem dX2_get_49 : decode cX2_get 49 = .ok (.ireturn, 1) := by decide +kernel
theorem dX2_get_50 : decode cX2_get 50 = .ok (.aload_n 0, 1) := by decide +kernel
theorem dX2_get_51 : decode cX2_get 51 = .ok (.getfield 18, 3) := by decide +kernel
theorem dX2_get_54 : decode cX2_get 54 = .ok (.ireturn, 1) := by decide +kernel
theorem dX2_get_55 : decode cX2_get 55 = .ok (.aload_n 0, 1) := by decide +kernel
theorem dX2_get_56 : decode cX2_get 56 = .ok (.getfield 21, 3) := by decide +kernel
theorem dX2_get_59 : decode cX2_get 59 = .ok (.ireturn, 1) := by decide +kernel
theorem dX2_get_60 : decode cX2_get 60 = .ok (.aload_n 0, 1) := by decide +kernel
theorem dX2_get_61 : decode cX2_get 61 = .ok (.getfield 24, 3) := by decide +kernel
theorem dX2_get_64 : decode cX2_get 64 = .ok (.ireturn, 1) := by decide +kernel
theorem dX2_get_65 : decode cX2_get 65 = .ok (.aload_n 0, 1) := by decide +kernel
theorem dX2_get_66 : decode cX2_get 66 = .ok (.getfield 27, 3) := by decide +kernel
theorem dX2_get_69 : decode cX2_get 69 = .ok (.ireturn, 1) := by decide +kernel
theorem dX2_get_70 : decode cX2_get 70 = .ok (.aload_n 0, 1) := by decide +kernel
theorem dX2_get_71 : decode cX2_get 71 = .ok (.getfield 30, 3) := by decide +kernel
theorem dX2_get_74 : decode cX2_get 74 = .ok (.ireturn, 1) := by decide +kernel
theorem dX2_put_0 : decode cX2_put 0 = .ok (.iload_n 1, 1) := by decide +kernel
theorem dX2_put_1 : decode cX2_put 1 = .ok (.tableswitch 51 1 3 #[27, 35, 43], 27) := by decide +kernel
theorem dX2_put_28 : decode cX2_put 28 = .ok (.aload_n 0, 1) := by decide +kernel
theorem dX2_put_29 : decode cX2_put 29 = .ok (.iload_n 2, 1) := by decide +kernel
theorem dX2_put_30 : decode cX2_put 30 = .ok (.putfield 15, 3) := by decide +kernel
theorem dX2_put_33 : decode cX2_put 33 = .ok (.goto 24, 3) := by decide +kernel
theorem dX2_put_36 : decode cX2_put 36 = .ok (.aload_n 0, 1) := by decide +kernel
theorem dX2_put_37 : decode cX2_put 37 = .ok (.iload_n 2, 1) := by decide +kernel
theorem dX2_put_38 : decode cX2_put 38 = .ok (.putfield 18, 3) := by decide +kernel
theorem dX2_put_41 : decode cX2_put 41 = .ok (.goto 16, 3) := by decide +kernel
theorem dX2_put_44 : decode cX2_put 44 = .ok (.aload_n 0, 1) := by decide +kernel
theorem dX2_put_45 : decode cX2_put 45 = .ok (.iload_n 2, 1) := by decide +kernel
theorem dX2_put_46 : decode cX2_put 46 = .ok (.putfield 21, 3) := by decide +kernel
theorem dX2_put_49 : decode cX2_put 49 = .ok (.goto 8, 3) := by decide +kernel
theorem dX2_put_52 : decode cX2_put 52 = .ok (.aload_n 0, 1) := by decide +kernel
theorem dX2_put_53 : decode cX2_put 53 = .ok (.iload_n 2, 1) := by decide +kernel
theorem dX2_put_54 : decode cX2_put 54 = .ok (.putfield 24, 3) := by decide +kernel
theorem dX2_put_57 : decode cX2_put 57 = .ok (.return_, 1) := by decide +kernel
theorem dX2_become_0 : decode cX2_become 0 = .ok (.aload_n 0, 1) := by decide +kernel
theorem dX2_become_1 : decode cX2_become 1 = .ok (.aload_n 1, 1) := by decide +kernel
theorem dX2_become_2 : decode cX2_become 2 = .ok (.getfield 9, 3) := by decide +kernel
theorem dX2_become_5 : decode cX2_become 5 = .ok (.putfield 9, 3) := by decide +kernel
theorem dX2_become_8 : decode cX2_become 8 = .ok (.aload_n 0, 1) := by decide +kernel
theorem dX2_become_9 : decode cX2_become 9 = .ok (.aload_n 1, 1) := by decide +kernel
theorem dX2_become_10 : decode cX2_become 10 = .ok (.getfield 15, 3) := by decide +kernel
theorem dX2_become_13 : decode cX2_become 13 = .ok (.putfield 15, 3) := by decide +kernel
theorem dX2_become_16 : decode cX2_become 16 = .ok (.aload_n 0, 1) := by decide +kernel
theorem dX2_become_17 : decode cX2_become 17 = .ok (.aload_n 1, 1) := by decide +kernel
theorem dX2_become_18 : decode cX2_become 18 = .ok (.getfield 18, 3) := by decide +kernel
theorem dX2_become_21 : decode cX2_become 21 = .ok (.putfield 18, 3) := by decide +kernel
theorem dX2_become_24 : decode cX2_become 24 = .ok (.aload_n 0, 1) := by decide +kernel
theorem dX2_become_25 : decode cX2_become 25 = .ok (.aload_n 1, 1) := by decide +kernel
theorem dX2_become_26 : decode cX2_become 26 = .ok (.getfield 21, 3) := by decide +kernel
theorem dX2_become_29 : decode cX2_become 29 = .ok (.putfield 21, 3) := by decide +kernel
theorem dX2_become_32 : decode cX2_become 32 = .ok (.aload_n 0, 1) := by decide +kernel
theorem dX2_become_33 : decode cX2_become 33 = .ok (.aload_n 1, 1) := by decide +kernel
theorem dX2_become_34 : decode cX2_become 34 = .ok (.getfield 24, 3) := by decide +kernel
theorem dX2_become_37 : decode cX2_become 37 = .ok (.putfield 24, 3) := by decide +kernel
theorem dX2_become_40 : decode cX2_become 40 = .ok (.aload_n 0, 1) := by decide +kernel
theorem dX2_become_41 : decode cX2_become 41 = .ok (.aload_n 1, 1) := by decide +kernel
theorem dX2_become_42 : decode cX2_become 42 = .ok (.getfield 27, 3) := by decide +kernel
theorem dX2_become_45 : decode cX2_become 45 = .ok (.putfield 27, 3) := by decide +kernel
theorem dX2_become_48 : decode cX2_become 48 = .ok (.aload_n 0, 1) := by decide +kernel
theorem dX2_become_49 : decode cX2_become 49 = .ok (.aload_n 1, 1) := by decide +kernel
theorem dX2_become_50 : decode cX2_become 50 = .ok (.getfield 30, 3) := by decide +kernel
theorem dX2_become_53 : decode cX2_become 53 = .ok (.putfield 30, 3) := by decide +kernel
theorem dX2_become_56 : decode cX2_become 56 = .ok (.return_, 1) := by decide +kernel
theorem dX3_isOneOf_0 : decode cX3_isOneOf 0 = .ok (.iload_n 0, 1) := by decide +kernel
theorem dX3_isOneOf_1 : decode cX3_isOneOf 1 = .ok (.istore_n 2, 1) := by decide +kernel
theorem dX3_isOneOf_2 : decode cX3_isOneOf 2 = .ok (.iconst 0, 1) := by decide +kernel
theorem dX3_isOneOf_3 : decode cX3_isOneOf 3 = .ok (.istore_n 3, 1) := by decide +kernel
theorem dX3_isOneOf_4 : decode cX3_isOneOf 4 = .ok (.iload_n 3, 1) := by decide +kernel
theorem dX3_isOneOf_5 : decode cX3_isOneOf 5 = .ok (.bipush 6, 2) := by decide +kernel
theorem dX3_isOneOf_7 : decode cX3_isOneOf 7 = .ok (.if_icmp .ge 29, 3) := by decide +kernel
theorem dX3_isOneOf_10 : decode cX3_isOneOf 10 = .ok (.iload_n 2, 1) := by decide +kernel
theorem dX3_isOneOf_11 : decode cX3_isOneOf 11 = .ok (.invokestatic 9, 3) := by decide +kernel
theorem dX3_isOneOf_14 : decode cX3_isOneOf 14 = .ok (.ifCond .eq 22, 3) := by decide +kernel
theorem dX3_isOneOf_17 : decode cX3_isOneOf 17 = .ok (.iload_n 2, 1) := by decide +kernel
theorem dX3_isOneOf_18 : decode cX3_isOneOf 18 = .ok (.iload_n 1, 1) := by decide +kernel
theorem dX3_isOneOf_19 : decode cX3_isOneOf 19 = .ok (.if_icmp .ne 5, 3) := by decide +kernel
theorem dX3_isOneOf_22 : decode cX3_isOneOf 22 = .ok (.iconst 1, 1) := by decide +kernel
theorem dX3_isOneOf_23 : decode cX3_isOneOf 23 = .ok (.ireturn, 1) := by decide +kernel
theorem dX3_isOneOf_24 : decode cX3_isOneOf 24 = .ok (.getstatic 13, 3) := by decide +kernel
theorem dX3_isOneOf_27 : decode cX3_isOneOf 27 = .ok (.iload_n 2, 1) := by decide +kernel
theorem dX3_isOneOf_28 : decode cX3_isOneOf 28 = .ok (.iaload, 1) := by decide +kernel
theorem dX3_isOneOf_29 : decode cX3_isOneOf 29 = .ok (.istore_n 2, 1) := by decide +kernel
theorem dX3_isOneOf_30 : decode cX3_isOneOf 30 = .ok (.iinc 3 1, 3) := by decide +kernel
theorem dX3_isOneOf_33 : decode cX3_isOneOf 33 = .ok (.goto (-29), 3) := by decide +kernel
theorem dX3_isOneOf_36 : decode cX3_isOneOf 36 = .ok (.iconst 0, 1) := by decide +kernel
theorem dX3_isOneOf_37 : decode cX3_isOneOf 37 = .ok (.ireturn, 1) := by decide +kernel
theorem dX3_takes_0 : decode cX3_takes 0 = .ok (.bipush 10, 2) := by decide +kernel
theorem dX3_takes_2 : decode cX3_takes 2 = .ok (.istore_n 3, 1) := by decide +kernel
theorem dX3_takes_3 : decode cX3_takes 3 = .ok (.iload_n 3, 1) := by decide +kernel
theorem dX3_takes_4 : decode cX3_takes 4 = .ok (.iconst 3, 1) := by decide +kernel
theorem dX3_takes_5 : decode cX3_takes 5 = .ok (.aload_n 1, 1) := by decide +kernel
theorem dX3_takes_6 : decode cX3_takes 6 = .ok (.getfield 19, 3) := by decide +kernel
theorem dX3_takes_9 : decode cX3_takes 9 = .ok (.imul, 1) := by decide +kernel
theorem dX3_takes_10 : decode cX3_takes 10 = .ok (.iadd, 1) := by decide +kernel
theorem dX3_takes_11 : decode cX3_takes 11 = .ok (.istore 4, 2) := by decide +kernel
theorem dX3_takes_13 : decode cX3_takes 13 = .ok (.iload_n 3, 1) := by decide +kernel
theorem dX3_takes_14 : decode cX3_takes 14 = .ok (.iconst 2, 1) := by decide +kernel
theorem dX3_takes_15 : decode cX3_takes 15 = .ok (.idiv, 1) := by decide +kernel
theorem dX3_takes_16 : decode cX3_takes 16 = .ok (.istore 5, 2) := by decide +kernel
theorem dX3_takes_18 : decode cX3_takes 18 = .ok (.iload_n 0, 1) := by decide +kernel
theorem dX3_takes_19 : decode cX3_takes 19 = .ok (.tableswitch 89 1 5 #[33, 36, 39, 55, 73], 33) := by decide +kernel
theorem dX3_takes_52 : decode cX3_takes 52 = .ok (.iload 4, 2) := by decide +kernel
theorem dX3_takes_54 : decode cX3_takes 54 = .ok (.ireturn, 1) := by decide +kernel
theorem dX3_takes_55 : decode cX3_takes 55 = .ok (.iload 5, 2) := by decide +kernel
theorem dX3_takes_57 : decode cX3_takes 57 = .ok (.ireturn, 1) := by decide +kernel
theorem dX3_takes_58 : decode cX3_takes 58 = .ok (.aload_n 2, 1) := by decide +kernel
theorem dX3_takes_59 : decode cX3_takes 59 = .ok (.getfield 25, 3) := by decide +kernel
theorem dX3_takes_62 : decode cX3_takes 62 = .ok (.iconst 1, 1) := by decide +kernel
theorem dX3_takes_63 : decode cX3_takes 63 = .ok (.if_icmp .ne 7, 3) := by decide +kernel
theorem dX3_takes_66 : decode cX3_takes 66 = .ok (.iload_n 3, 1) := by decide +kernel
theorem dX3_takes_67 : decode cX3_takes 67 = .ok (.goto 6, 3) := by decide +kernel
theorem dX3_takes_70 : decode cX3_takes 70 = .ok (.iload_n 3, 1) := by decide +kernel
theorem dX3_takes_71 : decode cX3_takes 71 = .ok (.iconst 5, 1) := by decide +kernel
theorem dX3_takes_72 : decode cX3_takes 72 = .ok (.iadd, 1) := by decide +kernel
theorem dX3_takes_73 : decode cX3_takes 73 = .ok (.ireturn, 1) := by decide +kernel
theorem dX3_takes_74 : decode cX3_takes 74 = .ok (.aload_n 1, 1) := by decide +kernel
theorem dX3_takes_75 : decode cX3_takes 75 = .ok (.getfield 30, 3) := by decide +kernel
theorem dX3_takes_78 : decode cX3_takes 78 = .ok (.iconst 3, 1) := by decide +kernel
theorem dX3_takes_79 : decode cX3_takes 79 = .ok (.if_icmp .ge 10, 3) := by decide +kernel
theorem dX3_takes_82 : decode cX3_takes 82 = .ok (.iconst 2, 1) := by decide +kernel
theorem dX3_takes_83 : decode cX3_takes 83 = .ok (.iload 4, 2) := by decide +kernel
theorem dX3_takes_85 : decode cX3_takes 85 = .ok (.imul, 1) := by decide +kernel
theorem dX3_takes_86 : decode cX3_takes 86 = .ok (.goto 5, 3) := by decide +kernel
theorem dX3_takes_89 : decode cX3_takes 89 = .ok (.iload 4, 2) := by decide +kernel
theorem dX3_takes_91 : decode cX3_takes 91 = .ok (.ireturn, 1) := by decide +kernel
theorem dX3_takes_92 : decode cX3_takes 92 = .ok (.aload_n 1, 1) := by decide +kernel
theorem dX3_takes_93 : decode cX3_takes 93 = .ok (.getfield 30, 3) := by decide +kernel
theorem dX3_takes_96 : decode cX3_takes 96 = .ok (.bipush 7, 2) := by decide +kernel
theorem dX3_takes_98 : decode cX3_takes 98 = .ok (.if_icmp .lt 7, 3) := by decide +kernel
theorem dX3_takes_101 : decode cX3_takes 101 = .ok (.iconst 0, 1) := by decide +kernel
theorem dX3_takes_102 : decode cX3_takes 102 = .ok (.goto 5, 3) := by decide +kernel
theorem dX3_takes_105 : decode cX3_takes 105 = .ok (.iload 5, 2) := by decide +kernel
theorem dX3_takes_107 : decode cX3_takes 107 = .ok (.ireturn, 1) := by decide +kernel
theorem dX3_takes_108 : decode cX3_takes 108 = .ok (.iload_n 3, 1) := by decide +kernel
theorem dX3_takes_109 : decode cX3_takes 109 = .ok (.ireturn, 1) := by decide +kernel
theorem dX3_snugs_0 : decode cX3_snugs 0 = .ok (.bipush 9, 2) := by decide +kernel
theorem dX3_snugs_2 : decode cX3_snugs 2 = .ok (.aload_n 2, 1) := by decide +kernel
theorem dX3_snugs_3 : decode cX3_snugs 3 = .ok (.getfield 33, 3) := by decide +kernel
theorem dX3_snugs_6 : decode cX3_snugs 6 = .ok (.isub, 1) := by decide +kernel
theorem dX3_snugs_7 : decode cX3_snugs 7 = .ok (.istore_n 3, 1) := by decide +kernel
theorem dX3_snugs_8 : decode cX3_snugs 8 = .ok (.iload_n 3, 1) := by decide +kernel
theorem dX3_snugs_9 : decode cX3_snugs 9 = .ok (.aload_n 1, 1) := by decide +kernel
theorem dX3_snugs_10 : decode cX3_snugs 10 = .ok (.getfield 36, 3) := by decide +kernel
theorem dX3_snugs_13 : decode cX3_snugs 13 = .ok (.bipush 40, 2) := by decide +kernel
theorem dX3_snugs_15 : decode cX3_snugs 15 = .ok (.idiv, 1) := by decide +kernel
theorem dX3_snugs_16 : decode cX3_snugs 16 = .ok (.isub, 1) := by decide +kernel
theorem dX3_snugs_17 : decode cX3_snugs 17 = .ok (.istore 4, 2) := by decide +kernel
theorem dX3_snugs_19 : decode cX3_snugs 19 = .ok (.iload_n 0, 1) := by decide +kernel
theorem dX3_snugs_20 : decode cX3_snugs 20 = .ok (.tableswitch 69 1 5 #[36, 45, 48, 36, 64], 36) := by decide +kernel
theorem dX3_snugs_56 : decode cX3_snugs 56 = .ok (.iload_n 3, 1) := by decide +kernel
theorem dX3_snugs_57 : decode cX3_snugs 57 = .ok (.aload_n 1, 1) := by decide +kernel
theorem dX3_snugs_58 : decode cX3_snugs 58 = .ok (.getfield 19, 3) := by decide +kernel
theorem dX3_snugs_61 : decode cX3_snugs 61 = .ok (.iconst 2, 1) := by decide +kernel
theorem dX3_snugs_62 : decode cX3_snugs 62 = .ok (.idiv, 1) := by decide +kernel
theorem dX3_snugs_63 : decode cX3_snugs 63 = .ok (.isub, 1) := by decide +kernel
theorem dX3_snugs_64 : decode cX3_snugs 64 = .ok (.ireturn, 1) := by decide +kernel
theorem dX3_snugs_65 : decode cX3_snugs 65 = .ok (.iload 4, 2) := by decide +kernel
theorem dX3_snugs_67 : decode cX3_snugs 67 = .ok (.ireturn, 1) := by decide +kernel
theorem dX3_snugs_68 : decode cX3_snugs 68 = .ok (.aload_n 2, 1) := by decide +kernel
theorem dX3_snugs_69 : decode cX3_snugs 69 = .ok (.getfield 25, 3) := by decide +kernel
theorem dX3_snugs_72 : decode cX3_snugs 72 = .ok (.iconst 1, 1) := by decide +kernel
theorem dX3_snugs_73 : decode cX3_snugs 73 = .ok (.if_icmp .ne 7, 3) := by decide +kernel
theorem dX3_snugs_76 : decode cX3_snugs 76 = .ok (.iload_n 3, 1) := by decide +kernel
theorem dX3_snugs_77 : decode cX3_snugs 77 = .ok (.goto 6, 3) := by decide +kernel
theorem dX3_snugs_80 : decode cX3_snugs 80 = .ok (.iload_n 3, 1) := by decide +kernel
theorem dX3_snugs_81 : decode cX3_snugs 81 = .ok (.iconst 4, 1) := by decide +kernel
theorem dX3_snugs_82 : decode cX3_snugs 82 = .ok (.isub, 1) := by decide +kernel
theorem dX3_snugs_83 : decode cX3_snugs 83 = .ok (.ireturn, 1) := by decide +kernel
theorem dX3_snugs_84 : decode cX3_snugs 84 = .ok (.iload 4, 2) := by decide +kernel
theorem dX3_snugs_86 : decode cX3_snugs 86 = .ok (.iconst 1, 1) := by decide +kernel
theorem dX3_snugs_87 : decode cX3_snugs 87 = .ok (.isub, 1) := by decide +kernel
theorem dX3_snugs_88 : decode cX3_snugs 88 = .ok (.ireturn, 1) := by decide +kernel
theorem dX3_snugs_89 : decode cX3_snugs 89 = .ok (.iload_n 3, 1) := by decide +kernel
theorem dX3_snugs_90 : decode cX3_snugs 90 = .ok (.ireturn, 1) := by decide +kernel
theorem dX3_frets_0 : decode cX3_frets 0 = .ok (.iload_n 1, 1) := by decide +kernel
theorem dX3_frets_1 : decode cX3_frets 1 = .ok (.iconst 3, 1) := by decide +kernel
theorem dX3_frets_2 : decode cX3_frets 2 = .ok (.irem, 1) := by decide +kernel
theorem dX3_frets_3 : decode cX3_frets 3 = .ok (.ifCond .ne 7, 3) := by decide +kernel
theorem dX3_frets_6 : decode cX3_frets 6 = .ok (.iconst 1, 1) := by decide +kernel
theorem dX3_frets_7 : decode cX3_frets 7 = .ok (.goto 4, 3) := by decide +kernel
theorem dX3_frets_10 : decode cX3_frets 10 = .ok (.iconst 0, 1) := by decide +kernel
theorem dX3_frets_11 : decode cX3_frets 11 = .ok (.istore 4, 2) := by decide +kernel
theorem dX3_frets_13 : decode cX3_frets 13 = .ok (.iload_n 2, 1) := by decide +kernel
theorem dX3_frets_14 : decode cX3_frets 14 = .ok (.bipush 6, 2) := by decide +kernel
theorem dX3_frets_16 : decode cX3_frets 16 = .ok (.if_icmp .le 10, 3) := by decide +kernel
theorem dX3_frets_19 : decode cX3_frets 19 = .ok (.iload 4, 2) := by decide +kernel
theorem dX3_frets_21 : decode cX3_frets 21 = .ok (.iconst 1, 1) := by decide +kernel
theorem dX3_frets_22 : decode cX3_frets 22 = .ok (.iadd, 1) := by decide +kernel
theorem dX3_frets_23 : decode cX3_frets 23 = .ok (.goto 5, 3) := by decide +kernel
theorem dX3_frets_26 : decode cX3_frets 26 = .ok (.iload 4, 2) := by decide +kernel
theorem dX3_frets_28 : decode cX3_frets 28 = .ok (.istore 5, 2) := by decide +kernel
theorem dX3_frets_30 : decode cX3_frets 30 = .ok (.iload_n 0, 1) := by decide +kernel
theorem dX3_frets_31 : decode cX3_frets 31 = .ok (.tableswitch 51 1 4 #[29, 51, 32, 46], 29) := by decide +kernel
theorem dX3_frets_60 : decode cX3_frets 60 = .ok (.iload 5, 2) := by decide +kernel
theorem dX3_frets_62 : decode cX3_frets 62 = .ok (.ireturn, 1) := by decide +kernel
theorem dX3_frets_63 : decode cX3_frets 63 = .ok (.iload_n 3, 1) := by decide +kernel
theorem dX3_frets_64 : decode cX3_frets 64 = .ok (.ifCond .eq 10, 3) := by decide +kernel
theorem dX3_frets_67 : decode cX3_frets 67 = .ok (.iload 4, 2) := by decide +kernel
theorem dX3_frets_69 : decode cX3_frets 69 = .ok (.iconst 1, 1) := by decide +kernel
theorem dX3_frets_70 : decode cX3_frets 70 = .ok (.iadd, 1) := by decide +kernel
theorem dX3_frets_71 : decode cX3_frets 71 = .ok (.goto 5, 3) := by decide +kernel
theorem dX3_frets_74 : decode cX3_frets 74 = .ok (.iload 4, 2) := by decide +kernel
theorem dX3_frets_76 : decode cX3_frets 76 = .ok (.ireturn, 1) := by decide +kernel
theorem dX3_frets_77 : decode cX3_frets 77 = .ok (.iconst 2, 1) := by decide +kernel
theorem dX3_frets_78 : decode cX3_frets 78 = .ok (.iload 5, 2) := by decide +kernel
theorem dX3_frets_80 : decode cX3_frets 80 = .ok (.imul, 1) := by decide +kernel
theorem dX3_frets_81 : decode cX3_frets 81 = .ok (.ireturn, 1) := by decide +kernel
theorem dX3_frets_82 : decode cX3_frets 82 = .ok (.iload 4, 2) := by decide +kernel
theorem dX3_frets_84 : decode cX3_frets 84 = .ok (.ireturn, 1) := by decide +kernel
theorem dX4_init_0 : decode cX4_init 0 = .ok (.aload_n 0, 1) := by decide +kernel
theorem dX4_init_1 : decode cX4_init 1 = .ok (.invokespecial 3, 3) := by decide +kernel
theorem dX4_init_4 : decode cX4_init 4 = .ok (.aload_n 0, 1) := by decide +kernel
theorem dX4_init_5 : decode cX4_init 5 = .ok (.iconst 0, 1) := by decide +kernel
theorem dX4_init_6 : decode cX4_init 6 = .ok (.putfield 9, 3) := by decide +kernel
theorem dX4_init_9 : decode cX4_init 9 = .ok (.aload_n 0, 1) := by decide +kernel
theorem dX4_init_10 : decode cX4_init 10 = .ok (.iconst 0, 1) := by decide +kernel
theorem dX4_init_11 : decode cX4_init 11 = .ok (.putfield 15, 3) := by decide +kernel
theorem dX4_init_14 : decode cX4_init 14 = .ok (.aload_n 0, 1) := by decide +kernel
theorem dX4_init_15 : decode cX4_init 15 = .ok (.iconst 0, 1) := by decide +kernel
theorem dX4_init_16 : decode cX4_init 16 = .ok (.putfield 18, 3) := by decide +kernel
theorem dX4_init_19 : decode cX4_init 19 = .ok (.aload_n 0, 1) := by decide +kernel
theorem dX4_init_20 : decode cX4_init 20 = .ok (.iconst 0, 1) := by decide +kernel
theorem dX4_init_21 : decode cX4_init 21 = .ok (.putfield 21, 3) := by decide +kernel
theorem dX4_init_24 : decode cX4_init 24 = .ok (.aload_n 0, 1) := by decide +kernel
theorem dX4_init_25 : decode cX4_init 25 = .ok (.iconst (-1), 1) := by decide +kernel
theorem dX4_init_26 : decode cX4_init 26 = .ok (.putfield 24, 3) := by decide +kernel
theorem dX4_init_29 : decode cX4_init 29 = .ok (.return_, 1) := by decide +kernel
theorem dX4_most_0 : decode cX4_most 0 = .ok (.iload_n 0, 1) := by decide +kernel
theorem dX4_most_1 : decode cX4_most 1 = .ok (.lookupswitch 32 #[(0, 27), (1, 29)], 27) := by decide +kernel
theorem dX4_most_28 : decode cX4_most 28 = .ok (.iconst 5, 1) := by decide +kernel
theorem dX4_most_29 : decode cX4_most 29 = .ok (.ireturn, 1) := by decide +kernel
theorem dX4_most_30 : decode cX4_most 30 = .ok (.bipush 9, 2) := by decide +kernel
theorem dX4_most_32 : decode cX4_most 32 = .ok (.ireturn, 1) := by decide +kernel
theorem dX4_most_33 : decode cX4_most 33 = .ok (.iconst 1, 1) := by decide +kernel
theorem dX4_most_34 : decode cX4_most 34 = .ok (.ireturn, 1) := by decide +kernel
theorem dX4_isTaken_0 : decode cX4_isTaken 0 = .ok (.aload_n 0, 1) := by decide +kernel
theorem dX4_isTaken_1 : decode cX4_isTaken 1 = .ok (.getfield 24, 3) := by decide +kernel
theorem dX4_isTaken_4 : decode cX4_isTaken 4 = .ok (.iconst (-1), 1) := by decide +kernel
theorem dX4_isTaken_5 : decode cX4_isTaken 5 = .ok (.if_icmp .eq 7, 3) := by decide +kernel
theorem dX4_isTaken_8 : decode cX4_isTaken 8 = .ok (.iconst 1, 1) := by decide +kernel
theorem dX4_isTaken_9 : decode cX4_isTaken 9 = .ok (.goto 4, 3) := by decide +kernel
theorem dX4_isTaken_12 : decode cX4_isTaken 12 = .ok (.iconst 0, 1) := by decide +kernel
theorem dX4_isTaken_13 : decode cX4_isTaken 13 = .ok (.ireturn, 1) := by decide +kernel
theorem dX4_get_0 : decode cX4_get 0 = .ok (.iload_n 1, 1) := by decide +kernel
theorem dX4_get_1 : decode cX4_get 1 = .ok (.tableswitch 51 0 3 #[31, 36, 41, 46], 31) := by decide +kernel
theorem dX4_get_32 : decode cX4_get 32 = .ok (.aload_n 0, 1) := by decide +kernel
theorem dX4_get_33 : decode cX4_get 33 = .ok (.getfield 9, 3) := by decide +kernel
theorem dX4_get_36 : decode cX4_get 36 = .ok (.ireturn, 1) := by decide +kernel
theorem dX4_get_37 : decode cX4_get 37 = .ok (.aload_n 0, 1) := by decide +kernel
theorem dX4_get_38 : decode cX4_get 38 = .ok (.getfield 15, 3) := by decide +kernel
theorem dX4_get_41 : decode cX4_get 41 = .ok (.ireturn, 1) := by decide +kernel
theorem dX4_get_42 : decode cX4_get 42 = .ok (.aload_n 0, 1) := by decide +kernel
theorem dX4_get_43 : decode cX4_get 43 = .ok (.getfield 18, 3) := by decide +kernel
theorem dX4_get_46 : decode cX4_get 46 = .ok (.ireturn, 1) := by decide +kernel
theorem dX4_get_47 : decode cX4_get 47 = .ok (.aload_n 0, 1) := by decide +kernel
theorem dX4_get_48 : decode cX4_get 48 = .ok (.getfield 21, 3) := by decide +kernel
theorem dX4_get_51 : decode cX4_get 51 = .ok (.ireturn, 1) := by decide +kernel
theorem dX4_get_52 : decode cX4_get 52 = .ok (.aload_n 0, 1) := by decide +kernel
theorem dX4_get_53 : decode cX4_get 53 = .ok (.getfield 24, 3) := by decide +kernel
theorem dX4_get_56 : decode cX4_get 56 = .ok (.ireturn, 1) := by decide +kernel
theorem dX4_put_0 : decode cX4_put 0 = .ok (.iload_n 1, 1) := by decide +kernel
theorem dX4_put_1 : decode cX4_put 1 = .ok (.lookupswitch 43 #[(0, 27), (1, 35)], 27) := by decide +kernel
theorem dX4_put_28 : decode cX4_put 28 = .ok (.aload_n 0, 1) := by decide +kernel
theorem dX4_put_29 : decode cX4_put 29 = .ok (.iload_n 2, 1) := by decide +kernel
theorem dX4_put_30 : decode cX4_put 30 = .ok (.putfield 9, 3) := by decide +kernel
theorem dX4_put_33 : decode cX4_put 33 = .ok (.goto 16, 3) := by decide +kernel
theorem dX4_put_36 : decode cX4_put 36 = .ok (.aload_n 0, 1) := by decide +kernel
theorem dX4_put_37 : decode cX4_put 37 = .ok (.iload_n 2, 1) := by decide +kernel
theorem dX4_put_38 : decode cX4_put 38 = .ok (.putfield 15, 3) := by decide +kernel
theorem dX4_put_41 : decode cX4_put 41 = .ok (.goto 8, 3) := by decide +kernel
theorem dX4_put_44 : decode cX4_put 44 = .ok (.aload_n 0, 1) := by decide +kernel
theorem dX4_put_45 : decode cX4_put 45 = .ok (.iload_n 2, 1) := by decide +kernel
theorem dX4_put_46 : decode cX4_put 46 = .ok (.putfield 18, 3) := by decide +kernel
theorem dX4_put_49 : decode cX4_put 49 = .ok (.return_, 1) := by decide +kernel
theorem dX4_become_0 : decode cX4_become 0 = .ok (.aload_n 0, 1) := by decide +kernel
theorem dX4_become_1 : decode cX4_become 1 = .ok (.aload_n 1, 1) := by decide +kernel
theorem dX4_become_2 : decode cX4_become 2 = .ok (.getfield 9, 3) := by decide +kernel
theorem dX4_become_5 : decode cX4_become 5 = .ok (.putfield 9, 3) := by decide +kernel
theorem dX4_become_8 : decode cX4_become 8 = .ok (.aload_n 0, 1) := by decide +kernel
theorem dX4_become_9 : decode cX4_become 9 = .ok (.aload_n 1, 1) := by decide +kernel
theorem dX4_become_10 : decode cX4_become 10 = .ok (.getfield 15, 3) := by decide +kernel
theorem dX4_become_13 : decode cX4_become 13 = .ok (.putfield 15, 3) := by decide +kernel
theorem dX4_become_16 : decode cX4_become 16 = .ok (.aload_n 0, 1) := by decide +kernel
theorem dX4_become_17 : decode cX4_become 17 = .ok (.aload_n 1, 1) := by decide +kernel
theorem dX4_become_18 : decode cX4_become 18 = .ok (.getfield 18, 3) := by decide +kernel
theorem dX4_become_21 : decode cX4_become 21 = .ok (.putfield 18, 3) := by decide +kernel
theorem dX4_become_24 : decode cX4_become 24 = .ok (.aload_n 0, 1) := by decide +kernel
theorem dX4_become_25 : decode cX4_become 25 = .ok (.aload_n 1, 1) := by decide +kernel
theorem dX4_become_26 : decode cX4_become 26 = .ok (.getfield 21, 3) := by decide +kernel
theorem dX4_become_29 : decode cX4_become 29 = .ok (.putfield 21, 3) := by decide +kernel
theorem dX4_become_32 : decode cX4_become 32 = .ok (.aload_n 0, 1) := by decide +kernel
theorem dX4_become_33 : decode cX4_become 33 = .ok (.aload_n 1, 1) := by decide +kernel
theorem dX4_become_34 : decode cX4_become 34 = .ok (.getfield 24, 3) := by decide +kernel
theorem dX4_become_37 : decode cX4_become 37 = .ok (.putfield 24, 3) := by decide +kernel
theorem dX4_become_40 : decode cX4_become 40 = .ok (.return_, 1) := by decide +kernel
theorem dX5_init_0 : decode cX5_init 0 = .ok (.aload_n 0, 1) := by decide +kernel
theorem dX5_init_1 : decode cX5_init 1 = .ok (.invokespecial 3, 3) := by decide +kernel
theorem dX5_init_4 : decode cX5_init 4 = .ok (.aload_n 0, 1) := by decide +kernel
theorem dX5_init_5 : decode cX5_init 5 = .ok (.bipush 40, 2) := by decide +kernel
theorem dX5_init_7 : decode cX5_init 7 = .ok (.newarray .long, 2) := by decide +kernel
theorem dX5_init_9 : decode cX5_init 9 = .ok (.putfield 9, 3) := by decide +kernel
theorem dX5_init_12 : decode cX5_init 12 = .ok (.aload_n 0, 1) := by decide +kernel
theorem dX5_init_13 : decode cX5_init 13 = .ok (.iconst 0, 1) := by decide +kernel
theorem dX5_init_14 : decode cX5_init 14 = .ok (.putfield 15, 3) := by decide +kernel
theorem dX5_init_17 : decode cX5_init 17 = .ok (.aload_n 0, 1) := by decide +kernel
theorem dX5_init_18 : decode cX5_init 18 = .ok (.iconst 0, 1) := by decide +kernel
theorem dX5_init_19 : decode cX5_init 19 = .ok (.putfield 19, 3) := by decide +kernel
theorem dX5_init_22 : decode cX5_init 22 = .ok (.return_, 1) := by decide +kernel
theorem dX5_isMissing_0 : decode cX5_isMissing 0 = .ok (.aload_n 0, 1) := by decide +kernel
theorem dX5_isMissing_1 : decode cX5_isMissing 1 = .ok (.getfield 15, 3) := by decide +kernel
theorem dX5_isMissing_4 : decode cX5_isMissing 4 = .ok (.ifCond .ne 7, 3) := by decide +kernel
theorem dX5_isMissing_7 : decode cX5_isMissing 7 = .ok (.iconst 1, 1) := by decide +kernel
theorem dX5_isMissing_8 : decode cX5_isMissing 8 = .ok (.goto 4, 3) := by decide +kernel
theorem dX5_isMissing_11 : decode cX5_isMissing 11 = .ok (.iconst 0, 1) := by decide +kernel
theorem dX5_isMissing_12 : decode cX5_isMissing 12 = .ok (.ireturn, 1) := by decide +kernel
theorem dX5_make_0 : decode cX5_make 0 = .ok (.aload_n 0, 1) := by decide +kernel
theorem dX5_make_1 : decode cX5_make 1 = .ok (.iload_n 1, 1) := by decide +kernel
theorem dX5_make_2 : decode cX5_make 2 = .ok (.putfield 15, 3) := by decide +kernel
theorem dX5_make_5 : decode cX5_make 5 = .ok (.aload_n 0, 1) := by decide +kernel
theorem dX5_make_6 : decode cX5_make 6 = .ok (.iload_n 2, 1) := by decide +kernel
theorem dX5_make_7 : decode cX5_make 7 = .ok (.putfield 19, 3) := by decide +kernel
theorem dX5_make_10 : decode cX5_make 10 = .ok (.iconst 0, 1) := by decide +kernel
theorem dX5_make_11 : decode cX5_make 11 = .ok (.istore_n 3, 1) := by decide +kernel
theorem dX5_make_12 : decode cX5_make 12 = .ok (.iload_n 3, 1) := by decide +kernel
theorem dX5_make_13 : decode cX5_make 13 = .ok (.bipush 40, 2) := by decide +kernel
theorem dX5_make_15 : decode cX5_make 15 = .ok (.if_icmp .ge 16, 3) := by decide +kernel
theorem dX5_make_18 : decode cX5_make 18 = .ok (.aload_n 0, 1) := by decide +kernel
theorem dX5_make_19 : decode cX5_make 19 = .ok (.getfield 9, 3) := by decide +kernel
theorem dX5_make_22 : decode cX5_make 22 = .ok (.iload_n 3, 1) := by decide +kernel
theorem dX5_make_23 : decode cX5_make 23 = .ok (.lconst 0, 1) := by decide +kernel
theorem dX5_make_24 : decode cX5_make 24 = .ok (.lastore, 1) := by decide +kernel
theorem dX5_make_25 : decode cX5_make 25 = .ok (.iinc 3 1, 3) := by decide +kernel
theorem dX5_make_28 : decode cX5_make 28 = .ok (.goto (-16), 3) := by decide +kernel
theorem dX5_make_31 : decode cX5_make 31 = .ok (.return_, 1) := by decide +kernel
theorem dX5_holds_0 : decode cX5_holds 0 = .ok (.iload_n 1, 1) := by decide +kernel
theorem dX5_holds_1 : decode cX5_holds 1 = .ok (.ifCond .lt 29, 3) := by decide +kernel
theorem dX5_holds_4 : decode cX5_holds 4 = .ok (.iload_n 2, 1) := by decide +kernel
theorem dX5_holds_5 : decode cX5_holds 5 = .ok (.ifCond .lt 25, 3) := by decide +kernel
theorem dX5_holds_8 : decode cX5_holds 8 = .ok (.iload_n 2, 1) := by decide +kernel
theorem dX5_holds_9 : decode cX5_holds 9 = .ok (.aload_n 0, 1) := by decide +kernel
theorem dX5_holds_10 : decode cX5_holds 10 = .ok (.getfield 19, 3) := by decide +kernel
theorem dX5_holds_13 : decode cX5_holds 13 = .ok (.if_icmp .gt 17, 3) := by decide +kernel
theorem dX5_holds_16 : decode cX5_holds 16 = .ok (.iload_n 1, 1) := by decide +kernel
theorem dX5_holds_17 : decode cX5_holds 17 = .ok (.aload_n 0, 1) := by decide +kernel
theorem dX5_holds_18 : decode cX5_holds 18 = .ok (.getfield 19, 3) := by decide +kernel
theorem dX5_holds_21 : decode cX5_holds 21 = .ok (.iload_n 2, 1) := by decide +kernel
theorem dX5_holds_22 : decode cX5_holds 22 = .ok (.isub, 1) := by decide +kernel
theorem dX5_holds_23 : decode cX5_holds 23 = .ok (.if_icmp .gt 7, 3) := by decide +kernel
theorem dX5_holds_26 : decode cX5_holds 26 = .ok (.iconst 1, 1) := by decide +kernel
theorem dX5_holds_27 : decode cX5_holds 27 = .ok (.goto 4, 3) := by decide +kernel
theorem dX5_holds_30 : decode cX5_holds 30 = .ok (.iconst 0, 1) := by decide +kernel
theorem dX5_holds_31 : decode cX5_holds 31 = .ok (.ireturn, 1) := by decide +kernel
theorem dX5_put_0 : decode cX5_put 0 = .ok (.aload_n 0, 1) := by decide +kernel
theorem dX5_put_1 : decode cX5_put 1 = .ok (.getfield 15, 3) := by decide +kernel
theorem dX5_put_4 : decode cX5_put 4 = .ok (.bipush 8, 2) := by decide +kernel
theorem dX5_put_6 : decode cX5_put 6 = .ok (.if_icmp .ne 16, 3) := by decide +kernel
theorem dX5_put_9 : decode cX5_put 9 = .ok (.aload_n 0, 1) := by decide +kernel
theorem dX5_put_10 : decode cX5_put 10 = .ok (.getfield 9, 3) := by decide +kernel
theorem dX5_put_13 : decode cX5_put 13 = .ok (.iload_n 1, 1) := by decide +kernel
theorem dX5_put_14 : decode cX5_put 14 = .ok (.lload_n 2, 1) := by decide +kernel
theorem dX5_put_15 : decode cX5_put 15 = .ok (.l2i, 1) := by decide +kernel
theorem dX5_put_16 : decode cX5_put 16 = .ok (.i2b, 1) := by decide +kernel
theorem dX5_put_17 : decode cX5_put 17 = .ok (.i2l, 1) := by decide +kernel
theorem dX5_put_18 : decode cX5_put 18 = .ok (.lastore, 1) := by decide +kernel
theorem dX5_put_19 : decode cX5_put 19 = .ok (.goto 32, 3) := by decide +kernel
theorem dX5_put_22 : decode cX5_put 22 = .ok (.aload_n 0, 1) := by decide +kernel
theorem dX5_put_23 : decode cX5_put 23 = .ok (.getfield 15, 3) := by decide +kernel
theorem dX5_put_26 : decode cX5_put 26 = .ok (.bipush 16, 2) := by decide +kernel
theorem dX5_put_28 : decode cX5_put 28 = .ok (.if_icmp .ne 16, 3) := by decide +kernel
theorem dX5_put_31 : decode cX5_put 31 = .ok (.aload_n 0, 1) := by decide +kernel
theorem dX5_put_32 : decode cX5_put 32 = .ok (.getfield 9, 3) := by decide +kernel
theorem dX5_put_35 : decode cX5_put 35 = .ok (.iload_n 1, 1) := by decide +kernel
theorem dX5_put_36 : decode cX5_put 36 = .ok (.lload_n 2, 1) := by decide +kernel
theorem dX5_put_37 : decode cX5_put 37 = .ok (.l2i, 1) := by decide +kernel
theorem dX5_put_38 : decode cX5_put 38 = .ok (.i2s, 1) := by decide +kernel
theorem dX5_put_39 : decode cX5_put 39 = .ok (.i2l, 1) := by decide +kernel
theorem dX5_put_40 : decode cX5_put 40 = .ok (.lastore, 1) := by decide +kernel
theorem dX5_put_41 : decode cX5_put 41 = .ok (.goto 10, 3) := by decide +kernel
theorem dX5_put_44 : decode cX5_put 44 = .ok (.aload_n 0, 1) := by decide +kernel
theorem dX5_put_45 : decode cX5_put 45 = .ok (.getfield 9, 3) := by decide +kernel
theorem dX5_put_48 : decode cX5_put 48 = .ok (.iload_n 1, 1) := by decide +kernel
theorem dX5_put_49 : decode cX5_put 49 = .ok (.lload_n 2, 1) := by decide +kernel
theorem dX5_put_50 : decode cX5_put 50 = .ok (.lastore, 1) := by decide +kernel
theorem dX5_put_51 : decode cX5_put 51 = .ok (.return_, 1) := by decide +kernel
theorem dX6_init_0 : decode cX6_init 0 = .ok (.aload_n 0, 1) := by decide +kernel
theorem dX6_init_1 : decode cX6_init 1 = .ok (.invokespecial 3, 3) := by decide +kernel
theorem dX6_init_4 : decode cX6_init 4 = .ok (.aload_n 0, 1) := by decide +kernel
theorem dX6_init_5 : decode cX6_init 5 = .ok (.bipush 120, 2) := by decide +kernel
theorem dX6_init_7 : decode cX6_init 7 = .ok (.newarray .int, 2) := by decide +kernel
theorem dX6_init_9 : decode cX6_init 9 = .ok (.putfield 9, 3) := by decide +kernel
theorem dX6_init_12 : decode cX6_init 12 = .ok (.aload_n 0, 1) := by decide +kernel
theorem dX6_init_13 : decode cX6_init 13 = .ok (.iconst 0, 1) := by decide +kernel
theorem dX6_init_14 : decode cX6_init 14 = .ok (.putfield 15, 3) := by decide +kernel
theorem dX6_init_17 : decode cX6_init 17 = .ok (.aload_n 0, 1) := by decide +kernel
theorem dX6_init_18 : decode cX6_init 18 = .ok (.iconst 0, 1) := by decide +kernel
theorem dX6_init_19 : decode cX6_init 19 = .ok (.putfield 19, 3) := by decide +kernel
theorem dX6_init_22 : decode cX6_init 22 = .ok (.aload_n 0, 1) := by decide +kernel
theorem dX6_init_23 : decode cX6_init 23 = .ok (.iconst 0, 1) := by decide +kernel
theorem dX6_init_24 : decode cX6_init 24 = .ok (.putfield 22, 3) := by decide +kernel
theorem dX6_init_27 : decode cX6_init 27 = .ok (.aload_n 0, 1) := by decide +kernel
theorem dX6_init_28 : decode cX6_init 28 = .ok (.iconst 0, 1) := by decide +kernel
theorem dX6_init_29 : decode cX6_init 29 = .ok (.putfield 25, 3) := by decide +kernel
theorem dX6_init_32 : decode cX6_init 32 = .ok (.aload_n 0, 1) := by decide +kernel
theorem dX6_init_33 : decode cX6_init 33 = .ok (.iconst 0, 1) := by decide +kernel
theorem dX6_init_34 : decode cX6_init 34 = .ok (.putfield 28, 3) := by decide +kernel
theorem dX6_init_37 : decode cX6_init 37 = .ok (.return_, 1) := by decide +kernel
theorem dX6_add_0 : decode cX6_add 0 = .ok (.aload_n 0, 1) := by decide +kernel
theorem dX6_add_1 : decode cX6_add 1 = .ok (.getfield 15, 3) := by decide +kernel
theorem dX6_add_4 : decode cX6_add 4 = .ok (.bipush 120, 2) := by decide +kernel
theorem dX6_add_6 : decode cX6_add 6 = .ok (.if_icmp .ge 23, 3) := by decide +kernel
theorem dX6_add_9 : decode cX6_add 9 = .ok (.aload_n 0, 1) := by decide +kernel
theorem dX6_add_10 : decode cX6_add 10 = .ok (.getfield 9, 3) := by decide +kernel
theorem dX6_add_13 : decode cX6_add 13 = .ok (.aload_n 0, 1) := by decide +kernel
theorem dX6_add_14 : decode cX6_add 14 = .ok (.getfield 15, 3) := by decide +kernel
theorem dX6_add_17 : decode cX6_add 17 = .ok (.iload_n 1, 1) := by decide +kernel
theorem dX6_add_18 : decode cX6_add 18 = .ok (.iastore, 1) := by decide +kernel
theorem dX6_add_19 : decode cX6_add 19 = .ok (.aload_n 0, 1) := by decide +kernel
theorem dX6_add_20 : decode cX6_add 20 = .ok (.dup, 1) := by decide +kernel
theorem dX6_add_21 : decode cX6_add 21 = .ok (.getfield 15, 3) := by decide +kernel
theorem dX6_add_24 : decode cX6_add 24 = .ok (.iconst 1, 1) := by decide +kernel
theorem dX6_add_25 : decode cX6_add 25 = .ok (.iadd, 1) := by decide +kernel
theorem dX6_add_26 : decode cX6_add 26 = .ok (.putfield 15, 3) := by decide +kernel
theorem dX6_add_29 : decode cX6_add 29 = .ok (.return_, 1) := by decide +kernel
theorem dX6_first_0 : decode cX6_first 0 = .ok (.aload_n 0, 1) := by decide +kernel
theorem dX6_first_1 : decode cX6_first 1 = .ok (.iconst 0, 1) := by decide +kernel
theorem dX6_first_2 : decode cX6_first 2 = .ok (.putfield 25, 3) := by decide +kernel
theorem dX6_first_5 : decode cX6_first 5 = .ok (.aload_n 0, 1) := by decide +kernel
theorem dX6_first_6 : decode cX6_first 6 = .ok (.invokevirtual 31, 3) := by decide +kernel
theorem dX6_first_9 : decode cX6_first 9 = .ok (.return_, 1) := by decide +kernel
theorem dX6_next_0 : decode cX6_next 0 = .ok (.aload_n 0, 1) := by decide +kernel
theorem dX6_next_1 : decode cX6_next 1 = .ok (.aload_n 0, 1) := by decide +kernel
theorem dX6_next_2 : decode cX6_next 2 = .ok (.getfield 25, 3) := by decide +kernel
theorem dX6_next_5 : decode cX6_next 5 = .ok (.putfield 22, 3) := by decide +kernel
theorem dX6_next_8 : decode cX6_next 8 = .ok (.iconst 0, 1) := by decide +kernel
theorem dX6_next_9 : decode cX6_next 9 = .ok (.istore_n 1, 1) := by decide +kernel
theorem dX6_next_10 : decode cX6_next 10 = .ok (.iload_n 1, 1) := by decide +kernel
theorem dX6_next_11 : decode cX6_next 11 = .ok (.bipush 120, 2) := by decide +kernel
theorem dX6_next_13 : decode cX6_next 13 = .ok (.if_icmp .ge 32, 3) := by decide +kernel
theorem dX6_next_16 : decode cX6_next 16 = .ok (.aload_n 0, 1) := by decide +kernel
theorem dX6_next_17 : decode cX6_next 17 = .ok (.aload_n 0, 1) := by decide +kernel
theorem dX6_next_18 : decode cX6_next 18 = .ok (.getfield 22, 3) := by decide +kernel
theorem dX6_next_21 : decode cX6_next 21 = .ok (.invokevirtual 34, 3) := by decide +kernel
theorem dX6_next_24 : decode cX6_next 24 = .ok (.bipush 32, 2) := by decide +kernel
theorem dX6_next_26 : decode cX6_next 26 = .ok (.if_icmp .ne 19, 3) := by decide +kernel
theorem dX6_next_29 : decode cX6_next 29 = .ok (.aload_n 0, 1) := by decide +kernel
theorem dX6_next_30 : decode cX6_next 30 = .ok (.dup, 1) := by decide +kernel
theorem dX6_next_31 : decode cX6_next 31 = .ok (.getfield 22, 3) := by decide +kernel
theorem dX6_next_34 : decode cX6_next 34 = .ok (.iconst 1, 1) := by decide +kernel
theorem dX6_next_35 : decode cX6_next 35 = .ok (.iadd, 1) := by decide +kernel
theorem dX6_next_36 : decode cX6_next 36 = .ok (.putfield 22, 3) := by decide +kernel
theorem dX6_next_39 : decode cX6_next 39 = .ok (.iinc 1 1, 3) := by decide +kernel
theorem dX6_next_42 : decode cX6_next 42 = .ok (.goto (-32), 3) := by decide +kernel
theorem dX6_next_45 : decode cX6_next 45 = .ok (.aload_n 0, 1) := by decide +kernel
theorem dX6_next_46 : decode cX6_next 46 = .ok (.aload_n 0, 1) := by decide +kernel
theorem dX6_next_47 : decode cX6_next 47 = .ok (.aload_n 0, 1) := by decide +kernel
theorem dX6_next_48 : decode cX6_next 48 = .ok (.getfield 22, 3) := by decide +kernel
theorem dX6_next_51 : decode cX6_next 51 = .ok (.invokevirtual 34, 3) := by decide +kernel
theorem dX6_next_54 : decode cX6_next 54 = .ok (.invokestatic 38, 3) := by decide +kernel
theorem dX6_next_57 : decode cX6_next 57 = .ok (.putfield 19, 3) := by decide +kernel
theorem dX6_next_60 : decode cX6_next 60 = .ok (.aload_n 0, 1) := by decide +kernel
theorem dX6_next_61 : decode cX6_next 61 = .ok (.aload_n 0, 1) := by decide +kernel
theorem dX6_next_62 : decode cX6_next 62 = .ok (.getfield 19, 3) := by decide +kernel
theorem dX6_next_65 : decode cX6_next 65 = .ok (.ifCond .ne 10, 3) := by decide +kernel
theorem dX6_next_68 : decode cX6_next 68 = .ok (.aload_n 0, 1) := by decide +kernel
theorem dX6_next_69 : decode cX6_next 69 = .ok (.getfield 22, 3) := by decide +kernel
theorem dX6_next_72 : decode cX6_next 72 = .ok (.goto 9, 3) := by decide +kernel
theorem dX6_next_75 : decode cX6_next 75 = .ok (.aload_n 0, 1) := by decide +kernel
theorem dX6_next_76 : decode cX6_next 76 = .ok (.getfield 22, 3) := by decide +kernel
theorem dX6_next_79 : decode cX6_next 79 = .ok (.iconst 1, 1) := by decide +kernel
theorem dX6_next_80 : decode cX6_next 80 = .ok (.iadd, 1) := by decide +kernel
theorem dX6_next_81 : decode cX6_next 81 = .ok (.putfield 25, 3) := by decide +kernel
theorem dX6_next_84 : decode cX6_next 84 = .ok (.aload_n 0, 1) := by decide +kernel
theorem dX6_next_85 : decode cX6_next 85 = .ok (.aload_n 0, 1) := by decide +kernel
theorem dX6_next_86 : decode cX6_next 86 = .ok (.getfield 19, 3) := by decide +kernel
theorem dX6_next_89 : decode cX6_next 89 = .ok (.iconst 2, 1) := by decide +kernel
theorem dX6_next_90 : decode cX6_next 90 = .ok (.if_icmp .ne 17, 3) := by decide +kernel
theorem dX6_next_93 : decode cX6_next 93 = .ok (.aload_n 0, 1) := by decide +kernel
theorem dX6_next_94 : decode cX6_next 94 = .ok (.aload_n 0, 1) := by decide +kernel
theorem dX6_next_95 : decode cX6_next 95 = .ok (.getfield 22, 3) := by decide +kernel
theorem dX6_next_98 : decode cX6_next 98 = .ok (.invokevirtual 34, 3) := by decide +kernel
theorem dX6_next_101 : decode cX6_next 101 = .ok (.bipush 48, 2) := by decide +kernel
theorem dX6_next_103 : decode cX6_next 103 = .ok (.isub, 1) := by decide +kernel
theorem dX6_next_104 : decode cX6_next 104 = .ok (.goto 4, 3) := by decide +kernel
theorem dX6_next_107 : decode cX6_next 107 = .ok (.iconst 0, 1) := by decide +kernel
theorem dX6_next_108 : decode cX6_next 108 = .ok (.putfield 28, 3) := by decide +kernel
theorem dX6_next_111 : decode cX6_next 111 = .ok (.aload_n 0, 1) := by decide +kernel
theorem dX6_next_112 : decode cX6_next 112 = .ok (.getfield 19, 3) := by decide +kernel
theorem dX6_next_115 : decode cX6_next 115 = .ok (.iconst 1, 1) := by decide +kernel
theorem dX6_next_116 : decode cX6_next 116 = .ok (.if_icmp .eq 11, 3) := by decide +kernel
theorem dX6_next_119 : decode cX6_next 119 = .ok (.aload_n 0, 1) := by decide +kernel
theorem dX6_next_120 : decode cX6_next 120 = .ok (.getfield 19, 3) := by decide +kernel
theorem dX6_next_123 : decode cX6_next 123 = .ok (.iconst 2, 1) := by decide +kernel
theorem dX6_next_124 : decode cX6_next 124 = .ok (.if_icmp .ne 7, 3) := by decide +kernel
theorem dX6_next_127 : decode cX6_next 127 = .ok (.iconst 1, 1) := by decide +kernel
theorem dX6_next_128 : decode cX6_next 128 = .ok (.goto 4, 3) := by decide +kernel
theorem dX6_next_131 : decode cX6_next 131 = .ok (.iconst 0, 1) := by decide +kernel
theorem dX6_next_132 : decode cX6_next 132 = .ok (.istore_n 1, 1) := by decide +kernel
theorem dX6_next_133 : decode cX6_next 133 = .ok (.iconst 0, 1) := by decide +kernel
theorem dX6_next_134 : decode cX6_next 134 = .ok (.istore_n 2, 1) := by decide +kernel
theorem dX6_next_135 : decode cX6_next 135 = .ok (.iload_n 2, 1) := by decide +kernel
theorem dX6_next_136 : decode cX6_next 136 = .ok (.bipush 120, 2) := by decide +kernel
theorem dX6_next_138 : decode cX6_next 138 = .ok (.if_icmp .ge 82, 3) := by decide +kernel
theorem dX6_next_141 : decode cX6_next 141 = .ok (.iload_n 1, 1) := by decide +kernel
theorem dX6_next_142 : decode cX6_next 142 = .ok (.ifCond .eq 78, 3) := by decide +kernel
theorem dX6_next_145 : decode cX6_next 145 = .ok (.aload_n 0, 1) := by decide +kernel
theorem dX6_next_146 : decode cX6_next 146 = .ok (.aload_n 0, 1) := by decide +kernel
theorem dX6_next_147 : decode cX6_next 147 = .ok (.getfield 25, 3) := by decide +kernel
theorem dX6_next_150 : decode cX6_next 150 = .ok (.invokevirtual 34, 3) := by decide +kernel
theorem dX6_next_153 : decode cX6_next 153 = .ok (.invokestatic 38, 3) := by decide +kernel
theorem dX6_next_156 : decode cX6_next 156 = .ok (.aload_n 0, 1) := by decide +kernel
theorem dX6_next_157 : decode cX6_next 157 = .ok (.getfield 19, 3) := by decide +kernel
theorem dX6_next_160 : decode cX6_next 160 = .ok (.if_icmp .ne 60, 3) := by decide +kernel
theorem dX6_next_163 : decode cX6_next 163 = .ok (.aload_n 0, 1) := by decide +kernel
theorem dX6_next_164 : decode cX6_next 164 = .ok (.aload_n 0, 1) := by decide +kernel
theorem dX6_next_165 : decode cX6_next 165 = .ok (.getfield 19, 3) := by decide +kernel
theorem dX6_next_168 : decode cX6_next 168 = .ok (.iconst 2, 1) := by decide +kernel
theorem dX6_next_169 : decode cX6_next 169 = .ok (.if_icmp .ne 31, 3) := by decide +kernel
theorem dX6_next_172 : decode cX6_next 172 = .ok (.sipush 1000, 3) := by decide +kernel
theorem dX6_next_175 : decode cX6_next 175 = .ok (.bipush 10, 2) := by decide +kernel
theorem dX6_next_177 : decode cX6_next 177 = .ok (.aload_n 0, 1) := by decide +kernel
theorem dX6_next_178 : decode cX6_next 178 = .ok (.getfield 28, 3) := by decide +kernel
theorem dX6_next_181 : decode cX6_next 181 = .ok (.imul, 1) := by decide +kernel
theorem dX6_next_182 : decode cX6_next 182 = .ok (.aload_n 0, 1) := by decide +kernel
theorem dX6_next_183 : decode cX6_next 183 = .ok (.aload_n 0, 1) := by decide +kernel
theorem dX6_next_184 : decode cX6_next 184 = .ok (.getfield 25, 3) := by decide +kernel
theorem dX6_next_187 : decode cX6_next 187 = .ok (.invokevirtual 34, 3) := by decide +kernel
theorem dX6_next_190 : decode cX6_next 190 = .ok (.iadd, 1) := by decide +kernel
theorem dX6_next_191 : decode cX6_next 191 = .ok (.bipush 48, 2) := by decide +kernel
theorem dX6_next_193 : decode cX6_next 193 = .ok (.isub, 1) := by decide +kernel
theorem dX6_next_194 : decode cX6_next 194 = .ok (.invokestatic 41, 3) := by decide +kernel
theorem dX6_next_197 : decode cX6_next 197 = .ok (.goto 4, 3) := by decide +kernel
theorem dX6_next_200 : decode cX6_next 200 = .ok (.iconst 0, 1) := by decide +kernel
theorem dX6_next_201 : decode cX6_next 201 = .ok (.putfield 28, 3) := by decide +kernel
theorem dX6_next_204 : decode cX6_next 204 = .ok (.aload_n 0, 1) := by decide +kernel
theorem dX6_next_205 : decode cX6_next 205 = .ok (.dup, 1) := by decide +kernel
theorem dX6_next_206 : decode cX6_next 206 = .ok (.getfield 25, 3) := by decide +kernel
theorem dX6_next_209 : decode cX6_next 209 = .ok (.iconst 1, 1) := by decide +kernel
theorem dX6_next_210 : decode cX6_next 210 = .ok (.iadd, 1) := by decide +kernel
theorem dX6_next_211 : decode cX6_next 211 = .ok (.putfield 25, 3) := by decide +kernel
theorem dX6_next_214 : decode cX6_next 214 = .ok (.iinc 2 1, 3) := by decide +kernel
theorem dX6_next_217 : decode cX6_next 217 = .ok (.goto (-82), 3) := by decide +kernel
theorem dX6_next_220 : decode cX6_next 220 = .ok (.return_, 1) := by decide +kernel
theorem dX6_tokenWith_0 : decode cX6_tokenWith 0 = .ok (.iload_n 0, 1) := by decide +kernel
theorem dX6_tokenWith_1 : decode cX6_tokenWith 1 = .ok (.ifCond .ge 5, 3) := by decide +kernel
theorem dX6_tokenWith_4 : decode cX6_tokenWith 4 = .ok (.iconst 0, 1) := by decide +kernel
theorem dX6_tokenWith_5 : decode cX6_tokenWith 5 = .ok (.ireturn, 1) := by decide +kernel
theorem dX6_tokenWith_6 : decode cX6_tokenWith 6 = .ok (.iload_n 0, 1) := by decide +kernel
theorem dX6_tokenWith_7 : decode cX6_tokenWith 7 = .ok (.bipush 97, 2) := by decide +kernel
theorem dX6_tokenWith_9 : decode cX6_tokenWith 9 = .ok (.if_icmp .lt 11, 3) := by decide +kernel
theorem dX6_tokenWith_12 : decode cX6_tokenWith 12 = .ok (.iload_n 0, 1) := by decide +kernel
theorem dX6_tokenWith_13 : decode cX6_tokenWith 13 = .ok (.bipush 122, 2) := by decide +kernel
theorem dX6_tokenWith_15 : decode cX6_tokenWith 15 = .ok (.if_icmp .gt 5, 3) := by decide +kernel
theorem dX6_tokenWith_18 : decode cX6_tokenWith 18 = .ok (.iconst 1, 1) := by decide +kernel
theorem dX6_tokenWith_19 : decode cX6_tokenWith 19 = .ok (.ireturn, 1) := by decide +kernel
theorem dX6_tokenWith_20 : decode cX6_tokenWith 20 = .ok (.iload_n 0, 1) := by decide +kernel
theorem dX6_tokenWith_21 : decode cX6_tokenWith 21 = .ok (.bipush 48, 2) := by decide +kernel
theorem dX6_tokenWith_23 : decode cX6_tokenWith 23 = .ok (.if_icmp .lt 11, 3) := by decide +kernel
theorem dX6_tokenWith_26 : decode cX6_tokenWith 26 = .ok (.iload_n 0, 1) := by decide +kernel
theorem dX6_tokenWith_27 : decode cX6_tokenWith 27 = .ok (.bipush 57, 2) := by decide +kernel
theorem dX6_tokenWith_29 : decode cX6_tokenWith 29 = .ok (.if_icmp .gt 5, 3) := by decide +kernel
theorem dX6_tokenWith_32 : decode cX6_tokenWith 32 = .ok (.iconst 2, 1) := by decide +kernel
theorem dX6_tokenWith_33 : decode cX6_tokenWith 33 = .ok (.ireturn, 1) := by decide +kernel
theorem dX6_tokenWith_34 : decode cX6_tokenWith 34 = .ok (.iload_n 0, 1) := by decide +kernel
theorem dX6_tokenWith_35 : decode cX6_tokenWith 35 = .ok (.bipush 59, 2) := by decide +kernel
theorem dX6_tokenWith_37 : decode cX6_tokenWith 37 = .ok (.if_icmp .ne 7, 3) := by decide +kernel
theorem dX6_tokenWith_40 : decode cX6_tokenWith 40 = .ok (.iconst 3, 1) := by decide +kernel
theorem dX6_tokenWith_41 : decode cX6_tokenWith 41 = .ok (.goto 4, 3) := by decide +kernel
theorem dX6_tokenWith_44 : decode cX6_tokenWith 44 = .ok (.iconst 4, 1) := by decide +kernel
theorem dX6_tokenWith_45 : decode cX6_tokenWith 45 = .ok (.ireturn, 1) := by decide +kernel
theorem dX6_byteAt_0 : decode cX6_byteAt 0 = .ok (.iload_n 1, 1) := by decide +kernel
theorem dX6_byteAt_1 : decode cX6_byteAt 1 = .ok (.ifCond .lt 26, 3) := by decide +kernel
theorem dX6_byteAt_4 : decode cX6_byteAt 4 = .ok (.iload_n 1, 1) := by decide +kernel
theorem dX6_byteAt_5 : decode cX6_byteAt 5 = .ok (.aload_n 0, 1) := by decide +kernel
theorem dX6_byteAt_6 : decode cX6_byteAt 6 = .ok (.getfield 15, 3) := by decide +kernel
theorem dX6_byteAt_9 : decode cX6_byteAt 9 = .ok (.if_icmp .ge 18, 3) := by decide +kernel
theorem dX6_byteAt_12 : decode cX6_byteAt 12 = .ok (.iload_n 1, 1) := by decide +kernel
theorem dX6_byteAt_13 : decode cX6_byteAt 13 = .ok (.bipush 120, 2) := by decide +kernel
theorem dX6_byteAt_15 : decode cX6_byteAt 15 = .ok (.if_icmp .ge 12, 3) := by decide +kernel
theorem dX6_byteAt_18 : decode cX6_byteAt 18 = .ok (.aload_n 0, 1) := by decide +kernel
theorem dX6_byteAt_19 : decode cX6_byteAt 19 = .ok (.getfield 9, 3) := by decide +kernel
theorem dX6_byteAt_22 : decode cX6_byteAt 22 = .ok (.iload_n 1, 1) := by decide +kernel
theorem dX6_byteAt_23 : decode cX6_byteAt 23 = .ok (.iaload, 1) := by decide +kernel
theorem dX6_byteAt_24 : decode cX6_byteAt 24 = .ok (.goto 4, 3) := by decide +kernel
theorem dX6_byteAt_27 : decode cX6_byteAt 27 = .ok (.iconst (-1), 1) := by decide +kernel
theorem dX6_byteAt_28 : decode cX6_byteAt 28 = .ok (.ireturn, 1) := by decide +kernel
theorem dX6_isWord_0 : decode cX6_isWord 0 = .ok (.aload_n 0, 1) := by decide +kernel
theorem dX6_isWord_1 : decode cX6_isWord 1 = .ok (.getfield 19, 3) := by decide +kernel
theorem dX6_isWord_4 : decode cX6_isWord 4 = .ok (.iconst 1, 1) := by decide +kernel
theorem dX6_isWord_5 : decode cX6_isWord 5 = .ok (.if_icmp .ne 19, 3) := by decide +kernel
theorem dX6_isWord_8 : decode cX6_isWord 8 = .ok (.aload_n 0, 1) := by decide +kernel
theorem dX6_isWord_9 : decode cX6_isWord 9 = .ok (.getfield 25, 3) := by decide +kernel
theorem dX6_isWord_12 : decode cX6_isWord 12 = .ok (.aload_n 0, 1) := by decide +kernel
theorem dX6_isWord_13 : decode cX6_isWord 13 = .ok (.getfield 22, 3) := by decide +kernel
theorem dX6_isWord_16 : decode cX6_isWord 16 = .ok (.isub, 1) := by decide +kernel
theorem dX6_isWord_17 : decode cX6_isWord 17 = .ok (.aload_n 1, 1) := by decide +kernel
theorem dX6_isWord_18 : decode cX6_isWord 18 = .ok (.invokevirtual 47, 3) := by decide +kernel
theorem dX6_isWord_21 : decode cX6_isWord 21 = .ok (.if_icmp .eq 5, 3) := by decide +kernel
theorem dX6_isWord_24 : decode cX6_isWord 24 = .ok (.iconst 0, 1) := by decide +kernel
theorem dX6_isWord_25 : decode cX6_isWord 25 = .ok (.ireturn, 1) := by decide +kernel
theorem dX6_isWord_26 : decode cX6_isWord 26 = .ok (.iconst 0, 1) := by decide +kernel
theorem dX6_isWord_27 : decode cX6_isWord 27 = .ok (.istore_n 2, 1) := by decide +kernel
theorem dX6_isWord_28 : decode cX6_isWord 28 = .ok (.iload_n 2, 1) := by decide +kernel
theorem dX6_isWord_29 : decode cX6_isWord 29 = .ok (.aload_n 1, 1) := by decide +kernel
theorem dX6_isWord_30 : decode cX6_isWord 30 = .ok (.invokevirtual 47, 3) := by decide +kernel
theorem dX6_isWord_33 : decode cX6_isWord 33 = .ok (.if_icmp .ge 29, 3) := by decide +kernel
theorem dX6_isWord_36 : decode cX6_isWord 36 = .ok (.aload_n 0, 1) := by decide +kernel
theorem dX6_isWord_37 : decode cX6_isWord 37 = .ok (.aload_n 0, 1) := by decide +kernel
theorem dX6_isWord_38 : decode cX6_isWord 38 = .ok (.getfield 22, 3) := by decide +kernel
theorem dX6_isWord_41 : decode cX6_isWord 41 = .ok (.iload_n 2, 1) := by decide +kernel
theorem dX6_isWord_42 : decode cX6_isWord 42 = .ok (.iadd, 1) := by decide +kernel
theorem dX6_isWord_43 : decode cX6_isWord 43 = .ok (.invokevirtual 34, 3) := by decide +kernel
theorem dX6_isWord_46 : decode cX6_isWord 46 = .ok (.aload_n 1, 1) := by decide +kernel
theorem dX6_isWord_47 : decode cX6_isWord 47 = .ok (.iload_n 2, 1) := by decide +kernel
theorem dX6_isWord_48 : decode cX6_isWord 48 = .ok (.invokevirtual 52, 3) := by decide +kernel
theorem dX6_isWord_51 : decode cX6_isWord 51 = .ok (.if_icmp .eq 5, 3) := by decide +kernel
theorem dX6_isWord_54 : decode cX6_isWord 54 = .ok (.iconst 0, 1) := by decide +kernel
theorem dX6_isWord_55 : decode cX6_isWord 55 = .ok (.ireturn, 1) := by decide +kernel
theorem dX6_isWord_56 : decode cX6_isWord 56 = .ok (.iinc 2 1, 3) := by decide +kernel
theorem dX6_isWord_59 : decode cX6_isWord 59 = .ok (.goto (-31), 3) := by decide +kernel
theorem dX6_isWord_62 : decode cX6_isWord 62 = .ok (.iconst 1, 1) := by decide +kernel
theorem dX6_isWord_63 : decode cX6_isWord 63 = .ok (.ireturn, 1) := by decide +kernel
theorem dX6_numberUpTo_0 : decode cX6_numberUpTo 0 = .ok (.aload_n 0, 1) := by decide +kernel
theorem dX6_numberUpTo_1 : decode cX6_numberUpTo 1 = .ok (.getfield 19, 3) := by decide +kernel
theorem dX6_numberUpTo_4 : decode cX6_numberUpTo 4 = .ok (.iconst 2, 1) := by decide +kernel
theorem dX6_numberUpTo_5 : decode cX6_numberUpTo 5 = .ok (.if_icmp .ne 18, 3) := by decide +kernel
theorem dX6_numberUpTo_8 : decode cX6_numberUpTo 8 = .ok (.aload_n 0, 1) := by decide +kernel
theorem dX6_numberUpTo_9 : decode cX6_numberUpTo 9 = .ok (.getfield 28, 3) := by decide +kernel
theorem dX6_numberUpTo_12 : decode cX6_numberUpTo 12 = .ok (.iload_n 1, 1) := by decide +kernel
theorem dX6_numberUpTo_13 : decode cX6_numberUpTo 13 = .ok (.if_icmp .gt 10, 3) := by decide +kernel
theorem dX6_numberUpTo_16 : decode cX6_numberUpTo 16 = .ok (.aload_n 0, 1) := by decide +kernel
theorem dX6_numberUpTo_17 : decode cX6_numberUpTo 17 = .ok (.getfield 28, 3) := by decide +kernel
theorem dX6_numberUpTo_20 : decode cX6_numberUpTo 20 = .ok (.goto 4, 3) := by decide +kernel
theorem dX6_numberUpTo_23 : decode cX6_numberUpTo 23 = .ok (.iconst (-1), 1) := by decide +kernel
theorem dX6_numberUpTo_24 : decode cX6_numberUpTo 24 = .ok (.ireturn, 1) := by decide +kernel
theorem dX7_init_0 : decode cX7_init 0 = .ok (.aload_n 0, 1) := by decide +kernel
theorem dX7_init_1 : decode cX7_init 1 = .ok (.invokespecial 3, 3) := by decide +kernel
theorem dX7_init_4 : decode cX7_init 4 = .ok (.aload_n 0, 1) := by decide +kernel
theorem dX7_init_5 : decode cX7_init 5 = .ok (.new 9, 3) := by decide +kernel
theorem dX7_init_8 : decode cX7_init 8 = .ok (.dup, 1) := by decide +kernel
theorem dX7_init_9 : decode cX7_init 9 = .ok (.invokespecial 11, 3) := by decide +kernel
theorem dX7_init_12 : decode cX7_init 12 = .ok (.putfield 12, 3) := by decide +kernel
theorem dX7_init_15 : decode cX7_init 15 = .ok (.aload_n 0, 1) := by decide +kernel
theorem dX7_init_16 : decode cX7_init 16 = .ok (.iconst 3, 1) := by decide +kernel
theorem dX7_init_17 : decode cX7_init 17 = .ok (.newarray .int, 2) := by decide +kernel
theorem dX7_init_19 : decode cX7_init 19 = .ok (.putfield 18, 3) := by decide +kernel
theorem dX7_init_22 : decode cX7_init 22 = .ok (.aload_n 0, 1) := by decide +kernel
theorem dX7_init_23 : decode cX7_init 23 = .ok (.iconst 3, 1) := by decide +kernel
theorem dX7_init_24 : decode cX7_init 24 = .ok (.newarray .int, 2) := by decide +kernel
theorem dX7_init_26 : decode cX7_init 26 = .ok (.putfield 22, 3) := by decide +kernel
theorem dX7_init_29 : decode cX7_init 29 = .ok (.aload_n 0, 1) := by decide +kernel
theorem dX7_init_30 : decode cX7_init 30 = .ok (.iconst 3, 1) := by decide +kernel
theorem dX7_init_31 : decode cX7_init 31 = .ok (.newarray .int, 2) := by decide +kernel
theorem dX7_init_33 : decode cX7_init 33 = .ok (.putfield 25, 3) := by decide +kernel
theorem dX7_init_36 : decode cX7_init 36 = .ok (.aload_n 0, 1) := by decide +kernel
theorem dX7_init_37 : decode cX7_init 37 = .ok (.iconst (-1), 1) := by decide +kernel
theorem dX7_init_38 : decode cX7_init 38 = .ok (.putfield 28, 3) := by decide +kernel
theorem dX7_init_41 : decode cX7_init 41 = .ok (.return_, 1) := by decide +kernel
theorem dX7_find_0 : decode cX7_find 0 = .ok (.aload_n 0, 1) := by decide +kernel
theorem dX7_find_1 : decode cX7_find 1 = .ok (.iload_n 2, 1) := by decide +kernel
theorem dX7_find_2 : decode cX7_find 2 = .ok (.invokevirtual 32, 3) := by decide +kernel
theorem dX7_find_5 : decode cX7_find 5 = .ok (.aload_n 0, 1) := by decide +kernel
theorem dX7_find_6 : decode cX7_find 6 = .ok (.iconst (-1), 1) := by decide +kernel
theorem dX7_find_7 : decode cX7_find 7 = .ok (.putfield 28, 3) := by decide +kernel
theorem dX7_find_10 : decode cX7_find 10 = .ok (.iconst 0, 1) := by decide +kernel
theorem dX7_find_11 : decode cX7_find 11 = .ok (.istore_n 3, 1) := by decide +kernel
theorem dX7_find_12 : decode cX7_find 12 = .ok (.iload_n 3, 1) := by decide +kernel
theorem dX7_find_13 : decode cX7_find 13 = .ok (.iconst 3, 1) := by decide +kernel
theorem dX7_find_14 : decode cX7_find 14 = .ok (.if_icmp .ge 32, 3) := by decide +kernel
theorem dX7_find_17 : decode cX7_find 17 = .ok (.iconst 0, 1) := by decide +kernel
theorem dX7_find_18 : decode cX7_find 18 = .ok (.istore 4, 2) := by decide +kernel
theorem dX7_find_20 : decode cX7_find 20 = .ok (.iload 4, 2) := by decide +kernel
theorem dX7_find_22 : decode cX7_find 22 = .ok (.iconst 3, 1) := by decide +kernel
theorem dX7_find_23 : decode cX7_find 23 = .ok (.if_icmp .ge 17, 3) := by decide +kernel
theorem dX7_find_26 : decode cX7_find 26 = .ok (.aload_n 0, 1) := by decide +kernel
theorem dX7_find_27 : decode cX7_find 27 = .ok (.aload_n 1, 1) := by decide +kernel
theorem dX7_find_28 : decode cX7_find 28 = .ok (.iload_n 3, 1) := by decide +kernel
theorem dX7_find_29 : decode cX7_find 29 = .ok (.iload 4, 2) := by decide +kernel
theorem dX7_find_31 : decode cX7_find 31 = .ok (.invokevirtual 36, 3) := by decide +kernel
theorem dX7_find_34 : decode cX7_find 34 = .ok (.iinc 4 1, 3) := by decide +kernel
theorem dX7_find_37 : decode cX7_find 37 = .ok (.goto (-17), 3) := by decide +kernel
theorem dX7_find_40 : decode cX7_find 40 = .ok (.iinc 3 1, 3) := by decide +kernel
theorem dX7_find_43 : decode cX7_find 43 = .ok (.goto (-31), 3) := by decide +kernel
theorem dX7_find_46 : decode cX7_find 46 = .ok (.return_, 1) := by decide +kernel
theorem dX7_listThree_0 : decode cX7_listThree 0 = .ok (.iconst 0, 1) := by decide +kernel
theorem dX7_listThree_1 : decode cX7_listThree 1 = .ok (.istore_n 2, 1) := by decide +kernel
theorem dX7_listThree_2 : decode cX7_listThree 2 = .ok (.iconst 0, 1) := by decide +kernel
theorem dX7_listThree_3 : decode cX7_listThree 3 = .ok (.istore_n 3, 1) := by decide +kernel
theorem dX7_listThree_4 : decode cX7_listThree 4 = .ok (.iload_n 3, 1) := by decide +kernel
theorem dX7_listThree_5 : decode cX7_listThree 5 = .ok (.bipush 6, 2) := by decide +kernel
theorem dX7_listThree_7 : decode cX7_listThree 7 = .ok (.if_icmp .ge 32, 3) := by decide +kernel
theorem dX7_listThree_10 : decode cX7_listThree 10 = .ok (.iload_n 2, 1) := by decide +kernel
theorem dX7_listThree_11 : decode cX7_listThree 11 = .ok (.iconst 3, 1) := by decide +kernel
theorem dX7_listThree_12 : decode cX7_listThree 12 = .ok (.if_icmp .ge 27, 3) := by decide +kernel
theorem dX7_listThree_15 : decode cX7_listThree 15 = .ok (.iload_n 1, 1) := by decide +kernel
theorem dX7_listThree_16 : decode cX7_listThree 16 = .ok (.iconst 1, 1) := by decide +kernel
theorem dX7_listThree_17 : decode cX7_listThree 17 = .ok (.iload_n 3, 1) := by decide +kernel
theorem dX7_listThree_18 : decode cX7_listThree 18 = .ok (.ishl, 1) := by decide +kernel
theorem dX7_listThree_19 : decode cX7_listThree 19 = .ok (.iand, 1) := by decide +kernel
theorem dX7_listThree_20 : decode cX7_listThree 20 = .ok (.ifCond .eq 13, 3) := by decide +kernel
theorem dX7_listThree_23 : decode cX7_listThree 23 = .ok (.aload_n 0, 1) := by decide +kernel
theorem dX7_listThree_24 : decode cX7_listThree 24 = .ok (.getfield 18, 3) := by decide +kernel
theorem dX7_listThree_27 : decode cX7_listThree 27 = .ok (.iload_n 2, 1) := by decide +kernel
theorem dX7_listThree_28 : decode cX7_listThree 28 = .ok (.iload_n 3, 1) := by decide +kernel
theorem dX7_listThree_29 : decode cX7_listThree 29 = .ok (.iastore, 1) := by decide +kernel
theorem dX7_listThree_30 : decode cX7_listThree 30 = .ok (.iinc 2 1, 3) := by decide +kernel
theorem dX7_listThree_33 : decode cX7_listThree 33 = .ok (.iinc 3 1, 3) := by decide +kernel
theorem dX7_listThree_36 : decode cX7_listThree 36 = .ok (.goto (-32), 3) := by decide +kernel
theorem dX7_listThree_39 : decode cX7_listThree 39 = .ok (.return_, 1) := by decide +kernel
theorem dX7_findFrom_0 : decode cX7_findFrom 0 = .ok (.iconst 0, 1) := by decide +kernel
theorem dX7_findFrom_1 : decode cX7_findFrom 1 = .ok (.istore 4, 2) := by decide +kernel
theorem dX7_findFrom_3 : decode cX7_findFrom 3 = .ok (.iload 4, 2) := by decide +kernel
theorem dX7_findFrom_5 : decode cX7_findFrom 5 = .ok (.iconst 3, 1) := by decide +kernel
theorem dX7_findFrom_6 : decode cX7_findFrom 6 = .ok (.if_icmp .ge 95, 3) := by decide +kernel
theorem dX7_findFrom_9 : decode cX7_findFrom 9 = .ok (.iconst 0, 1) := by decide +kernel
theorem dX7_findFrom_10 : decode cX7_findFrom 10 = .ok (.istore 5, 2) := by decide +kernel
theorem dX7_findFrom_12 : decode cX7_findFrom 12 = .ok (.iload 5, 2) := by decide +kernel
theorem dX7_findFrom_14 : decode cX7_findFrom 14 = .ok (.iconst 3, 1) := by decide +kernel
theorem dX7_findFrom_15 : decode cX7_findFrom 15 = .ok (.if_icmp .ge 80, 3) := by decide +kernel
theorem dX7_findFrom_18 : decode cX7_findFrom 18 = .ok (.iload 4, 2) := by decide +kernel
theorem dX7_findFrom_20 : decode cX7_findFrom 20 = .ok (.iload_n 2, 1) := by decide +kernel
theorem dX7_findFrom_21 : decode cX7_findFrom 21 = .ok (.if_icmp .eq 68, 3) := by decide +kernel
theorem dX7_findFrom_24 : decode cX7_findFrom 24 = .ok (.iload 5, 2) := by decide +kernel
theorem dX7_findFrom_26 : decode cX7_findFrom 26 = .ok (.iload_n 3, 1) := by decide +kernel
theorem dX7_findFrom_27 : decode cX7_findFrom 27 = .ok (.if_icmp .eq 62, 3) := by decide +kernel
theorem dX7_findFrom_30 : decode cX7_findFrom 30 = .ok (.aload_n 0, 1) := by decide +kernel
theorem dX7_findFrom_31 : decode cX7_findFrom 31 = .ok (.getfield 12, 3) := by decide +kernel
theorem dX7_findFrom_34 : decode cX7_findFrom 34 = .ok (.aload_n 1, 1) := by decide +kernel
theorem dX7_findFrom_35 : decode cX7_findFrom 35 = .ok (.invokevirtual 40, 3) := by decide +kernel
theorem dX7_findFrom_38 : decode cX7_findFrom 38 = .ok (.aload_n 0, 1) := by decide +kernel
theorem dX7_findFrom_39 : decode cX7_findFrom 39 = .ok (.iconst 0, 1) := by decide +kernel
theorem dX7_findFrom_40 : decode cX7_findFrom 40 = .ok (.iload_n 2, 1) := by decide +kernel
theorem dX7_findFrom_41 : decode cX7_findFrom 41 = .ok (.iload_n 3, 1) := by decide +kernel
theorem dX7_findFrom_42 : decode cX7_findFrom 42 = .ok (.invokevirtual 44, 3) := by decide +kernel
theorem dX7_findFrom_45 : decode cX7_findFrom 45 = .ok (.istore 6, 2) := by decide +kernel
theorem dX7_findFrom_47 : decode cX7_findFrom 47 = .ok (.iload 6, 2) := by decide +kernel
theorem dX7_findFrom_49 : decode cX7_findFrom 49 = .ok (.aload_n 0, 1) := by decide +kernel
theorem dX7_findFrom_50 : decode cX7_findFrom 50 = .ok (.iconst 1, 1) := by decide +kernel
theorem dX7_findFrom_51 : decode cX7_findFrom 51 = .ok (.iload 4, 2) := by decide +kernel
theorem dX7_findFrom_53 : decode cX7_findFrom 53 = .ok (.iload 5, 2) := by decide +kernel
theorem dX7_findFrom_55 : decode cX7_findFrom 55 = .ok (.invokevirtual 44, 3) := by decide +kernel
theorem dX7_findFrom_58 : decode cX7_findFrom 58 = .ok (.iadd, 1) := by decide +kernel
theorem dX7_findFrom_59 : decode cX7_findFrom 59 = .ok (.istore 6, 2) := by decide +kernel
theorem dX7_findFrom_61 : decode cX7_findFrom 61 = .ok (.iload 6, 2) := by decide +kernel
theorem dX7_findFrom_63 : decode cX7_findFrom 63 = .ok (.aload_n 0, 1) := by decide +kernel
theorem dX7_findFrom_64 : decode cX7_findFrom 64 = .ok (.iconst 2, 1) := by decide +kernel
theorem dX7_findFrom_65 : decode cX7_findFrom 65 = .ok (.iconst 3, 1) := by decide +kernel
theorem dX7_findFrom_66 : decode cX7_findFrom 66 = .ok (.iload_n 2, 1) := by decide +kernel
theorem dX7_findFrom_67 : decode cX7_findFrom 67 = .ok (.isub, 1) := by decide +kernel
theorem dX7_findFrom_68 : decode cX7_findFrom 68 = .ok (.iload 4, 2) := by decide +kernel
theorem dX7_findFrom_70 : decode cX7_findFrom 70 = .ok (.isub, 1) := by decide +kernel
theorem dX7_findFrom_71 : decode cX7_findFrom 71 = .ok (.iconst 3, 1) := by decide +kernel
theorem dX7_findFrom_72 : decode cX7_findFrom 72 = .ok (.iload_n 3, 1) := by decide +kernel
theorem dX7_findFrom_73 : decode cX7_findFrom 73 = .ok (.isub, 1) := by decide +kernel
theorem dX7_findFrom_74 : decode cX7_findFrom 74 = .ok (.iload 5, 2) := by decide +kernel
theorem dX7_findFrom_76 : decode cX7_findFrom 76 = .ok (.isub, 1) := by decide +kernel
theorem dX7_findFrom_77 : decode cX7_findFrom 77 = .ok (.invokevirtual 44, 3) := by decide +kernel
theorem dX7_findFrom_80 : decode cX7_findFrom 80 = .ok (.iadd, 1) := by decide +kernel
theorem dX7_findFrom_81 : decode cX7_findFrom 81 = .ok (.istore 6, 2) := by decide +kernel
theorem dX7_findFrom_83 : decode cX7_findFrom 83 = .ok (.aload_n 0, 1) := by decide +kernel
theorem dX7_findFrom_84 : decode cX7_findFrom 84 = .ok (.iload 6, 2) := by decide +kernel
theorem dX7_findFrom_86 : decode cX7_findFrom 86 = .ok (.invokevirtual 48, 3) := by decide +kernel
theorem dX7_findFrom_89 : decode cX7_findFrom 89 = .ok (.iinc 5 1, 3) := by decide +kernel
theorem dX7_findFrom_92 : decode cX7_findFrom 92 = .ok (.goto (-80), 3) := by decide +kernel
theorem dX7_findFrom_95 : decode cX7_findFrom 95 = .ok (.iinc 4 1, 3) := by decide +kernel
theorem dX7_findFrom_98 : decode cX7_findFrom 98 = .ok (.goto (-95), 3) := by decide +kernel
theorem dX7_findFrom_101 : decode cX7_findFrom 101 = .ok (.return_, 1) := by decide +kernel
theorem dX7_takeStep_0 : decode cX7_takeStep 0 = .ok (.aload_n 0, 1) := by decide +kernel
theorem dX7_takeStep_1 : decode cX7_takeStep 1 = .ok (.getfield 18, 3) := by decide +kernel
theorem dX7_takeStep_4 : decode cX7_takeStep 4 = .ok (.iload_n 2, 1) := by decide +kernel
theorem dX7_takeStep_5 : decode cX7_takeStep 5 = .ok (.iaload, 1) := by decide +kernel
theorem dX7_takeStep_6 : decode cX7_takeStep 6 = .ok (.istore 4, 2) := by decide +kernel
theorem dX7_takeStep_8 : decode cX7_takeStep 8 = .ok (.aload_n 0, 1) := by decide +kernel
theorem dX7_takeStep_9 : decode cX7_takeStep 9 = .ok (.getfield 12, 3) := by decide +kernel
theorem dX7_takeStep_12 : decode cX7_takeStep 12 = .ok (.iload 4, 2) := by decide +kernel
theorem dX7_takeStep_14 : decode cX7_takeStep 14 = .ok (.iload_n 3, 1) := by decide +kernel
theorem dX7_takeStep_15 : decode cX7_takeStep 15 = .ok (.invokevirtual 51, 3) := by decide +kernel
theorem dX7_takeStep_18 : decode cX7_takeStep 18 = .ok (.istore 5, 2) := by decide +kernel
theorem dX7_takeStep_20 : decode cX7_takeStep 20 = .ok (.aload_n 0, 1) := by decide +kernel
theorem dX7_takeStep_21 : decode cX7_takeStep 21 = .ok (.getfield 12, 3) := by decide +kernel
theorem dX7_takeStep_24 : decode cX7_takeStep 24 = .ok (.iload 4, 2) := by decide +kernel
theorem dX7_takeStep_26 : decode cX7_takeStep 26 = .ok (.iload_n 3, 1) := by decide +kernel
theorem dX7_takeStep_27 : decode cX7_takeStep 27 = .ok (.invokevirtual 55, 3) := by decide +kernel
theorem dX7_takeStep_30 : decode cX7_takeStep 30 = .ok (.aload_n 0, 1) := by decide +kernel
theorem dX7_takeStep_31 : decode cX7_takeStep 31 = .ok (.getfield 22, 3) := by decide +kernel
theorem dX7_takeStep_34 : decode cX7_takeStep 34 = .ok (.iload_n 1, 1) := by decide +kernel
theorem dX7_takeStep_35 : decode cX7_takeStep 35 = .ok (.bipush 10, 2) := by decide +kernel
theorem dX7_takeStep_37 : decode cX7_takeStep 37 = .ok (.iload 4, 2) := by decide +kernel
theorem dX7_takeStep_39 : decode cX7_takeStep 39 = .ok (.imul, 1) := by decide +kernel
theorem dX7_takeStep_40 : decode cX7_takeStep 40 = .ok (.iload_n 3, 1) := by decide +kernel
theorem dX7_takeStep_41 : decode cX7_takeStep 41 = .ok (.iadd, 1) := by decide +kernel
theorem dX7_takeStep_42 : decode cX7_takeStep 42 = .ok (.iastore, 1) := by decide +kernel
theorem dX7_takeStep_43 : decode cX7_takeStep 43 = .ok (.iload 5, 2) := by decide +kernel
theorem dX7_takeStep_45 : decode cX7_takeStep 45 = .ok (.ireturn, 1) := by decide +kernel
theorem dX7_keepIfBetter_0 : decode cX7_keepIfBetter 0 = .ok (.aload_n 0, 1) := by decide +kernel
theorem dX7_keepIfBetter_1 : decode cX7_keepIfBetter 1 = .ok (.getfield 28, 3) := by decide +kernel
theorem dX7_keepIfBetter_4 : decode cX7_keepIfBetter 4 = .ok (.iconst (-1), 1) := by decide +kernel
theorem dX7_keepIfBetter_5 : decode cX7_keepIfBetter 5 = .ok (.if_icmp .eq 11, 3) := by decide +kernel
theorem dX7_keepIfBetter_8 : decode cX7_keepIfBetter 8 = .ok (.iload_n 1, 1) := by decide +kernel
theorem dX7_keepIfBetter_9 : decode cX7_keepIfBetter 9 = .ok (.aload_n 0, 1) := by decide +kernel
theorem dX7_keepIfBetter_10 : decode cX7_keepIfBetter 10 = .ok (.getfield 28, 3) := by decide +kernel
theorem dX7_keepIfBetter_13 : decode cX7_keepIfBetter 13 = .ok (.if_icmp .ge 22, 3) := by decide +kernel
theorem dX7_keepIfBetter_16 : decode cX7_keepIfBetter 16 = .ok (.aload_n 0, 1) := by decide +kernel
theorem dX7_keepIfBetter_17 : decode cX7_keepIfBetter 17 = .ok (.iload_n 1, 1) := by decide +kernel
theorem dX7_keepIfBetter_18 : decode cX7_keepIfBetter 18 = .ok (.putfield 28, 3) := by decide +kernel
theorem dX7_keepIfBetter_21 : decode cX7_keepIfBetter 21 = .ok (.aload_n 0, 1) := by decide +kernel
theorem dX7_keepIfBetter_22 : decode cX7_keepIfBetter 22 = .ok (.getfield 22, 3) := by decide +kernel
theorem dX7_keepIfBetter_25 : decode cX7_keepIfBetter 25 = .ok (.iconst 0, 1) := by decide +kernel
theorem dX7_keepIfBetter_26 : decode cX7_keepIfBetter 26 = .ok (.aload_n 0, 1) := by decide +kernel
theorem dX7_keepIfBetter_27 : decode cX7_keepIfBetter 27 = .ok (.getfield 25, 3) := by decide +kernel
theorem dX7_keepIfBetter_30 : decode cX7_keepIfBetter 30 = .ok (.iconst 0, 1) := by decide +kernel
theorem dX7_keepIfBetter_31 : decode cX7_keepIfBetter 31 = .ok (.iconst 3, 1) := by decide +kernel
theorem dX7_keepIfBetter_32 : decode cX7_keepIfBetter 32 = .ok (.invokestatic 59, 3) := by decide +kernel
theorem dX7_keepIfBetter_35 : decode cX7_keepIfBetter 35 = .ok (.return_, 1) := by decide +kernel
theorem dX8_init_0 : decode cX8_init 0 = .ok (.aload_n 0, 1) := by decide +kernel
theorem dX8_init_1 : decode cX8_init 1 = .ok (.invokespecial 1, 3) := by decide +kernel
theorem dX8_init_4 : decode cX8_init 4 = .ok (.aload_n 0, 1) := by decide +kernel
theorem dX8_init_5 : decode cX8_init 5 = .ok (.new 7, 3) := by decide +kernel
theorem dX8_init_8 : decode cX8_init 8 = .ok (.dup, 1) := by decide +kernel
theorem dX8_init_9 : decode cX8_init 9 = .ok (.invokespecial 9, 3) := by decide +kernel
theorem dX8_init_12 : decode cX8_init 12 = .ok (.putfield 10, 3) := by decide +kernel
theorem dX8_init_15 : decode cX8_init 15 = .ok (.aload_n 0, 1) := by decide +kernel
theorem dX8_init_16 : decode cX8_init 16 = .ok (.new 7, 3) := by decide +kernel
theorem dX8_init_19 : decode cX8_init 19 = .ok (.dup, 1) := by decide +kernel
theorem dX8_init_20 : decode cX8_init 20 = .ok (.invokespecial 9, 3) := by decide +kernel
theorem dX8_init_23 : decode cX8_init 23 = .ok (.putfield 16, 3) := by decide +kernel
theorem dX8_init_26 : decode cX8_init 26 = .ok (.aload_n 0, 1) := by decide +kernel
theorem dX8_init_27 : decode cX8_init 27 = .ok (.new 7, 3) := by decide +kernel
theorem dX8_init_30 : decode cX8_init 30 = .ok (.dup, 1) := by decide +kernel
theorem dX8_init_31 : decode cX8_init 31 = .ok (.invokespecial 9, 3) := by decide +kernel
theorem dX8_init_34 : decode cX8_init 34 = .ok (.putfield 19, 3) := by decide +kernel
theorem dX8_init_37 : decode cX8_init 37 = .ok (.aload_n 0, 1) := by decide +kernel
theorem dX8_init_38 : decode cX8_init 38 = .ok (.new 22, 3) := by decide +kernel
theorem dX8_init_41 : decode cX8_init 41 = .ok (.dup, 1) := by decide +kernel
theorem dX8_init_42 : decode cX8_init 42 = .ok (.invokespecial 24, 3) := by decide +kernel
theorem dX8_init_45 : decode cX8_init 45 = .ok (.putfield 25, 3) := by decide +kernel
theorem dX8_init_48 : decode cX8_init 48 = .ok (.aload_n 0, 1) := by decide +kernel
theorem dX8_init_49 : decode cX8_init 49 = .ok (.new 29, 3) := by decide +kernel
theorem dX8_init_52 : decode cX8_init 52 = .ok (.dup, 1) := by decide +kernel
theorem dX8_init_53 : decode cX8_init 53 = .ok (.invokespecial 31, 3) := by decide +kernel
theorem dX8_init_56 : decode cX8_init 56 = .ok (.putfield 32, 3) := by decide +kernel
theorem dX8_init_59 : decode cX8_init 59 = .ok (.aload_n 0, 1) := by decide +kernel
theorem dX8_init_60 : decode cX8_init 60 = .ok (.iconst 4, 1) := by decide +kernel
theorem dX8_init_61 : decode cX8_init 61 = .ok (.anewarray 36, 3) := by decide +kernel
theorem dX8_init_64 : decode cX8_init 64 = .ok (.putfield 38, 3) := by decide +kernel
theorem dX8_init_67 : decode cX8_init 67 = .ok (.aload_n 0, 1) := by decide +kernel
theorem dX8_init_68 : decode cX8_init 68 = .ok (.bipush 7, 2) := by decide +kernel
theorem dX8_init_70 : decode cX8_init 70 = .ok (.newarray .int, 2) := by decide +kernel
theorem dX8_init_72 : decode cX8_init 72 = .ok (.putfield 42, 3) := by decide +kernel
theorem dX8_init_75 : decode cX8_init 75 = .ok (.aload_n 0, 1) := by decide +kernel
theorem dX8_init_76 : decode cX8_init 76 = .ok (.iconst 0, 1) := by decide +kernel
theorem dX8_init_77 : decode cX8_init 77 = .ok (.putfield 46, 3) := by decide +kernel
theorem dX8_init_80 : decode cX8_init 80 = .ok (.iconst 0, 1) := by decide +kernel
theorem dX8_init_81 : decode cX8_init 81 = .ok (.istore_n 1, 1) := by decide +kernel
theorem dX8_init_82 : decode cX8_init 82 = .ok (.iload_n 1, 1) := by decide +kernel
theorem dX8_init_83 : decode cX8_init 83 = .ok (.iconst 4, 1) := by decide +kernel
theorem dX8_init_84 : decode cX8_init 84 = .ok (.if_icmp .ge 22, 3) := by decide +kernel
theorem dX8_init_87 : decode cX8_init 87 = .ok (.aload_n 0, 1) := by decide +kernel
theorem dX8_init_88 : decode cX8_init 88 = .ok (.getfield 38, 3) := by decide +kernel
theorem dX8_init_91 : decode cX8_init 91 = .ok (.iload_n 1, 1) := by decide +kernel
theorem dX8_init_92 : decode cX8_init 92 = .ok (.new 36, 3) := by decide +kernel
theorem dX8_init_95 : decode cX8_init 95 = .ok (.dup, 1) := by decide +kernel
theorem dX8_init_96 : decode cX8_init 96 = .ok (.invokespecial 50, 3) := by decide +kernel
theorem dX8_init_99 : decode cX8_init 99 = .ok (.aastore, 1) := by decide +kernel
theorem dX8_init_100 : decode cX8_init 100 = .ok (.iinc 1 1, 3) := by decide +kernel
theorem dX8_init_103 : decode cX8_init 103 = .ok (.goto (-21), 3) := by decide +kernel
theorem dX8_init_106 : decode cX8_init 106 = .ok (.return_, 1) := by decide +kernel
theorem dX8_seat_0 : decode cX8_seat 0 = .ok (.iload_n 1, 1) := by decide +kernel
theorem dX8_seat_1 : decode cX8_seat 1 = .ok (.invokestatic 51, 3) := by decide +kernel
theorem dX8_seat_4 : decode cX8_seat 4 = .ok (.ifCond .eq 24, 3) := by decide +kernel
theorem dX8_seat_7 : decode cX8_seat 7 = .ok (.iload_n 2, 1) := by decide +kernel
theorem dX8_seat_8 : decode cX8_seat 8 = .ok (.ifCond .lt 20, 3) := by decide +kernel
theorem dX8_seat_11 : decode cX8_seat 11 = .ok (.iload_n 2, 1) := by decide +kernel
theorem dX8_seat_12 : decode cX8_seat 12 = .ok (.iconst 2, 1) := by decide +kernel
theorem dX8_seat_13 : decode cX8_seat 13 = .ok (.if_icmp .gt 15, 3) := by decide +kernel
theorem dX8_seat_16 : decode cX8_seat 16 = .ok (.iload_n 3, 1) := by decide +kernel
theorem dX8_seat_17 : decode cX8_seat 17 = .ok (.ifCond .lt 11, 3) := by decide +kernel
theorem dX8_seat_20 : decode cX8_seat 20 = .ok (.iload_n 3, 1) := by decide +kernel
theorem dX8_seat_21 : decode cX8_seat 21 = .ok (.iload_n 2, 1) := by decide +kernel
theorem dX8_seat_22 : decode cX8_seat 22 = .ok (.invokestatic 55, 3) := by decide +kernel
theorem dX8_seat_25 : decode cX8_seat 25 = .ok (.if_icmp .le 9, 3) := by decide +kernel
theorem dX8_seat_28 : decode cX8_seat 28 = .ok (.aload_n 0, 1) := by decide +kernel
theorem dX8_seat_29 : decode cX8_seat 29 = .ok (.iconst 0, 1) := by decide +kernel
theorem dX8_seat_30 : decode cX8_seat 30 = .ok (.invokevirtual 61, 3) := by decide +kernel
theorem dX8_seat_33 : decode cX8_seat 33 = .ok (.ireturn, 1) := by decide +kernel
theorem dX8_seat_34 : decode cX8_seat 34 = .ok (.aload_n 0, 1) := by decide +kernel
theorem dX8_seat_35 : decode cX8_seat 35 = .ok (.getfield 10, 3) := by decide +kernel
theorem dX8_seat_38 : decode cX8_seat 38 = .ok (.getfield 64, 3) := by decide +kernel
theorem dX8_seat_41 : decode cX8_seat 41 = .ok (.iload_n 1, 1) := by decide +kernel
theorem dX8_seat_42 : decode cX8_seat 42 = .ok (.aaload, 1) := by decide +kernel
theorem dX8_seat_43 : decode cX8_seat 43 = .ok (.iload_n 2, 1) := by decide +kernel
theorem dX8_seat_44 : decode cX8_seat 44 = .ok (.invokevirtual 68, 3) := by decide +kernel
theorem dX8_seat_47 : decode cX8_seat 47 = .ok (.istore 4, 2) := by decide +kernel
theorem dX8_seat_49 : decode cX8_seat 49 = .ok (.aload_n 0, 1) := by decide +kernel
theorem dX8_seat_50 : decode cX8_seat 50 = .ok (.getfield 10, 3) := by decide +kernel
theorem dX8_seat_53 : decode cX8_seat 53 = .ok (.getfield 64, 3) := by decide +kernel
theorem dX8_seat_56 : decode cX8_seat 56 = .ok (.iload_n 1, 1) := by decide +kernel
theorem dX8_seat_57 : decode cX8_seat 57 = .ok (.aaload, 1) := by decide +kernel
theorem dX8_seat_58 : decode cX8_seat 58 = .ok (.iload_n 2, 1) := by decide +kernel
theorem dX8_seat_59 : decode cX8_seat 59 = .ok (.iload_n 3, 1) := by decide +kernel
theorem dX8_seat_60 : decode cX8_seat 60 = .ok (.invokevirtual 71, 3) := by decide +kernel
theorem dX8_seat_63 : decode cX8_seat 63 = .ok (.iload 4, 2) := by decide +kernel
theorem dX8_seat_65 : decode cX8_seat 65 = .ok (.ireturn, 1) := by decide +kernel
theorem dX8_seatOf_0 : decode cX8_seatOf 0 = .ok (.iload_n 1, 1) := by decide +kernel
theorem dX8_seatOf_1 : decode cX8_seatOf 1 = .ok (.invokestatic 51, 3) := by decide +kernel
theorem dX8_seatOf_4 : decode cX8_seatOf 4 = .ok (.ifCond .eq 12, 3) := by decide +kernel
theorem dX8_seatOf_7 : decode cX8_seatOf 7 = .ok (.iload_n 2, 1) := by decide +kernel
theorem dX8_seatOf_8 : decode cX8_seatOf 8 = .ok (.ifCond .lt 8, 3) := by decide +kernel
theorem dX8_seatOf_11 : decode cX8_seatOf 11 = .ok (.iload_n 2, 1) := by decide +kernel
theorem dX8_seatOf_12 : decode cX8_seatOf 12 = .ok (.iconst 4, 1) := by decide +kernel
theorem dX8_seatOf_13 : decode cX8_seatOf 13 = .ok (.if_icmp .le 9, 3) := by decide +kernel
theorem dX8_seatOf_16 : decode cX8_seatOf 16 = .ok (.aload_n 0, 1) := by decide +kernel
theorem dX8_seatOf_17 : decode cX8_seatOf 17 = .ok (.iconst 0, 1) := by decide +kernel
theorem dX8_seatOf_18 : decode cX8_seatOf 18 = .ok (.invokevirtual 61, 3) := by decide +kernel
theorem dX8_seatOf_21 : decode cX8_seatOf 21 = .ok (.ireturn, 1) := by decide +kernel
theorem dX8_seatOf_22 : decode cX8_seatOf 22 = .ok (.aload_n 0, 1) := by decide +kernel
theorem dX8_seatOf_23 : decode cX8_seatOf 23 = .ok (.getfield 10, 3) := by decide +kernel
theorem dX8_seatOf_26 : decode cX8_seatOf 26 = .ok (.getfield 64, 3) := by decide +kernel
theorem dX8_seatOf_29 : decode cX8_seatOf 29 = .ok (.iload_n 1, 1) := by decide +kernel
theorem dX8_seatOf_30 : decode cX8_seatOf 30 = .ok (.aaload, 1) := by decide +kernel
theorem dX8_seatOf_31 : decode cX8_seatOf 31 = .ok (.iload_n 2, 1) := by decide +kernel
theorem dX8_seatOf_32 : decode cX8_seatOf 32 = .ok (.invokevirtual 68, 3) := by decide +kernel
theorem dX8_seatOf_35 : decode cX8_seatOf 35 = .ok (.ireturn, 1) := by decide +kernel
theorem dX8_rain_0 : decode cX8_rain 0 = .ok (.iload_n 1, 1) := by decide +kernel
theorem dX8_rain_1 : decode cX8_rain 1 = .ok (.ifCond .lt 9, 3) := by decide +kernel
theorem dX8_rain_4 : decode cX8_rain 4 = .ok (.iload_n 1, 1) := by decide +kernel
theorem dX8_rain_5 : decode cX8_rain 5 = .ok (.bipush 9, 2) := by decide +kernel
theorem dX8_rain_7 : decode cX8_rain 7 = .ok (.if_icmp .le 9, 3) := by decide +kernel
theorem dX8_rain_10 : decode cX8_rain 10 = .ok (.aload_n 0, 1) := by decide +kernel
theorem dX8_rain_11 : decode cX8_rain 11 = .ok (.iconst 0, 1) := by decide +kernel
theorem dX8_rain_12 : decode cX8_rain 12 = .ok (.invokevirtual 61, 3) := by decide +kernel
theorem dX8_rain_15 : decode cX8_rain 15 = .ok (.ireturn, 1) := by decide +kernel
theorem dX8_rain_16 : decode cX8_rain 16 = .ok (.aload_n 0, 1) := by decide +kernel
theorem dX8_rain_17 : decode cX8_rain 17 = .ok (.getfield 10, 3) := by decide +kernel
theorem dX8_rain_20 : decode cX8_rain 20 = .ok (.getfield 75, 3) := by decide +kernel
theorem dX8_rain_23 : decode cX8_rain 23 = .ok (.istore_n 2, 1) := by decide +kernel
theorem dX8_rain_24 : decode cX8_rain 24 = .ok (.aload_n 0, 1) := by decide +kernel
theorem dX8_rain_25 : decode cX8_rain 25 = .ok (.getfield 10, 3) := by decide +kernel
theorem dX8_rain_28 : decode cX8_rain 28 = .ok (.iload_n 1, 1) := by decide +kernel
theorem dX8_rain_29 : decode cX8_rain 29 = .ok (.putfield 75, 3) := by decide +kernel
theorem dX8_rain_32 : decode cX8_rain 32 = .ok (.iload_n 2, 1) := by decide +kernel
theorem dX8_rain_33 : decode cX8_rain 33 = .ok (.ireturn, 1) := by decide +kernel
theorem dX8_child_0 : decode cX8_child 0 = .ok (.iload_n 1, 1) := by decide +kernel
theorem dX8_child_1 : decode cX8_child 1 = .ok (.invokestatic 79, 3) := by decide +kernel
theorem dX8_child_4 : decode cX8_child 4 = .ok (.ifCond .ne 9, 3) := by decide +kernel
theorem dX8_child_7 : decode cX8_child 7 = .ok (.aload_n 0, 1) := by decide +kernel
theorem dX8_child_8 : decode cX8_child 8 = .ok (.iconst 0, 1) := by decide +kernel
theorem dX8_child_9 : decode cX8_child 9 = .ok (.invokevirtual 61, 3) := by decide +kernel
theorem dX8_child_12 : decode cX8_child 12 = .ok (.ireturn, 1) := by decide +kernel
theorem dX8_child_13 : decode cX8_child 13 = .ok (.aload_n 0, 1) := by decide +kernel
theorem dX8_child_14 : decode cX8_child 14 = .ok (.getfield 10, 3) := by decide +kernel
theorem dX8_child_17 : decode cX8_child 17 = .ok (.invokevirtual 82, 3) := by decide +kernel
theorem dX8_child_20 : decode cX8_child 20 = .ok (.ifCond .eq 9, 3) := by decide +kernel
theorem dX8_child_23 : decode cX8_child 23 = .ok (.aload_n 0, 1) := by decide +kernel
theorem dX8_child_24 : decode cX8_child 24 = .ok (.iconst 1, 1) := by decide +kernel
theorem dX8_child_25 : decode cX8_child 25 = .ok (.invokevirtual 61, 3) := by decide +kernel
theorem dX8_child_28 : decode cX8_child 28 = .ok (.ireturn, 1) := by decide +kernel
theorem dX8_child_29 : decode cX8_child 29 = .ok (.aload_n 0, 1) := by decide +kernel
theorem dX8_child_30 : decode cX8_child 30 = .ok (.getfield 10, 3) := by decide +kernel
theorem dX8_child_33 : decode cX8_child 33 = .ok (.iload_n 1, 1) := by decide +kernel
theorem dX8_child_34 : decode cX8_child 34 = .ok (.invokevirtual 86, 3) := by decide +kernel
theorem dX8_child_37 : decode cX8_child 37 = .ok (.ireturn, 1) := by decide +kernel
theorem dX8_of_0 : decode cX8_of 0 = .ok (.aload_n 0, 1) := by decide +kernel
theorem dX8_of_1 : decode cX8_of 1 = .ok (.getfield 10, 3) := by decide +kernel
theorem dX8_of_4 : decode cX8_of 4 = .ok (.iload_n 1, 1) := by decide +kernel
theorem dX8_of_5 : decode cX8_of 5 = .ok (.invokevirtual 89, 3) := by decide +kernel
theorem dX8_of_8 : decode cX8_of 8 = .ok (.ifCond .eq 13, 3) := by decide +kernel
theorem dX8_of_11 : decode cX8_of 11 = .ok (.iload_n 2, 1) := by decide +kernel
theorem dX8_of_12 : decode cX8_of 12 = .ok (.ifCond .lt 9, 3) := by decide +kernel
theorem dX8_of_15 : decode cX8_of 15 = .ok (.iload_n 2, 1) := by decide +kernel
theorem dX8_of_16 : decode cX8_of 16 = .ok (.bipush 7, 2) := by decide +kernel
theorem dX8_of_18 : decode cX8_of 18 = .ok (.if_icmp .le 9, 3) := by decide +kernel
theorem dX8_of_21 : decode cX8_of 21 = .ok (.aload_n 0, 1) := by decide +kernel
theorem dX8_of_22 : decode cX8_of 22 = .ok (.iconst 0, 1) := by decide +kernel
theorem dX8_of_23 : decode cX8_of 23 = .ok (.invokevirtual 61, 3) := by decide +kernel
theorem dX8_of_26 : decode cX8_of 26 = .ok (.ireturn, 1) := by decide +kernel
theorem dX8_of_27 : decode cX8_of 27 = .ok (.iload_n 2, 1) := by decide +kernel
theorem dX8_of_28 : decode cX8_of 28 = .ok (.bipush 7, 2) := by decide +kernel
theorem dX8_of_30 : decode cX8_of 30 = .ok (.if_icmp .ne 20, 3) := by decide +kernel
theorem dX8_of_33 : decode cX8_of 33 = .ok (.aload_n 0, 1) := by decide +kernel
theorem dX8_of_34 : decode cX8_of 34 = .ok (.getfield 10, 3) := by decide +kernel
theorem dX8_of_37 : decode cX8_of 37 = .ok (.aload_n 0, 1) := by decide +kernel
theorem dX8_of_38 : decode cX8_of 38 = .ok (.getfield 10, 3) := by decide +kernel
theorem dX8_of_41 : decode cX8_of 41 = .ok (.getfield 92, 3) := by decide +kernel
theorem dX8_of_44 : decode cX8_of 44 = .ok (.iload_n 1, 1) := by decide +kernel
theorem dX8_of_45 : decode cX8_of 45 = .ok (.aaload, 1) := by decide +kernel
theorem dX8_of_46 : decode cX8_of 46 = .ok (.invokevirtual 96, 3) := by decide +kernel
theorem dX8_of_49 : decode cX8_of 49 = .ok (.ireturn, 1) := by decide +kernel
theorem dX8_of_50 : decode cX8_of 50 = .ok (.aload_n 0, 1) := by decide +kernel
theorem dX8_of_51 : decode cX8_of 51 = .ok (.getfield 10, 3) := by decide +kernel
theorem dX8_of_54 : decode cX8_of 54 = .ok (.getfield 92, 3) := by decide +kernel
theorem dX8_of_57 : decode cX8_of 57 = .ok (.iload_n 1, 1) := by decide +kernel
theorem dX8_of_58 : decode cX8_of 58 = .ok (.aaload, 1) := by decide +kernel
theorem dX8_of_59 : decode cX8_of 59 = .ok (.iload_n 2, 1) := by decide +kernel
theorem dX8_of_60 : decode cX8_of 60 = .ok (.invokevirtual 100, 3) := by decide +kernel
theorem dX8_of_63 : decode cX8_of 63 = .ok (.ireturn, 1) := by decide +kernel
theorem dX8_set_0 : decode cX8_set 0 = .ok (.aload_n 0, 1) := by decide +kernel
theorem dX8_set_1 : decode cX8_set 1 = .ok (.getfield 10, 3) := by decide +kernel
theorem dX8_set_4 : decode cX8_set 4 = .ok (.iload_n 1, 1) := by decide +kernel
theorem dX8_set_5 : decode cX8_set 5 = .ok (.invokevirtual 89, 3) := by decide +kernel
theorem dX8_set_8 : decode cX8_set 8 = .ok (.ifCond .eq 25, 3) := by decide +kernel
theorem dX8_set_11 : decode cX8_set 11 = .ok (.iload_n 2, 1) := by decide +kernel
theorem dX8_set_12 : decode cX8_set 12 = .ok (.iconst 1, 1) := by decide +kernel
theorem dX8_set_13 : decode cX8_set 13 = .ok (.if_icmp .lt 20, 3) := by decide +kernel
theorem dX8_set_16 : decode cX8_set 16 = .ok (.iload_n 2, 1) := by decide +kernel
theorem dX8_set_17 : decode cX8_set 17 = .ok (.iconst 4, 1) := by decide +kernel
theorem dX8_set_18 : decode cX8_set 18 = .ok (.if_icmp .gt 15, 3) := by decide +kernel
theorem dX8_set_21 : decode cX8_set 21 = .ok (.iload_n 3, 1) := by decide +kernel
theorem dX8_set_22 : decode cX8_set 22 = .ok (.ifCond .lt 11, 3) := by decide +kernel
theorem dX8_set_25 : decode cX8_set 25 = .ok (.iload_n 3, 1) := by decide +kernel
theorem dX8_set_26 : decode cX8_set 26 = .ok (.iload_n 2, 1) := by decide +kernel
theorem dX8_set_27 : decode cX8_set 27 = .ok (.invokestatic 103, 3) := by decide +kernel
theorem dX8_set_30 : decode cX8_set 30 = .ok (.if_icmp .le 9, 3) := by decide +kernel
theorem dX8_set_33 : decode cX8_set 33 = .ok (.aload_n 0, 1) := by decide +kernel
theorem dX8_set_34 : decode cX8_set 34 = .ok (.iconst 0, 1) := by decide +kernel
theorem dX8_set_35 : decode cX8_set 35 = .ok (.invokevirtual 61, 3) := by decide +kernel
theorem dX8_set_38 : decode cX8_set 38 = .ok (.ireturn, 1) := by decide +kernel
theorem dX8_set_39 : decode cX8_set 39 = .ok (.aload_n 0, 1) := by decide +kernel
theorem dX8_set_40 : decode cX8_set 40 = .ok (.getfield 10, 3) := by decide +kernel
theorem dX8_set_43 : decode cX8_set 43 = .ok (.getfield 92, 3) := by decide +kernel
theorem dX8_set_46 : decode cX8_set 46 = .ok (.iload_n 1, 1) := by decide +kernel
theorem dX8_set_47 : decode cX8_set 47 = .ok (.aaload, 1) := by decide +kernel
theorem dX8_set_48 : decode cX8_set 48 = .ok (.iload_n 2, 1) := by decide +kernel
theorem dX8_set_49 : decode cX8_set 49 = .ok (.invokevirtual 100, 3) := by decide +kernel
theorem dX8_set_52 : decode cX8_set 52 = .ok (.istore 4, 2) := by decide +kernel
theorem dX8_set_54 : decode cX8_set 54 = .ok (.aload_n 0, 1) := by decide +kernel
theorem dX8_set_55 : decode cX8_set 55 = .ok (.getfield 10, 3) := by decide +kernel
theorem dX8_set_58 : decode cX8_set 58 = .ok (.getfield 92, 3) := by decide +kernel
theorem dX8_set_61 : decode cX8_set 61 = .ok (.iload_n 1, 1) := by decide +kernel
theorem dX8_set_62 : decode cX8_set 62 = .ok (.aaload, 1) := by decide +kernel
theorem dX8_set_63 : decode cX8_set 63 = .ok (.iload_n 2, 1) := by decide +kernel
theorem dX8_set_64 : decode cX8_set 64 = .ok (.iload_n 3, 1) := by decide +kernel
theorem dX8_set_65 : decode cX8_set 65 = .ok (.invokevirtual 104, 3) := by decide +kernel
theorem dX8_set_68 : decode cX8_set 68 = .ok (.iload 4, 2) := by decide +kernel
theorem dX8_set_70 : decode cX8_set 70 = .ok (.ireturn, 1) := by decide +kernel
theorem dX8_turn_0 : decode cX8_turn 0 = .ok (.aload_n 0, 1) := by decide +kernel
theorem dX8_turn_1 : decode cX8_turn 1 = .ok (.getfield 10, 3) := by decide +kernel
theorem dX8_turn_4 : decode cX8_turn 4 = .ok (.iload_n 1, 1) := by decide +kernel
theorem dX8_turn_5 : decode cX8_turn 5 = .ok (.invokevirtual 89, 3) := by decide +kernel
theorem dX8_turn_8 : decode cX8_turn 8 = .ok (.ifCond .eq 10, 3) := by decide +kernel
theorem dX8_turn_11 : decode cX8_turn 11 = .ok (.iload_n 2, 1) := by decide +kernel
theorem dX8_turn_12 : decode cX8_turn 12 = .ok (.invokestatic 79, 3) := by decide +kernel
theorem dX8_turn_15 : decode cX8_turn 15 = .ok (.ifCond .ne 9, 3) := by decide +kernel
theorem dX8_turn_18 : decode cX8_turn 18 = .ok (.aload_n 0, 1) := by decide +kernel
theorem dX8_turn_19 : decode cX8_turn 19 = .ok (.iconst 0, 1) := by decide +kernel
theorem dX8_turn_20 : decode cX8_turn 20 = .ok (.invokevirtual 61, 3) := by decide +kernel
theorem dX8_turn_23 : decode cX8_turn 23 = .ok (.ireturn, 1) := by decide +kernel
theorem dX8_turn_24 : decode cX8_turn 24 = .ok (.aload_n 0, 1) := by decide +kernel
theorem dX8_turn_25 : decode cX8_turn 25 = .ok (.getfield 10, 3) := by decide +kernel
theorem dX8_turn_28 : decode cX8_turn 28 = .ok (.getfield 92, 3) := by decide +kernel
theorem dX8_turn_31 : decode cX8_turn 31 = .ok (.iload_n 1, 1) := by decide +kernel
theorem dX8_turn_32 : decode cX8_turn 32 = .ok (.aaload, 1) := by decide +kernel
theorem dX8_turn_33 : decode cX8_turn 33 = .ok (.getfield 105, 3) := by decide +kernel
theorem dX8_turn_36 : decode cX8_turn 36 = .ok (.istore_n 3, 1) := by decide +kernel
theorem dX8_turn_37 : decode cX8_turn 37 = .ok (.aload_n 0, 1) := by decide +kernel
theorem dX8_turn_38 : decode cX8_turn 38 = .ok (.getfield 10, 3) := by decide +kernel
theorem dX8_turn_41 : decode cX8_turn 41 = .ok (.getfield 92, 3) := by decide +kernel
theorem dX8_turn_44 : decode cX8_turn 44 = .ok (.iload_n 1, 1) := by decide +kernel
theorem dX8_turn_45 : decode cX8_turn 45 = .ok (.aaload, 1) := by decide +kernel
theorem dX8_turn_46 : decode cX8_turn 46 = .ok (.iload_n 2, 1) := by decide +kernel
theorem dX8_turn_47 : decode cX8_turn 47 = .ok (.putfield 105, 3) := by decide +kernel
theorem dX8_turn_50 : decode cX8_turn 50 = .ok (.iload_n 3, 1) := by decide +kernel
theorem dX8_turn_51 : decode cX8_turn 51 = .ok (.ireturn, 1) := by decide +kernel
theorem dX8_as_0 : decode cX8_as 0 = .ok (.aload_n 0, 1) := by decide +kernel
theorem dX8_as_1 : decode cX8_as 1 = .ok (.getfield 10, 3) := by decide +kernel
theorem dX8_as_4 : decode cX8_as 4 = .ok (.iload_n 1, 1) := by decide +kernel
theorem dX8_as_5 : decode cX8_as 5 = .ok (.invokevirtual 89, 3) := by decide +kernel
theorem dX8_as_8 : decode cX8_as 8 = .ok (.ifCond .eq 10, 3) := by decide +kernel
theorem dX8_as_11 : decode cX8_as 11 = .ok (.iload_n 2, 1) := by decide +kernel
theorem dX8_as_12 : decode cX8_as 12 = .ok (.invokestatic 79, 3) := by decide +kernel
theorem dX8_as_15 : decode cX8_as 15 = .ok (.ifCond .ne 9, 3) := by decide +kernel
theorem dX8_as_18 : decode cX8_as 18 = .ok (.aload_n 0, 1) := by decide +kernel
theorem dX8_as_19 : decode cX8_as 19 = .ok (.iconst 0, 1) := by decide +kernel
theorem dX8_as_20 : decode cX8_as 20 = .ok (.invokevirtual 61, 3) := by decide +kernel
theorem dX8_as_23 : decode cX8_as 23 = .ok (.ireturn, 1) := by decide +kernel
theorem dX8_as_24 : decode cX8_as 24 = .ok (.aload_n 0, 1) := by decide +kernel
theorem dX8_as_25 : decode cX8_as 25 = .ok (.getfield 10, 3) := by decide +kernel
theorem dX8_as_28 : decode cX8_as 28 = .ok (.getfield 92, 3) := by decide +kernel
theorem dX8_as_31 : decode cX8_as 31 = .ok (.iload_n 1, 1) := by decide +kernel
theorem dX8_as_32 : decode cX8_as 32 = .ok (.aaload, 1) := by decide +kernel
theorem dX8_as_33 : decode cX8_as 33 = .ok (.getfield 105, 3) := by decide +kernel
theorem dX8_as_36 : decode cX8_as 36 = .ok (.iload_n 2, 1) := by decide +kernel
theorem dX8_as_37 : decode cX8_as 37 = .ok (.invokestatic 108, 3) := by decide +kernel
theorem dX8_as_40 : decode cX8_as 40 = .ok (.ifCond .ne 9, 3) := by decide +kernel
theorem dX8_as_43 : decode cX8_as 43 = .ok (.aload_n 0, 1) := by decide +kernel
theorem dX8_as_44 : decode cX8_as 44 = .ok (.iconst 2, 1) := by decide +kernel
theorem dX8_as_45 : decode cX8_as 45 = .ok (.invokevirtual 61, 3) := by decide +kernel
theorem dX8_as_48 : decode cX8_as 48 = .ok (.ireturn, 1) := by decide +kernel
theorem dX8_as_49 : decode cX8_as 49 = .ok (.aload_n 0, 1) := by decide +kernel
theorem dX8_as_50 : decode cX8_as 50 = .ok (.getfield 10, 3) := by decide +kernel
theorem dX8_as_53 : decode cX8_as 53 = .ok (.getfield 92, 3) := by decide +kernel
theorem dX8_as_56 : decode cX8_as 56 = .ok (.iload_n 1, 1) := by decide +kernel
theorem dX8_as_57 : decode cX8_as 57 = .ok (.aaload, 1) := by decide +kernel
theorem dX8_as_58 : decode cX8_as 58 = .ok (.getfield 114, 3) := by decide +kernel
theorem dX8_as_61 : decode cX8_as 61 = .ok (.ireturn, 1) := by decide +kernel
theorem dX8_seconds_0 : decode cX8_seconds 0 = .ok (.aload_n 0, 1) := by decide +kernel
theorem dX8_seconds_1 : decode cX8_seconds 1 = .ok (.getfield 10, 3) := by decide +kernel
theorem dX8_seconds_4 : decode cX8_seconds 4 = .ok (.iload_n 1, 1) := by decide +kernel
theorem dX8_seconds_5 : decode cX8_seconds 5 = .ok (.invokevirtual 89, 3) := by decide +kernel
theorem dX8_seconds_8 : decode cX8_seconds 8 = .ok (.ifCond .eq 10, 3) := by decide +kernel
theorem dX8_seconds_11 : decode cX8_seconds 11 = .ok (.iload_n 2, 1) := by decide +kernel
theorem dX8_seconds_12 : decode cX8_seconds 12 = .ok (.invokestatic 51, 3) := by decide +kernel
theorem dX8_seconds_15 : decode cX8_seconds 15 = .ok (.ifCond .ne 9, 3) := by decide +kernel
theorem dX8_seconds_18 : decode cX8_seconds 18 = .ok (.aload_n 0, 1) := by decide +kernel
theorem dX8_seconds_19 : decode cX8_seconds 19 = .ok (.iconst 0, 1) := by decide +kernel
theorem dX8_seconds_20 : decode cX8_seconds 20 = .ok (.invokevirtual 61, 3) := by decide +kernel
theorem dX8_seconds_23 : decode cX8_seconds 23 = .ok (.ireturn, 1) := by decide +kernel
theorem dX8_seconds_24 : decode cX8_seconds 24 = .ok (.aload_n 0, 1) := by decide +kernel
theorem dX8_seconds_25 : decode cX8_seconds 25 = .ok (.getfield 10, 3) := by decide +kernel
theorem dX8_seconds_28 : decode cX8_seconds 28 = .ok (.iload_n 1, 1) := by decide +kernel
theorem dX8_seconds_29 : decode cX8_seconds 29 = .ok (.iload_n 2, 1) := by decide +kernel
theorem dX8_seconds_30 : decode cX8_seconds 30 = .ok (.invokevirtual 117, 3) := by decide +kernel
theorem dX8_seconds_33 : decode cX8_seconds 33 = .ok (.ireturn, 1) := by decide +kernel
theorem dX8_snug_0 : decode cX8_snug 0 = .ok (.aload_n 0, 1) := by decide +kernel
theorem dX8_snug_1 : decode cX8_snug 1 = .ok (.getfield 10, 3) := by decide +kernel
theorem dX8_snug_4 : decode cX8_snug 4 = .ok (.iload_n 1, 1) := by decide +kernel
theorem dX8_snug_5 : decode cX8_snug 5 = .ok (.invokevirtual 89, 3) := by decide +kernel
theorem dX8_snug_8 : decode cX8_snug 8 = .ok (.ifCond .eq 10, 3) := by decide +kernel
theorem dX8_snug_11 : decode cX8_snug 11 = .ok (.iload_n 2, 1) := by decide +kernel
theorem dX8_snug_12 : decode cX8_snug 12 = .ok (.invokestatic 51, 3) := by decide +kernel
theorem dX8_snug_15 : decode cX8_snug 15 = .ok (.ifCond .ne 9, 3) := by decide +kernel
theorem dX8_snug_18 : decode cX8_snug 18 = .ok (.aload_n 0, 1) := by decide +kernel
theorem dX8_snug_19 : decode cX8_snug 19 = .ok (.iconst 0, 1) := by decide +kernel
theorem dX8_snug_20 : decode cX8_snug 20 = .ok (.invokevirtual 61, 3) := by decide +kernel
theorem dX8_snug_23 : decode cX8_snug 23 = .ok (.ireturn, 1) := by decide +kernel
theorem dX8_snug_24 : decode cX8_snug 24 = .ok (.aload_n 0, 1) := by decide +kernel
theorem dX8_snug_25 : decode cX8_snug 25 = .ok (.getfield 10, 3) := by decide +kernel
theorem dX8_snug_28 : decode cX8_snug 28 = .ok (.iload_n 1, 1) := by decide +kernel
theorem dX8_snug_29 : decode cX8_snug 29 = .ok (.iload_n 2, 1) := by decide +kernel
theorem dX8_snug_30 : decode cX8_snug 30 = .ok (.invokevirtual 121, 3) := by decide +kernel
theorem dX8_snug_33 : decode cX8_snug 33 = .ok (.ireturn, 1) := by decide +kernel
theorem dX8_click_0 : decode cX8_click 0 = .ok (.aload_n 0, 1) := by decide +kernel
theorem dX8_click_1 : decode cX8_click 1 = .ok (.getfield 10, 3) := by decide +kernel
theorem dX8_click_4 : decode cX8_click 4 = .ok (.iload_n 1, 1) := by decide +kernel
theorem dX8_click_5 : decode cX8_click 5 = .ok (.invokevirtual 89, 3) := by decide +kernel
theorem dX8_click_8 : decode cX8_click 8 = .ok (.ifCond .eq 10, 3) := by decide +kernel
theorem dX8_click_11 : decode cX8_click 11 = .ok (.iload_n 2, 1) := by decide +kernel
theorem dX8_click_12 : decode cX8_click 12 = .ok (.invokestatic 51, 3) := by decide +kernel
theorem dX8_click_15 : decode cX8_click 15 = .ok (.ifCond .ne 9, 3) := by decide +kernel
theorem dX8_click_18 : decode cX8_click 18 = .ok (.aload_n 0, 1) := by decide +kernel
theorem dX8_click_19 : decode cX8_click 19 = .ok (.iconst 0, 1) := by decide +kernel
theorem dX8_click_20 : decode cX8_click 20 = .ok (.invokevirtual 61, 3) := by decide +kernel
theorem dX8_click_23 : decode cX8_click 23 = .ok (.ireturn, 1) := by decide +kernel
theorem dX8_click_24 : decode cX8_click 24 = .ok (.aload_n 0, 1) := by decide +kernel
theorem dX8_click_25 : decode cX8_click 25 = .ok (.getfield 10, 3) := by decide +kernel
theorem dX8_click_28 : decode cX8_click 28 = .ok (.getfield 92, 3) := by decide +kernel
theorem dX8_click_31 : decode cX8_click 31 = .ok (.iload_n 1, 1) := by decide +kernel
theorem dX8_click_32 : decode cX8_click 32 = .ok (.aaload, 1) := by decide +kernel
theorem dX8_click_33 : decode cX8_click 33 = .ok (.invokevirtual 124, 3) := by decide +kernel
theorem dX8_click_36 : decode cX8_click 36 = .ok (.ifCond .ne 18, 3) := by decide +kernel
theorem dX8_click_39 : decode cX8_click 39 = .ok (.aload_n 0, 1) := by decide +kernel
theorem dX8_click_40 : decode cX8_click 40 = .ok (.getfield 10, 3) := by decide +kernel
theorem dX8_click_43 : decode cX8_click 43 = .ok (.getfield 64, 3) := by decide +kernel
theorem dX8_click_46 : decode cX8_click 46 = .ok (.iload_n 2, 1) := by decide +kernel
theorem dX8_click_47 : decode cX8_click 47 = .ok (.aaload, 1) := by decide +kernel
theorem dX8_click_48 : decode cX8_click 48 = .ok (.invokevirtual 127, 3) := by decide +kernel
theorem dX8_click_51 : decode cX8_click 51 = .ok (.ifCond .eq 9, 3) := by decide +kernel
theorem dX8_click_54 : decode cX8_click 54 = .ok (.aload_n 0, 1) := by decide +kernel
theorem dX8_click_55 : decode cX8_click 55 = .ok (.iconst 4, 1) := by decide +kernel
theorem dX8_click_56 : decode cX8_click 56 = .ok (.invokevirtual 61, 3) := by decide +kernel
theorem dX8_click_59 : decode cX8_click 59 = .ok (.ireturn, 1) := by decide +kernel
theorem dX8_click_60 : decode cX8_click 60 = .ok (.aload_n 0, 1) := by decide +kernel
theorem dX8_click_61 : decode cX8_click 61 = .ok (.getfield 10, 3) := by decide +kernel
theorem dX8_click_64 : decode cX8_click 64 = .ok (.iload_n 1, 1) := by decide +kernel
theorem dX8_click_65 : decode cX8_click 65 = .ok (.iload_n 2, 1) := by decide +kernel
theorem dX8_click_66 : decode cX8_click 66 = .ok (.invokevirtual 130, 3) := by decide +kernel
theorem dX8_click_69 : decode cX8_click 69 = .ok (.aload_n 0, 1) := by decide +kernel
theorem dX8_click_70 : decode cX8_click 70 = .ok (.getfield 10, 3) := by decide +kernel
theorem dX8_click_73 : decode cX8_click 73 = .ok (.getfield 92, 3) := by decide +kernel
theorem dX8_click_76 : decode cX8_click 76 = .ok (.iload_n 1, 1) := by decide +kernel
theorem dX8_click_77 : decode cX8_click 77 = .ok (.aaload, 1) := by decide +kernel
theorem dX8_click_78 : decode cX8_click 78 = .ok (.getfield 133, 3) := by decide +kernel
theorem dX8_click_81 : decode cX8_click 81 = .ok (.ireturn, 1) := by decide +kernel
theorem dX8_letOut_0 : decode cX8_letOut 0 = .ok (.aload_n 0, 1) := by decide +kernel
theorem dX8_letOut_1 : decode cX8_letOut 1 = .ok (.getfield 10, 3) := by decide +kernel
theorem dX8_letOut_4 : decode cX8_letOut 4 = .ok (.iload_n 1, 1) := by decide +kernel
theorem dX8_letOut_5 : decode cX8_letOut 5 = .ok (.invokevirtual 89, 3) := by decide +kernel
theorem dX8_letOut_8 : decode cX8_letOut 8 = .ok (.ifCond .ne 9, 3) := by decide +kernel
theorem dX8_letOut_11 : decode cX8_letOut 11 = .ok (.aload_n 0, 1) := by decide +kernel
theorem dX8_letOut_12 : decode cX8_letOut 12 = .ok (.iconst 0, 1) := by decide +kernel
theorem dX8_letOut_13 : decode cX8_letOut 13 = .ok (.invokevirtual 61, 3) := by decide +kernel
theorem dX8_letOut_16 : decode cX8_letOut 16 = .ok (.ireturn, 1) := by decide +kernel
theorem dX8_letOut_17 : decode cX8_letOut 17 = .ok (.aload_n 0, 1) := by decide +kernel
theorem dX8_letOut_18 : decode cX8_letOut 18 = .ok (.getfield 10, 3) := by decide +kernel
theorem dX8_letOut_21 : decode cX8_letOut 21 = .ok (.getfield 92, 3) := by decide +kernel
theorem dX8_letOut_24 : decode cX8_letOut 24 = .ok (.iload_n 1, 1) := by decide +kernel
theorem dX8_letOut_25 : decode cX8_letOut 25 = .ok (.aaload, 1) := by decide +kernel
theorem dX8_letOut_26 : decode cX8_letOut 26 = .ok (.getfield 136, 3) := by decide +kernel
theorem dX8_letOut_29 : decode cX8_letOut 29 = .ok (.istore_n 2, 1) := by decide +kernel
theorem dX8_letOut_30 : decode cX8_letOut 30 = .ok (.iload_n 2, 1) := by decide +kernel
theorem dX8_letOut_31 : decode cX8_letOut 31 = .ok (.invokestatic 51, 3) := by decide +kernel
theorem dX8_letOut_34 : decode cX8_letOut 34 = .ok (.ifCond .ne 9, 3) := by decide +kernel
theorem dX8_letOut_37 : decode cX8_letOut 37 = .ok (.aload_n 0, 1) := by decide +kernel
theorem dX8_letOut_38 : decode cX8_letOut 38 = .ok (.iconst 4, 1) := by decide +kernel
theorem dX8_letOut_39 : decode cX8_letOut 39 = .ok (.invokevirtual 61, 3) := by decide +kernel
theorem dX8_letOut_42 : decode cX8_letOut 42 = .ok (.ireturn, 1) := by decide +kernel
theorem dX8_letOut_43 : decode cX8_letOut 43 = .ok (.aload_n 0, 1) := by decide +kernel
theorem dX8_letOut_44 : decode cX8_letOut 44 = .ok (.getfield 10, 3) := by decide +kernel
theorem dX8_letOut_47 : decode cX8_letOut 47 = .ok (.iload_n 2, 1) := by decide +kernel
theorem dX8_letOut_48 : decode cX8_letOut 48 = .ok (.invokevirtual 139, 3) := by decide +kernel
theorem dX8_letOut_51 : decode cX8_letOut 51 = .ok (.iload_n 2, 1) := by decide +kernel
theorem dX8_letOut_52 : decode cX8_letOut 52 = .ok (.ireturn, 1) := by decide +kernel
theorem dX8_bribe_0 : decode cX8_bribe 0 = .ok (.aload_n 0, 1) := by decide +kernel
theorem dX8_bribe_1 : decode cX8_bribe 1 = .ok (.getfield 10, 3) := by decide +kernel
theorem dX8_bribe_4 : decode cX8_bribe 4 = .ok (.iload_n 1, 1) := by decide +kernel
theorem dX8_bribe_5 : decode cX8_bribe 5 = .ok (.invokevirtual 89, 3) := by decide +kernel
theorem dX8_bribe_8 : decode cX8_bribe 8 = .ok (.ifCond .ne 9, 3) := by decide +kernel
theorem dX8_bribe_11 : decode cX8_bribe 11 = .ok (.aload_n 0, 1) := by decide +kernel
theorem dX8_bribe_12 : decode cX8_bribe 12 = .ok (.iconst 0, 1) := by decide +kernel
theorem dX8_bribe_13 : decode cX8_bribe 13 = .ok (.invokevirtual 61, 3) := by decide +kernel
theorem dX8_bribe_16 : decode cX8_bribe 16 = .ok (.ireturn, 1) := by decide +kernel
theorem dX8_bribe_17 : decode cX8_bribe 17 = .ok (.aload_n 0, 1) := by decide +kernel
theorem dX8_bribe_18 : decode cX8_bribe 18 = .ok (.getfield 10, 3) := by decide +kernel
theorem dX8_bribe_21 : decode cX8_bribe 21 = .ok (.iload_n 1, 1) := by decide +kernel
theorem dX8_bribe_22 : decode cX8_bribe 22 = .ok (.invokevirtual 143, 3) := by decide +kernel
theorem dX8_bribe_25 : decode cX8_bribe 25 = .ok (.aload_n 0, 1) := by decide +kernel
theorem dX8_bribe_26 : decode cX8_bribe 26 = .ok (.getfield 10, 3) := by decide +kernel
theorem dX8_bribe_29 : decode cX8_bribe 29 = .ok (.getfield 92, 3) := by decide +kernel
theorem dX8_bribe_32 : decode cX8_bribe 32 = .ok (.iload_n 1, 1) := by decide +kernel
theorem dX8_bribe_33 : decode cX8_bribe 33 = .ok (.aaload, 1) := by decide +kernel
theorem dX8_bribe_34 : decode cX8_bribe 34 = .ok (.getfield 114, 3) := by decide +kernel
theorem dX8_bribe_37 : decode cX8_bribe 37 = .ok (.ireturn, 1) := by decide +kernel
theorem dX8_drive_0 : decode cX8_drive 0 = .ok (.iload_n 1, 1) := by decide +kernel
theorem dX8_drive_1 : decode cX8_drive 1 = .ok (.iconst 1, 1) := by decide +kernel
theorem dX8_drive_2 : decode cX8_drive 2 = .ok (.if_icmp .lt 9, 3) := by decide +kernel
theorem dX8_drive_5 : decode cX8_drive 5 = .ok (.iload_n 1, 1) := by decide +kernel
theorem dX8_drive_6 : decode cX8_drive 6 = .ok (.bipush 60, 2) := by decide +kernel
theorem dX8_drive_8 : decode cX8_drive 8 = .ok (.if_icmp .le 9, 3) := by decide +kernel
theorem dX8_drive_11 : decode cX8_drive 11 = .ok (.aload_n 0, 1) := by decide +kernel
theorem dX8_drive_12 : decode cX8_drive 12 = .ok (.iconst 0, 1) := by decide +kernel
theorem dX8_drive_13 : decode cX8_drive 13 = .ok (.invokevirtual 61, 3) := by decide +kernel
theorem dX8_drive_16 : decode cX8_drive 16 = .ok (.ireturn, 1) := by decide +kernel
theorem dX8_drive_17 : decode cX8_drive 17 = .ok (.aload_n 0, 1) := by decide +kernel
theorem dX8_drive_18 : decode cX8_drive 18 = .ok (.getfield 10, 3) := by decide +kernel
theorem dX8_drive_21 : decode cX8_drive 21 = .ok (.getfield 146, 3) := by decide +kernel
theorem dX8_drive_24 : decode cX8_drive 24 = .ok (.iload_n 1, 1) := by decide +kernel
theorem dX8_drive_25 : decode cX8_drive 25 = .ok (.iadd, 1) := by decide +kernel
theorem dX8_drive_26 : decode cX8_drive 26 = .ok (.sipush 9999, 3) := by decide +kernel
theorem dX8_drive_29 : decode cX8_drive 29 = .ok (.if_icmp .le 9, 3) := by decide +kernel
theorem dX8_drive_32 : decode cX8_drive 32 = .ok (.aload_n 0, 1) := by decide +kernel
theorem dX8_drive_33 : decode cX8_drive 33 = .ok (.iconst 4, 1) := by decide +kernel
theorem dX8_drive_34 : decode cX8_drive 34 = .ok (.invokevirtual 61, 3) := by decide +kernel
theorem dX8_drive_37 : decode cX8_drive 37 = .ok (.ireturn, 1) := by decide +kernel
theorem dX8_drive_38 : decode cX8_drive 38 = .ok (.aload_n 0, 1) := by decide +kernel
theorem dX8_drive_39 : decode cX8_drive 39 = .ok (.getfield 10, 3) := by decide +kernel
theorem dX8_drive_42 : decode cX8_drive 42 = .ok (.iload_n 1, 1) := by decide +kernel
theorem dX8_drive_43 : decode cX8_drive 43 = .ok (.invokevirtual 149, 3) := by decide +kernel
theorem dX8_drive_46 : decode cX8_drive 46 = .ok (.aload_n 0, 1) := by decide +kernel
theorem dX8_drive_47 : decode cX8_drive 47 = .ok (.getfield 10, 3) := by decide +kernel
theorem dX8_drive_50 : decode cX8_drive 50 = .ok (.invokevirtual 152, 3) := by decide +kernel
theorem dX8_drive_53 : decode cX8_drive 53 = .ok (.ireturn, 1) := by decide +kernel
theorem dX8_now_0 : decode cX8_now 0 = .ok (.iload_n 1, 1) := by decide +kernel
theorem dX8_now_1 : decode cX8_now 1 = .ok (.tableswitch 87 0 5 #[39, 47, 55, 63, 71, 79], 39) := by decide +kernel
theorem dX8_now_40 : decode cX8_now 40 = .ok (.aload_n 0, 1) := by decide +kernel
theorem dX8_now_41 : decode cX8_now 41 = .ok (.getfield 10, 3) := by decide +kernel
theorem dX8_now_44 : decode cX8_now 44 = .ok (.getfield 146, 3) := by decide +kernel
theorem dX8_now_47 : decode cX8_now 47 = .ok (.ireturn, 1) := by decide +kernel
theorem dX8_now_48 : decode cX8_now 48 = .ok (.aload_n 0, 1) := by decide +kernel
theorem dX8_now_49 : decode cX8_now 49 = .ok (.getfield 10, 3) := by decide +kernel
theorem dX8_now_52 : decode cX8_now 52 = .ok (.getfield 156, 3) := by decide +kernel
theorem dX8_now_55 : decode cX8_now 55 = .ok (.ireturn, 1) := by decide +kernel
theorem dX8_now_56 : decode cX8_now 56 = .ok (.aload_n 0, 1) := by decide +kernel
theorem dX8_now_57 : decode cX8_now 57 = .ok (.getfield 10, 3) := by decide +kernel
theorem dX8_now_60 : decode cX8_now 60 = .ok (.getfield 75, 3) := by decide +kernel
theorem dX8_now_63 : decode cX8_now 63 = .ok (.ireturn, 1) := by decide +kernel
theorem dX8_now_64 : decode cX8_now 64 = .ok (.aload_n 0, 1) := by decide +kernel
theorem dX8_now_65 : decode cX8_now 65 = .ok (.getfield 10, 3) := by decide +kernel
theorem dX8_now_68 : decode cX8_now 68 = .ok (.invokevirtual 152, 3) := by decide +kernel
theorem dX8_now_71 : decode cX8_now 71 = .ok (.ireturn, 1) := by decide +kernel
theorem dX8_now_72 : decode cX8_now 72 = .ok (.aload_n 0, 1) := by decide +kernel
theorem dX8_now_73 : decode cX8_now 73 = .ok (.getfield 10, 3) := by decide +kernel
theorem dX8_now_76 : decode cX8_now 76 = .ok (.invokevirtual 159, 3) := by decide +kernel
theorem dX8_now_79 : decode cX8_now 79 = .ok (.ireturn, 1) := by decide +kernel
theorem dX8_now_80 : decode cX8_now 80 = .ok (.aload_n 0, 1) := by decide +kernel
theorem dX8_now_81 : decode cX8_now 81 = .ok (.getfield 10, 3) := by decide +kernel
theorem dX8_now_84 : decode cX8_now 84 = .ok (.invokevirtual 162, 3) := by decide +kernel
theorem dX8_now_87 : decode cX8_now 87 = .ok (.ireturn, 1) := by decide +kernel
theorem dX8_now_88 : decode cX8_now 88 = .ok (.aload_n 0, 1) := by decide +kernel
theorem dX8_now_89 : decode cX8_now 89 = .ok (.iconst 0, 1) := by decide +kernel
theorem dX8_now_90 : decode cX8_now 90 = .ok (.invokevirtual 61, 3) := by decide +kernel
theorem dX8_now_93 : decode cX8_now 93 = .ok (.ireturn, 1) := by decide +kernel
theorem dX8_on_0 : decode cX8_on 0 = .ok (.aload_n 0, 1) := by decide +kernel
theorem dX8_on_1 : decode cX8_on 1 = .ok (.getfield 10, 3) := by decide +kernel
theorem dX8_on_4 : decode cX8_on 4 = .ok (.iload_n 1, 1) := by decide +kernel
theorem dX8_on_5 : decode cX8_on 5 = .ok (.invokevirtual 89, 3) := by decide +kernel
theorem dX8_on_8 : decode cX8_on 8 = .ok (.ifCond .eq 22, 3) := by decide +kernel
theorem dX8_on_11 : decode cX8_on 11 = .ok (.iload_n 2, 1) := by decide +kernel
theorem dX8_on_12 : decode cX8_on 12 = .ok (.ifCond .lt 18, 3) := by decide +kernel
theorem dX8_on_15 : decode cX8_on 15 = .ok (.iload_n 2, 1) := by decide +kernel
theorem dX8_on_16 : decode cX8_on 16 = .ok (.bipush 60, 2) := by decide +kernel
theorem dX8_on_18 : decode cX8_on 18 = .ok (.if_icmp .gt 12, 3) := by decide +kernel
theorem dX8_on_21 : decode cX8_on 21 = .ok (.iload_n 3, 1) := by decide +kernel
theorem dX8_on_22 : decode cX8_on 22 = .ok (.ifCond .lt 8, 3) := by decide +kernel
theorem dX8_on_25 : decode cX8_on 25 = .ok (.iload_n 3, 1) := by decide +kernel
theorem dX8_on_26 : decode cX8_on 26 = .ok (.iconst 1, 1) := by decide +kernel
theorem dX8_on_27 : decode cX8_on 27 = .ok (.if_icmp .le 9, 3) := by decide +kernel
theorem dX8_on_30 : decode cX8_on 30 = .ok (.aload_n 0, 1) := by decide +kernel
theorem dX8_on_31 : decode cX8_on 31 = .ok (.iconst 0, 1) := by decide +kernel
theorem dX8_on_32 : decode cX8_on 32 = .ok (.invokevirtual 61, 3) := by decide +kernel
theorem dX8_on_35 : decode cX8_on 35 = .ok (.ireturn, 1) := by decide +kernel
theorem dX8_on_36 : decode cX8_on 36 = .ok (.aload_n 0, 1) := by decide +kernel
theorem dX8_on_37 : decode cX8_on 37 = .ok (.getfield 19, 3) := by decide +kernel
theorem dX8_on_40 : decode cX8_on 40 = .ok (.aload_n 0, 1) := by decide +kernel
theorem dX8_on_41 : decode cX8_on 41 = .ok (.getfield 10, 3) := by decide +kernel
theorem dX8_on_44 : decode cX8_on 44 = .ok (.invokevirtual 165, 3) := by decide +kernel
theorem dX8_on_47 : decode cX8_on 47 = .ok (.aload_n 0, 1) := by decide +kernel
theorem dX8_on_48 : decode cX8_on 48 = .ok (.getfield 19, 3) := by decide +kernel
theorem dX8_on_51 : decode cX8_on 51 = .ok (.iload_n 2, 1) := by decide +kernel
theorem dX8_on_52 : decode cX8_on 52 = .ok (.invokevirtual 149, 3) := by decide +kernel
theorem dX8_on_55 : decode cX8_on 55 = .ok (.iload_n 3, 1) := by decide +kernel
theorem dX8_on_56 : decode cX8_on 56 = .ok (.ifCond .ne 18, 3) := by decide +kernel
theorem dX8_on_59 : decode cX8_on 59 = .ok (.aload_n 0, 1) := by decide +kernel
theorem dX8_on_60 : decode cX8_on 60 = .ok (.getfield 19, 3) := by decide +kernel
theorem dX8_on_63 : decode cX8_on 63 = .ok (.getfield 92, 3) := by decide +kernel
theorem dX8_on_66 : decode cX8_on 66 = .ok (.iload_n 1, 1) := by decide +kernel
theorem dX8_on_67 : decode cX8_on 67 = .ok (.aaload, 1) := by decide +kernel
theorem dX8_on_68 : decode cX8_on 68 = .ok (.getfield 114, 3) := by decide +kernel
theorem dX8_on_71 : decode cX8_on 71 = .ok (.goto 15, 3) := by decide +kernel
theorem dX8_on_74 : decode cX8_on 74 = .ok (.aload_n 0, 1) := by decide +kernel
theorem dX8_on_75 : decode cX8_on 75 = .ok (.getfield 19, 3) := by decide +kernel
theorem dX8_on_78 : decode cX8_on 78 = .ok (.getfield 92, 3) := by decide +kernel
theorem dX8_on_81 : decode cX8_on 81 = .ok (.iload_n 1, 1) := by decide +kernel
theorem dX8_on_82 : decode cX8_on 82 = .ok (.aaload, 1) := by decide +kernel
theorem dX8_on_83 : decode cX8_on 83 = .ok (.getfield 133, 3) := by decide +kernel
theorem dX8_on_86 : decode cX8_on 86 = .ok (.ireturn, 1) := by decide +kernel
theorem dX8_out_0 : decode cX8_out 0 = .ok (.aload_n 0, 1) := by decide +kernel
theorem dX8_out_1 : decode cX8_out 1 = .ok (.getfield 10, 3) := by decide +kernel
theorem dX8_out_4 : decode cX8_out 4 = .ok (.iload_n 1, 1) := by decide +kernel
theorem dX8_out_5 : decode cX8_out 5 = .ok (.invokevirtual 89, 3) := by decide +kernel
theorem dX8_out_8 : decode cX8_out 8 = .ok (.ifCond .ne 9, 3) := by decide +kernel
theorem dX8_out_11 : decode cX8_out 11 = .ok (.aload_n 0, 1) := by decide +kernel
theorem dX8_out_12 : decode cX8_out 12 = .ok (.iconst 0, 1) := by decide +kernel
theorem dX8_out_13 : decode cX8_out 13 = .ok (.invokevirtual 61, 3) := by decide +kernel
theorem dX8_out_16 : decode cX8_out 16 = .ok (.ireturn, 1) := by decide +kernel
theorem dX8_out_17 : decode cX8_out 17 = .ok (.aload_n 0, 1) := by decide +kernel
theorem dX8_out_18 : decode cX8_out 18 = .ok (.getfield 10, 3) := by decide +kernel
theorem dX8_out_21 : decode cX8_out 21 = .ok (.getfield 92, 3) := by decide +kernel
theorem dX8_out_24 : decode cX8_out 24 = .ok (.iload_n 1, 1) := by decide +kernel
theorem dX8_out_25 : decode cX8_out 25 = .ok (.aaload, 1) := by decide +kernel
theorem dX8_out_26 : decode cX8_out 26 = .ok (.invokevirtual 124, 3) := by decide +kernel
theorem dX8_out_29 : decode cX8_out 29 = .ok (.ifCond .ne 9, 3) := by decide +kernel
theorem dX8_out_32 : decode cX8_out 32 = .ok (.aload_n 0, 1) := by decide +kernel
theorem dX8_out_33 : decode cX8_out 33 = .ok (.iconst 4, 1) := by decide +kernel
theorem dX8_out_34 : decode cX8_out 34 = .ok (.invokevirtual 61, 3) := by decide +kernel
theorem dX8_out_37 : decode cX8_out 37 = .ok (.ireturn, 1) := by decide +kernel
theorem dX8_out_38 : decode cX8_out 38 = .ok (.aload_n 0, 1) := by decide +kernel
theorem dX8_out_39 : decode cX8_out 39 = .ok (.getfield 19, 3) := by decide +kernel
theorem dX8_out_42 : decode cX8_out 42 = .ok (.aload_n 0, 1) := by decide +kernel
theorem dX8_out_43 : decode cX8_out 43 = .ok (.getfield 10, 3) := by decide +kernel
theorem dX8_out_46 : decode cX8_out 46 = .ok (.invokevirtual 165, 3) := by decide +kernel
theorem dX8_out_49 : decode cX8_out 49 = .ok (.iconst 1, 1) := by decide +kernel
theorem dX8_out_50 : decode cX8_out 50 = .ok (.istore_n 2, 1) := by decide +kernel
theorem dX8_out_51 : decode cX8_out 51 = .ok (.iload_n 2, 1) := by decide +kernel
theorem dX8_out_52 : decode cX8_out 52 = .ok (.bipush 60, 2) := by decide +kernel
theorem dX8_out_54 : decode cX8_out 54 = .ok (.if_icmp .gt 33, 3) := by decide +kernel
theorem dX8_out_57 : decode cX8_out 57 = .ok (.aload_n 0, 1) := by decide +kernel
theorem dX8_out_58 : decode cX8_out 58 = .ok (.getfield 19, 3) := by decide +kernel
theorem dX8_out_61 : decode cX8_out 61 = .ok (.invokevirtual 169, 3) := by decide +kernel
theorem dX8_out_64 : decode cX8_out 64 = .ok (.aload_n 0, 1) := by decide +kernel
theorem dX8_out_65 : decode cX8_out 65 = .ok (.getfield 19, 3) := by decide +kernel
theorem dX8_out_68 : decode cX8_out 68 = .ok (.getfield 92, 3) := by decide +kernel
theorem dX8_out_71 : decode cX8_out 71 = .ok (.iload_n 1, 1) := by decide +kernel
theorem dX8_out_72 : decode cX8_out 72 = .ok (.aaload, 1) := by decide +kernel
theorem dX8_out_73 : decode cX8_out 73 = .ok (.invokevirtual 124, 3) := by decide +kernel
theorem dX8_out_76 : decode cX8_out 76 = .ok (.ifCond .ne 5, 3) := by decide +kernel
theorem dX8_out_79 : decode cX8_out 79 = .ok (.iload_n 2, 1) := by decide +kernel
theorem dX8_out_80 : decode cX8_out 80 = .ok (.ireturn, 1) := by decide +kernel
theorem dX8_out_81 : decode cX8_out 81 = .ok (.iinc 2 1, 3) := by decide +kernel
theorem dX8_out_84 : decode cX8_out 84 = .ok (.goto (-33), 3) := by decide +kernel
theorem dX8_out_87 : decode cX8_out 87 = .ok (.aload_n 0, 1) := by decide +kernel
theorem dX8_out_88 : decode cX8_out 88 = .ok (.iconst 3, 1) := by decide +kernel
theorem dX8_out_89 : decode cX8_out 89 = .ok (.invokevirtual 61, 3) := by decide +kernel
theorem dX8_out_92 : decode cX8_out 92 = .ok (.ireturn, 1) := by decide +kernel
theorem dX8_firstOut_0 : decode cX8_firstOut 0 = .ok (.aload_n 0, 1) := by decide +kernel
theorem dX8_firstOut_1 : decode cX8_firstOut 1 = .ok (.getfield 19, 3) := by decide +kernel
theorem dX8_firstOut_4 : decode cX8_firstOut 4 = .ok (.aload_n 0, 1) := by decide +kernel
theorem dX8_firstOut_5 : decode cX8_firstOut 5 = .ok (.getfield 10, 3) := by decide +kernel
theorem dX8_firstOut_8 : decode cX8_firstOut 8 = .ok (.invokevirtual 165, 3) := by decide +kernel
theorem dX8_firstOut_11 : decode cX8_firstOut 11 = .ok (.aload_n 0, 1) := by decide +kernel
theorem dX8_firstOut_12 : decode cX8_firstOut 12 = .ok (.getfield 10, 3) := by decide +kernel
theorem dX8_firstOut_15 : decode cX8_firstOut 15 = .ok (.invokevirtual 152, 3) := by decide +kernel
theorem dX8_firstOut_18 : decode cX8_firstOut 18 = .ok (.istore_n 1, 1) := by decide +kernel
theorem dX8_firstOut_19 : decode cX8_firstOut 19 = .ok (.iconst 1, 1) := by decide +kernel
theorem dX8_firstOut_20 : decode cX8_firstOut 20 = .ok (.istore_n 2, 1) := by decide +kernel
theorem dX8_firstOut_21 : decode cX8_firstOut 21 = .ok (.iload_n 2, 1) := by decide +kernel
theorem dX8_firstOut_22 : decode cX8_firstOut 22 = .ok (.bipush 60, 2) := by decide +kernel
theorem dX8_firstOut_24 : decode cX8_firstOut 24 = .ok (.if_icmp .gt 29, 3) := by decide +kernel
theorem dX8_firstOut_27 : decode cX8_firstOut 27 = .ok (.aload_n 0, 1) := by decide +kernel
theorem dX8_firstOut_28 : decode cX8_firstOut 28 = .ok (.getfield 19, 3) := by decide +kernel
theorem dX8_firstOut_31 : decode cX8_firstOut 31 = .ok (.invokevirtual 169, 3) := by decide +kernel
theorem dX8_firstOut_34 : decode cX8_firstOut 34 = .ok (.aload_n 0, 1) := by decide +kernel
theorem dX8_firstOut_35 : decode cX8_firstOut 35 = .ok (.getfield 19, 3) := by decide +kernel
theorem dX8_firstOut_38 : decode cX8_firstOut 38 = .ok (.invokevirtual 152, 3) := by decide +kernel
theorem dX8_firstOut_41 : decode cX8_firstOut 41 = .ok (.iload_n 1, 1) := by decide +kernel
theorem dX8_firstOut_42 : decode cX8_firstOut 42 = .ok (.if_icmp .eq 5, 3) := by decide +kernel
theorem dX8_firstOut_45 : decode cX8_firstOut 45 = .ok (.iload_n 2, 1) := by decide +kernel
theorem dX8_firstOut_46 : decode cX8_firstOut 46 = .ok (.ireturn, 1) := by decide +kernel
theorem dX8_firstOut_47 : decode cX8_firstOut 47 = .ok (.iinc 2 1, 3) := by decide +kernel
theorem dX8_firstOut_50 : decode cX8_firstOut 50 = .ok (.goto (-29), 3) := by decide +kernel
theorem dX8_firstOut_53 : decode cX8_firstOut 53 = .ok (.aload_n 0, 1) := by decide +kernel
theorem dX8_firstOut_54 : decode cX8_firstOut 54 = .ok (.iconst 3, 1) := by decide +kernel
theorem dX8_firstOut_55 : decode cX8_firstOut 55 = .ok (.invokevirtual 61, 3) := by decide +kernel
theorem dX8_firstOut_58 : decode cX8_firstOut 58 = .ok (.ireturn, 1) := by decide +kernel
theorem dX8_quick_0 : decode cX8_quick 0 = .ok (.aload_n 0, 1) := by decide +kernel
theorem dX8_quick_1 : decode cX8_quick 1 = .ok (.getfield 10, 3) := by decide +kernel
theorem dX8_quick_4 : decode cX8_quick 4 = .ok (.iload_n 1, 1) := by decide +kernel
theorem dX8_quick_5 : decode cX8_quick 5 = .ok (.invokevirtual 89, 3) := by decide +kernel
theorem dX8_quick_8 : decode cX8_quick 8 = .ok (.ifCond .ne 9, 3) := by decide +kernel
theorem dX8_quick_11 : decode cX8_quick 11 = .ok (.aload_n 0, 1) := by decide +kernel
theorem dX8_quick_12 : decode cX8_quick 12 = .ok (.iconst 0, 1) := by decide +kernel
theorem dX8_quick_13 : decode cX8_quick 13 = .ok (.invokevirtual 61, 3) := by decide +kernel
theorem dX8_quick_16 : decode cX8_quick 16 = .ok (.ireturn, 1) := by decide +kernel
theorem dX8_quick_17 : decode cX8_quick 17 = .ok (.aload_n 0, 1) := by decide +kernel
theorem dX8_quick_18 : decode cX8_quick 18 = .ok (.getfield 10, 3) := by decide +kernel
theorem dX8_quick_21 : decode cX8_quick 21 = .ok (.getfield 92, 3) := by decide +kernel
theorem dX8_quick_24 : decode cX8_quick 24 = .ok (.iload_n 1, 1) := by decide +kernel
theorem dX8_quick_25 : decode cX8_quick 25 = .ok (.aaload, 1) := by decide +kernel
theorem dX8_quick_26 : decode cX8_quick 26 = .ok (.invokevirtual 124, 3) := by decide +kernel
theorem dX8_quick_29 : decode cX8_quick 29 = .ok (.ifCond .eq 9, 3) := by decide +kernel
theorem dX8_quick_32 : decode cX8_quick 32 = .ok (.aload_n 0, 1) := by decide +kernel
theorem dX8_quick_33 : decode cX8_quick 33 = .ok (.iconst 4, 1) := by decide +kernel
theorem dX8_quick_34 : decode cX8_quick 34 = .ok (.invokevirtual 61, 3) := by decide +kernel
theorem dX8_quick_37 : decode cX8_quick 37 = .ok (.ireturn, 1) := by decide +kernel
theorem dX8_quick_38 : decode cX8_quick 38 = .ok (.aload_n 0, 1) := by decide +kernel
theorem dX8_quick_39 : decode cX8_quick 39 = .ok (.getfield 10, 3) := by decide +kernel
theorem dX8_quick_42 : decode cX8_quick 42 = .ok (.iload_n 1, 1) := by decide +kernel
theorem dX8_quick_43 : decode cX8_quick 43 = .ok (.invokevirtual 172, 3) := by decide +kernel
theorem dX8_quick_46 : decode cX8_quick 46 = .ok (.istore_n 2, 1) := by decide +kernel
theorem dX8_quick_47 : decode cX8_quick 47 = .ok (.iload_n 2, 1) := by decide +kernel
theorem dX8_quick_48 : decode cX8_quick 48 = .ok (.iconst (-1), 1) := by decide +kernel
theorem dX8_quick_49 : decode cX8_quick 49 = .ok (.if_icmp .ne 11, 3) := by decide +kernel
theorem dX8_quick_52 : decode cX8_quick 52 = .ok (.aload_n 0, 1) := by decide +kernel
theorem dX8_quick_53 : decode cX8_quick 53 = .ok (.iconst 3, 1) := by decide +kernel
theorem dX8_quick_54 : decode cX8_quick 54 = .ok (.invokevirtual 61, 3) := by decide +kernel
theorem dX8_quick_57 : decode cX8_quick 57 = .ok (.goto 4, 3) := by decide +kernel
theorem dX8_quick_60 : decode cX8_quick 60 = .ok (.iload_n 2, 1) := by decide +kernel
theorem dX8_quick_61 : decode cX8_quick 61 = .ok (.ireturn, 1) := by decide +kernel
theorem dX8_safe_0 : decode cX8_safe 0 = .ok (.aload_n 0, 1) := by decide +kernel
theorem dX8_safe_1 : decode cX8_safe 1 = .ok (.getfield 10, 3) := by decide +kernel
theorem dX8_safe_4 : decode cX8_safe 4 = .ok (.iload_n 1, 1) := by decide +kernel
theorem dX8_safe_5 : decode cX8_safe 5 = .ok (.invokevirtual 89, 3) := by decide +kernel
theorem dX8_safe_8 : decode cX8_safe 8 = .ok (.ifCond .ne 9, 3) := by decide +kernel
theorem dX8_safe_11 : decode cX8_safe 11 = .ok (.aload_n 0, 1) := by decide +kernel
theorem dX8_safe_12 : decode cX8_safe 12 = .ok (.iconst 0, 1) := by decide +kernel
theorem dX8_safe_13 : decode cX8_safe 13 = .ok (.invokevirtual 61, 3) := by decide +kernel
theorem dX8_safe_16 : decode cX8_safe 16 = .ok (.ireturn, 1) := by decide +kernel
theorem dX8_safe_17 : decode cX8_safe 17 = .ok (.aload_n 0, 1) := by decide +kernel
theorem dX8_safe_18 : decode cX8_safe 18 = .ok (.getfield 10, 3) := by decide +kernel
theorem dX8_safe_21 : decode cX8_safe 21 = .ok (.getfield 92, 3) := by decide +kernel
theorem dX8_safe_24 : decode cX8_safe 24 = .ok (.iload_n 1, 1) := by decide +kernel
theorem dX8_safe_25 : decode cX8_safe 25 = .ok (.aaload, 1) := by decide +kernel
theorem dX8_safe_26 : decode cX8_safe 26 = .ok (.invokevirtual 124, 3) := by decide +kernel
theorem dX8_safe_29 : decode cX8_safe 29 = .ok (.ifCond .eq 9, 3) := by decide +kernel
theorem dX8_safe_32 : decode cX8_safe 32 = .ok (.aload_n 0, 1) := by decide +kernel
theorem dX8_safe_33 : decode cX8_safe 33 = .ok (.iconst 4, 1) := by decide +kernel
theorem dX8_safe_34 : decode cX8_safe 34 = .ok (.invokevirtual 61, 3) := by decide +kernel
theorem dX8_safe_37 : decode cX8_safe 37 = .ok (.ireturn, 1) := by decide +kernel
theorem dX8_safe_38 : decode cX8_safe 38 = .ok (.aload_n 0, 1) := by decide +kernel
theorem dX8_safe_39 : decode cX8_safe 39 = .ok (.getfield 10, 3) := by decide +kernel
theorem dX8_safe_42 : decode cX8_safe 42 = .ok (.iload_n 1, 1) := by decide +kernel
theorem dX8_safe_43 : decode cX8_safe 43 = .ok (.invokevirtual 175, 3) := by decide +kernel
theorem dX8_safe_46 : decode cX8_safe 46 = .ok (.istore_n 2, 1) := by decide +kernel
theorem dX8_safe_47 : decode cX8_safe 47 = .ok (.iload_n 2, 1) := by decide +kernel
theorem dX8_safe_48 : decode cX8_safe 48 = .ok (.iconst (-1), 1) := by decide +kernel
theorem dX8_safe_49 : decode cX8_safe 49 = .ok (.if_icmp .ne 11, 3) := by decide +kernel
theorem dX8_safe_52 : decode cX8_safe 52 = .ok (.aload_n 0, 1) := by decide +kernel
theorem dX8_safe_53 : decode cX8_safe 53 = .ok (.iconst 3, 1) := by decide +kernel
theorem dX8_safe_54 : decode cX8_safe 54 = .ok (.invokevirtual 61, 3) := by decide +kernel
theorem dX8_safe_57 : decode cX8_safe 57 = .ok (.goto 4, 3) := by decide +kernel
theorem dX8_safe_60 : decode cX8_safe 60 = .ok (.iload_n 2, 1) := by decide +kernel
theorem dX8_safe_61 : decode cX8_safe 61 = .ok (.ireturn, 1) := by decide +kernel
theorem dX8_all_0 : decode cX8_all 0 = .ok (.aload_n 0, 1) := by decide +kernel
theorem dX8_all_1 : decode cX8_all 1 = .ok (.getfield 10, 3) := by decide +kernel
theorem dX8_all_4 : decode cX8_all 4 = .ok (.iload_n 1, 1) := by decide +kernel
theorem dX8_all_5 : decode cX8_all 5 = .ok (.invokevirtual 178, 3) := by decide +kernel
theorem dX8_all_8 : decode cX8_all 8 = .ok (.ifCond .ne 9, 3) := by decide +kernel
theorem dX8_all_11 : decode cX8_all 11 = .ok (.aload_n 0, 1) := by decide +kernel
theorem dX8_all_12 : decode cX8_all 12 = .ok (.iconst 0, 1) := by decide +kernel
theorem dX8_all_13 : decode cX8_all 13 = .ok (.invokevirtual 61, 3) := by decide +kernel
theorem dX8_all_16 : decode cX8_all 16 = .ok (.ireturn, 1) := by decide +kernel
theorem dX8_all_17 : decode cX8_all 17 = .ok (.iload_n 1, 1) := by decide +kernel
theorem dX8_all_18 : decode cX8_all 18 = .ok (.invokestatic 181, 3) := by decide +kernel
theorem dX8_all_21 : decode cX8_all 21 = .ok (.iconst 3, 1) := by decide +kernel
theorem dX8_all_22 : decode cX8_all 22 = .ok (.if_icmp .eq 10, 3) := by decide +kernel
theorem dX8_all_25 : decode cX8_all 25 = .ok (.aload_n 0, 1) := by decide +kernel
theorem dX8_all_26 : decode cX8_all 26 = .ok (.bipush 6, 2) := by decide +kernel
theorem dX8_all_28 : decode cX8_all 28 = .ok (.invokevirtual 61, 3) := by decide +kernel
theorem dX8_all_31 : decode cX8_all 31 = .ok (.ireturn, 1) := by decide +kernel
theorem dX8_all_32 : decode cX8_all 32 = .ok (.aload_n 0, 1) := by decide +kernel
theorem dX8_all_33 : decode cX8_all 33 = .ok (.getfield 10, 3) := by decide +kernel
theorem dX8_all_36 : decode cX8_all 36 = .ok (.invokevirtual 152, 3) := by decide +kernel
theorem dX8_all_39 : decode cX8_all 39 = .ok (.ifCond .eq 9, 3) := by decide +kernel
theorem dX8_all_42 : decode cX8_all 42 = .ok (.aload_n 0, 1) := by decide +kernel
theorem dX8_all_43 : decode cX8_all 43 = .ok (.iconst 4, 1) := by decide +kernel
theorem dX8_all_44 : decode cX8_all 44 = .ok (.invokevirtual 61, 3) := by decide +kernel
theorem dX8_all_47 : decode cX8_all 47 = .ok (.ireturn, 1) := by decide +kernel
theorem dX8_all_48 : decode cX8_all 48 = .ok (.aload_n 0, 1) := by decide +kernel
theorem dX8_all_49 : decode cX8_all 49 = .ok (.getfield 32, 3) := by decide +kernel
theorem dX8_all_52 : decode cX8_all 52 = .ok (.aload_n 0, 1) := by decide +kernel
theorem dX8_all_53 : decode cX8_all 53 = .ok (.getfield 10, 3) := by decide +kernel
theorem dX8_all_56 : decode cX8_all 56 = .ok (.iload_n 1, 1) := by decide +kernel
theorem dX8_all_57 : decode cX8_all 57 = .ok (.invokevirtual 186, 3) := by decide +kernel
theorem dX8_all_60 : decode cX8_all 60 = .ok (.aload_n 0, 1) := by decide +kernel
theorem dX8_all_61 : decode cX8_all 61 = .ok (.getfield 32, 3) := by decide +kernel
theorem dX8_all_64 : decode cX8_all 64 = .ok (.getfield 190, 3) := by decide +kernel
theorem dX8_all_67 : decode cX8_all 67 = .ok (.ireturn, 1) := by decide +kernel
theorem dX8_way_0 : decode cX8_way 0 = .ok (.aload_n 0, 1) := by decide +kernel
theorem dX8_way_1 : decode cX8_way 1 = .ok (.getfield 10, 3) := by decide +kernel
theorem dX8_way_4 : decode cX8_way 4 = .ok (.iload_n 1, 1) := by decide +kernel
theorem dX8_way_5 : decode cX8_way 5 = .ok (.invokevirtual 178, 3) := by decide +kernel
theorem dX8_way_8 : decode cX8_way 8 = .ok (.ifCond .eq 12, 3) := by decide +kernel
theorem dX8_way_11 : decode cX8_way 11 = .ok (.iload_n 2, 1) := by decide +kernel
theorem dX8_way_12 : decode cX8_way 12 = .ok (.ifCond .lt 8, 3) := by decide +kernel
theorem dX8_way_15 : decode cX8_way 15 = .ok (.iload_n 2, 1) := by decide +kernel
theorem dX8_way_16 : decode cX8_way 16 = .ok (.iconst 3, 1) := by decide +kernel
theorem dX8_way_17 : decode cX8_way 17 = .ok (.if_icmp .lt 9, 3) := by decide +kernel
theorem dX8_way_20 : decode cX8_way 20 = .ok (.aload_n 0, 1) := by decide +kernel
theorem dX8_way_21 : decode cX8_way 21 = .ok (.iconst 0, 1) := by decide +kernel
theorem dX8_way_22 : decode cX8_way 22 = .ok (.invokevirtual 61, 3) := by decide +kernel
theorem dX8_way_25 : decode cX8_way 25 = .ok (.ireturn, 1) := by decide +kernel
theorem dX8_way_26 : decode cX8_way 26 = .ok (.iload_n 1, 1) := by decide +kernel
theorem dX8_way_27 : decode cX8_way 27 = .ok (.invokestatic 181, 3) := by decide +kernel
theorem dX8_way_30 : decode cX8_way 30 = .ok (.iconst 3, 1) := by decide +kernel
theorem dX8_way_31 : decode cX8_way 31 = .ok (.if_icmp .eq 10, 3) := by decide +kernel
theorem dX8_way_34 : decode cX8_way 34 = .ok (.aload_n 0, 1) := by decide +kernel
theorem dX8_way_35 : decode cX8_way 35 = .ok (.bipush 6, 2) := by decide +kernel
theorem dX8_way_37 : decode cX8_way 37 = .ok (.invokevirtual 61, 3) := by decide +kernel
theorem dX8_way_40 : decode cX8_way 40 = .ok (.ireturn, 1) := by decide +kernel
theorem dX8_way_41 : decode cX8_way 41 = .ok (.aload_n 0, 1) := by decide +kernel
theorem dX8_way_42 : decode cX8_way 42 = .ok (.getfield 10, 3) := by decide +kernel
theorem dX8_way_45 : decode cX8_way 45 = .ok (.invokevirtual 152, 3) := by decide +kernel
theorem dX8_way_48 : decode cX8_way 48 = .ok (.ifCond .eq 9, 3) := by decide +kernel
theorem dX8_way_51 : decode cX8_way 51 = .ok (.aload_n 0, 1) := by decide +kernel
theorem dX8_way_52 : decode cX8_way 52 = .ok (.iconst 4, 1) := by decide +kernel
theorem dX8_way_53 : decode cX8_way 53 = .ok (.invokevirtual 61, 3) := by decide +kernel
theorem dX8_way_56 : decode cX8_way 56 = .ok (.ireturn, 1) := by decide +kernel
theorem dX8_way_57 : decode cX8_way 57 = .ok (.aload_n 0, 1) := by decide +kernel
theorem dX8_way_58 : decode cX8_way 58 = .ok (.getfield 32, 3) := by decide +kernel
theorem dX8_way_61 : decode cX8_way 61 = .ok (.aload_n 0, 1) := by decide +kernel
theorem dX8_way_62 : decode cX8_way 62 = .ok (.getfield 10, 3) := by decide +kernel
theorem dX8_way_65 : decode cX8_way 65 = .ok (.iload_n 1, 1) := by decide +kernel
theorem dX8_way_66 : decode cX8_way 66 = .ok (.invokevirtual 186, 3) := by decide +kernel
theorem dX8_way_69 : decode cX8_way 69 = .ok (.aload_n 0, 1) := by decide +kernel
theorem dX8_way_70 : decode cX8_way 70 = .ok (.getfield 32, 3) := by decide +kernel
theorem dX8_way_73 : decode cX8_way 73 = .ok (.getfield 193, 3) := by decide +kernel
theorem dX8_way_76 : decode cX8_way 76 = .ok (.iload_n 2, 1) := by decide +kernel
theorem dX8_way_77 : decode cX8_way 77 = .ok (.iaload, 1) := by decide +kernel
theorem dX8_way_78 : decode cX8_way 78 = .ok (.ireturn, 1) := by decide +kernel
theorem dX8_kind_0 : decode cX8_kind 0 = .ok (.aload_n 0, 1) := by decide +kernel
theorem dX8_kind_1 : decode cX8_kind 1 = .ok (.getfield 10, 3) := by decide +kernel
theorem dX8_kind_4 : decode cX8_kind 4 = .ok (.iload_n 1, 1) := by decide +kernel
theorem dX8_kind_5 : decode cX8_kind 5 = .ok (.invokevirtual 89, 3) := by decide +kernel
theorem dX8_kind_8 : decode cX8_kind 8 = .ok (.ifCond .eq 10, 3) := by decide +kernel
theorem dX8_kind_11 : decode cX8_kind 11 = .ok (.iload_n 2, 1) := by decide +kernel
theorem dX8_kind_12 : decode cX8_kind 12 = .ok (.invokestatic 51, 3) := by decide +kernel
theorem dX8_kind_15 : decode cX8_kind 15 = .ok (.ifCond .ne 9, 3) := by decide +kernel
theorem dX8_kind_18 : decode cX8_kind 18 = .ok (.aload_n 0, 1) := by decide +kernel
theorem dX8_kind_19 : decode cX8_kind 19 = .ok (.iconst 0, 1) := by decide +kernel
theorem dX8_kind_20 : decode cX8_kind 20 = .ok (.invokevirtual 61, 3) := by decide +kernel
theorem dX8_kind_23 : decode cX8_kind 23 = .ok (.ireturn, 1) := by decide +kernel
theorem dX8_kind_24 : decode cX8_kind 24 = .ok (.iconst 0, 1) := by decide +kernel
theorem dX8_kind_25 : decode cX8_kind 25 = .ok (.istore_n 3, 1) := by decide +kernel
theorem dX8_kind_26 : decode cX8_kind 26 = .ok (.aload_n 0, 1) := by decide +kernel
theorem dX8_kind_27 : decode cX8_kind 27 = .ok (.getfield 10, 3) := by decide +kernel
theorem dX8_kind_30 : decode cX8_kind 30 = .ok (.iconst 0, 1) := by decide +kernel
theorem dX8_kind_31 : decode cX8_kind 31 = .ok (.iload_n 1, 1) := by decide +kernel
theorem dX8_kind_32 : decode cX8_kind 32 = .ok (.iload_n 2, 1) := by decide +kernel
theorem dX8_kind_33 : decode cX8_kind 33 = .ok (.invokevirtual 196, 3) := by decide +kernel
theorem dX8_kind_36 : decode cX8_kind 36 = .ok (.istore 4, 2) := by decide +kernel
theorem dX8_kind_38 : decode cX8_kind 38 = .ok (.iconst 1, 1) := by decide +kernel
theorem dX8_kind_39 : decode cX8_kind 39 = .ok (.istore 5, 2) := by decide +kernel
theorem dX8_kind_41 : decode cX8_kind 41 = .ok (.iload 5, 2) := by decide +kernel
theorem dX8_kind_43 : decode cX8_kind 43 = .ok (.bipush 6, 2) := by decide +kernel
theorem dX8_kind_45 : decode cX8_kind 45 = .ok (.if_icmp .ge 36, 3) := by decide +kernel
theorem dX8_kind_48 : decode cX8_kind 48 = .ok (.aload_n 0, 1) := by decide +kernel
theorem dX8_kind_49 : decode cX8_kind 49 = .ok (.getfield 10, 3) := by decide +kernel
theorem dX8_kind_52 : decode cX8_kind 52 = .ok (.iload 5, 2) := by decide +kernel
theorem dX8_kind_54 : decode cX8_kind 54 = .ok (.iload_n 1, 1) := by decide +kernel
theorem dX8_kind_55 : decode cX8_kind 55 = .ok (.iload_n 2, 1) := by decide +kernel
theorem dX8_kind_56 : decode cX8_kind 56 = .ok (.invokevirtual 196, 3) := by decide +kernel
theorem dX8_kind_59 : decode cX8_kind 59 = .ok (.istore 6, 2) := by decide +kernel
theorem dX8_kind_61 : decode cX8_kind 61 = .ok (.iload 6, 2) := by decide +kernel
theorem dX8_kind_63 : decode cX8_kind 63 = .ok (.iload 4, 2) := by decide +kernel
theorem dX8_kind_65 : decode cX8_kind 65 = .ok (.if_icmp .ge 10, 3) := by decide +kernel
theorem dX8_kind_68 : decode cX8_kind 68 = .ok (.iload 5, 2) := by decide +kernel
theorem dX8_kind_70 : decode cX8_kind 70 = .ok (.istore_n 3, 1) := by decide +kernel
theorem dX8_kind_71 : decode cX8_kind 71 = .ok (.iload 6, 2) := by decide +kernel
theorem dX8_kind_73 : decode cX8_kind 73 = .ok (.istore 4, 2) := by decide +kernel
theorem dX8_kind_75 : decode cX8_kind 75 = .ok (.iinc 5 1, 3) := by decide +kernel
theorem dX8_kind_78 : decode cX8_kind 78 = .ok (.goto (-37), 3) := by decide +kernel
theorem dX8_kind_81 : decode cX8_kind 81 = .ok (.iload_n 3, 1) := by decide +kernel
theorem dX8_kind_82 : decode cX8_kind 82 = .ok (.ireturn, 1) := by decide +kernel
theorem dX8_bribes_0 : decode cX8_bribes 0 = .ok (.aload_n 0, 1) := by decide +kernel
theorem dX8_bribes_1 : decode cX8_bribes 1 = .ok (.getfield 10, 3) := by decide +kernel
theorem dX8_bribes_4 : decode cX8_bribes 4 = .ok (.iload_n 1, 1) := by decide +kernel
theorem dX8_bribes_5 : decode cX8_bribes 5 = .ok (.invokevirtual 89, 3) := by decide +kernel
theorem dX8_bribes_8 : decode cX8_bribes 8 = .ok (.ifCond .eq 14, 3) := by decide +kernel
theorem dX8_bribes_11 : decode cX8_bribes 11 = .ok (.iload_n 2, 1) := by decide +kernel
theorem dX8_bribes_12 : decode cX8_bribes 12 = .ok (.iconst 1, 1) := by decide +kernel
theorem dX8_bribes_13 : decode cX8_bribes 13 = .ok (.if_icmp .lt 9, 3) := by decide +kernel
theorem dX8_bribes_16 : decode cX8_bribes 16 = .ok (.iload_n 2, 1) := by decide +kernel
theorem dX8_bribes_17 : decode cX8_bribes 17 = .ok (.bipush 60, 2) := by decide +kernel
theorem dX8_bribes_19 : decode cX8_bribes 19 = .ok (.if_icmp .le 9, 3) := by decide +kernel
theorem dX8_bribes_22 : decode cX8_bribes 22 = .ok (.aload_n 0, 1) := by decide +kernel
theorem dX8_bribes_23 : decode cX8_bribes 23 = .ok (.iconst 0, 1) := by decide +kernel
theorem dX8_bribes_24 : decode cX8_bribes 24 = .ok (.invokevirtual 61, 3) := by decide +kernel
theorem dX8_bribes_27 : decode cX8_bribes 27 = .ok (.ireturn, 1) := by decide +kernel
theorem dX8_bribes_28 : decode cX8_bribes 28 = .ok (.aload_n 0, 1) := by decide +kernel
theorem dX8_bribes_29 : decode cX8_bribes 29 = .ok (.getfield 10, 3) := by decide +kernel
theorem dX8_bribes_32 : decode cX8_bribes 32 = .ok (.getfield 92, 3) := by decide +kernel
theorem dX8_bribes_35 : decode cX8_bribes 35 = .ok (.iload_n 1, 1) := by decide +kernel
theorem dX8_bribes_36 : decode cX8_bribes 36 = .ok (.aaload, 1) := by decide +kernel
theorem dX8_bribes_37 : decode cX8_bribes 37 = .ok (.invokevirtual 124, 3) := by decide +kernel
theorem dX8_bribes_40 : decode cX8_bribes 40 = .ok (.ifCond .ne 9, 3) := by decide +kernel
theorem dX8_bribes_43 : decode cX8_bribes 43 = .ok (.aload_n 0, 1) := by decide +kernel
theorem dX8_bribes_44 : decode cX8_bribes 44 = .ok (.iconst 4, 1) := by decide +kernel
theorem dX8_bribes_45 : decode cX8_bribes 45 = .ok (.invokevirtual 61, 3) := by decide +kernel
theorem dX8_bribes_48 : decode cX8_bribes 48 = .ok (.ireturn, 1) := by decide +kernel
theorem dX8_bribes_49 : decode cX8_bribes 49 = .ok (.iconst 0, 1) := by decide +kernel
theorem dX8_bribes_50 : decode cX8_bribes 50 = .ok (.istore_n 3, 1) := by decide +kernel
theorem dX8_bribes_51 : decode cX8_bribes 51 = .ok (.iload_n 3, 1) := by decide +kernel
theorem dX8_bribes_52 : decode cX8_bribes 52 = .ok (.bipush 9, 2) := by decide +kernel
theorem dX8_bribes_54 : decode cX8_bribes 54 = .ok (.if_icmp .gt 54, 3) := by decide +kernel
theorem dX8_bribes_57 : decode cX8_bribes 57 = .ok (.aload_n 0, 1) := by decide +kernel
theorem dX8_bribes_58 : decode cX8_bribes 58 = .ok (.getfield 19, 3) := by decide +kernel
theorem dX8_bribes_61 : decode cX8_bribes 61 = .ok (.aload_n 0, 1) := by decide +kernel
theorem dX8_bribes_62 : decode cX8_bribes 62 = .ok (.getfield 10, 3) := by decide +kernel
theorem dX8_bribes_65 : decode cX8_bribes 65 = .ok (.invokevirtual 165, 3) := by decide +kernel
theorem dX8_bribes_68 : decode cX8_bribes 68 = .ok (.iconst 0, 1) := by decide +kernel
theorem dX8_bribes_69 : decode cX8_bribes 69 = .ok (.istore 4, 2) := by decide +kernel
theorem dX8_bribes_71 : decode cX8_bribes 71 = .ok (.iload 4, 2) := by decide +kernel
theorem dX8_bribes_73 : decode cX8_bribes 73 = .ok (.iload_n 3, 1) := by decide +kernel
theorem dX8_bribes_74 : decode cX8_bribes 74 = .ok (.if_icmp .ge 17, 3) := by decide +kernel
theorem dX8_bribes_77 : decode cX8_bribes 77 = .ok (.aload_n 0, 1) := by decide +kernel
theorem dX8_bribes_78 : decode cX8_bribes 78 = .ok (.getfield 19, 3) := by decide +kernel
theorem dX8_bribes_81 : decode cX8_bribes 81 = .ok (.iload_n 1, 1) := by decide +kernel
theorem dX8_bribes_82 : decode cX8_bribes 82 = .ok (.invokevirtual 143, 3) := by decide +kernel
theorem dX8_bribes_85 : decode cX8_bribes 85 = .ok (.iinc 4 1, 3) := by decide +kernel
theorem dX8_bribes_88 : decode cX8_bribes 88 = .ok (.goto (-17), 3) := by decide +kernel
theorem dX8_bribes_91 : decode cX8_bribes 91 = .ok (.aload_n 0, 1) := by decide +kernel
theorem dX8_bribes_92 : decode cX8_bribes 92 = .ok (.iload_n 1, 1) := by decide +kernel
theorem dX8_bribes_93 : decode cX8_bribes 93 = .ok (.iload_n 2, 1) := by decide +kernel
theorem dX8_bribes_94 : decode cX8_bribes 94 = .ok (.invokevirtual 200, 3) := by decide +kernel
theorem dX8_bribes_97 : decode cX8_bribes 97 = .ok (.ifCond .eq 5, 3) := by decide +kernel
theorem dX8_bribes_100 : decode cX8_bribes 100 = .ok (.iload_n 3, 1) := by decide +kernel
theorem dX8_bribes_101 : decode cX8_bribes 101 = .ok (.ireturn, 1) := by decide +kernel
theorem dX8_bribes_102 : decode cX8_bribes 102 = .ok (.iinc 3 1, 3) := by decide +kernel
theorem dX8_bribes_105 : decode cX8_bribes 105 = .ok (.goto (-54), 3) := by decide +kernel
theorem dX8_bribes_108 : decode cX8_bribes 108 = .ok (.aload_n 0, 1) := by decide +kernel
theorem dX8_bribes_109 : decode cX8_bribes 109 = .ok (.iconst 3, 1) := by decide +kernel
theorem dX8_bribes_110 : decode cX8_bribes 110 = .ok (.invokevirtual 61, 3) := by decide +kernel
theorem dX8_bribes_113 : decode cX8_bribes 113 = .ok (.ireturn, 1) := by decide +kernel
theorem dX8_coat_0 : decode cX8_coat 0 = .ok (.aload_n 0, 1) := by decide +kernel
theorem dX8_coat_1 : decode cX8_coat 1 = .ok (.getfield 10, 3) := by decide +kernel
theorem dX8_coat_4 : decode cX8_coat 4 = .ok (.iload_n 1, 1) := by decide +kernel
theorem dX8_coat_5 : decode cX8_coat 5 = .ok (.invokevirtual 89, 3) := by decide +kernel
theorem dX8_coat_8 : decode cX8_coat 8 = .ok (.ifCond .eq 10, 3) := by decide +kernel
theorem dX8_coat_11 : decode cX8_coat 11 = .ok (.iload_n 2, 1) := by decide +kernel
theorem dX8_coat_12 : decode cX8_coat 12 = .ok (.invokestatic 51, 3) := by decide +kernel
theorem dX8_coat_15 : decode cX8_coat 15 = .ok (.ifCond .ne 9, 3) := by decide +kernel
theorem dX8_coat_18 : decode cX8_coat 18 = .ok (.aload_n 0, 1) := by decide +kernel
theorem dX8_coat_19 : decode cX8_coat 19 = .ok (.iconst 0, 1) := by decide +kernel
theorem dX8_coat_20 : decode cX8_coat 20 = .ok (.invokevirtual 61, 3) := by decide +kernel
theorem dX8_coat_23 : decode cX8_coat 23 = .ok (.ireturn, 1) := by decide +kernel
theorem dX8_coat_24 : decode cX8_coat 24 = .ok (.aload_n 0, 1) := by decide +kernel
theorem dX8_coat_25 : decode cX8_coat 25 = .ok (.getfield 19, 3) := by decide +kernel
theorem dX8_coat_28 : decode cX8_coat 28 = .ok (.aload_n 0, 1) := by decide +kernel
theorem dX8_coat_29 : decode cX8_coat 29 = .ok (.getfield 10, 3) := by decide +kernel
theorem dX8_coat_32 : decode cX8_coat 32 = .ok (.invokevirtual 165, 3) := by decide +kernel
theorem dX8_coat_35 : decode cX8_coat 35 = .ok (.aload_n 0, 1) := by decide +kernel
theorem dX8_coat_36 : decode cX8_coat 36 = .ok (.getfield 19, 3) := by decide +kernel
theorem dX8_coat_39 : decode cX8_coat 39 = .ok (.getfield 92, 3) := by decide +kernel
theorem dX8_coat_42 : decode cX8_coat 42 = .ok (.iload_n 1, 1) := by decide +kernel
theorem dX8_coat_43 : decode cX8_coat 43 = .ok (.aaload, 1) := by decide +kernel
theorem dX8_coat_44 : decode cX8_coat 44 = .ok (.iconst 0, 1) := by decide +kernel
theorem dX8_coat_45 : decode cX8_coat 45 = .ok (.putfield 203, 3) := by decide +kernel
theorem dX8_coat_48 : decode cX8_coat 48 = .ok (.sipush 1000, 3) := by decide +kernel
theorem dX8_coat_51 : decode cX8_coat 51 = .ok (.aload_n 0, 1) := by decide +kernel
theorem dX8_coat_52 : decode cX8_coat 52 = .ok (.getfield 10, 3) := by decide +kernel
theorem dX8_coat_55 : decode cX8_coat 55 = .ok (.iload_n 1, 1) := by decide +kernel
theorem dX8_coat_56 : decode cX8_coat 56 = .ok (.iload_n 2, 1) := by decide +kernel
theorem dX8_coat_57 : decode cX8_coat 57 = .ok (.invokevirtual 117, 3) := by decide +kernel
theorem dX8_coat_60 : decode cX8_coat 60 = .ok (.iadd, 1) := by decide +kernel
theorem dX8_coat_61 : decode cX8_coat 61 = .ok (.aload_n 0, 1) := by decide +kernel
theorem dX8_coat_62 : decode cX8_coat 62 = .ok (.getfield 19, 3) := by decide +kernel
theorem dX8_coat_65 : decode cX8_coat 65 = .ok (.iload_n 1, 1) := by decide +kernel
theorem dX8_coat_66 : decode cX8_coat 66 = .ok (.iload_n 2, 1) := by decide +kernel
theorem dX8_coat_67 : decode cX8_coat 67 = .ok (.invokevirtual 117, 3) := by decide +kernel
theorem dX8_coat_70 : decode cX8_coat 70 = .ok (.isub, 1) := by decide +kernel
theorem dX8_coat_71 : decode cX8_coat 71 = .ok (.aload_n 0, 1) := by decide +kernel
theorem dX8_coat_72 : decode cX8_coat 72 = .ok (.getfield 10, 3) := by decide +kernel
theorem dX8_coat_75 : decode cX8_coat 75 = .ok (.getfield 75, 3) := by decide +kernel
theorem dX8_coat_78 : decode cX8_coat 78 = .ok (.isub, 1) := by decide +kernel
theorem dX8_coat_79 : decode cX8_coat 79 = .ok (.ireturn, 1) := by decide +kernel
theorem dX8_mood_0 : decode cX8_mood 0 = .ok (.aload_n 0, 1) := by decide +kernel
theorem dX8_mood_1 : decode cX8_mood 1 = .ok (.getfield 10, 3) := by decide +kernel
theorem dX8_mood_4 : decode cX8_mood 4 = .ok (.iload_n 1, 1) := by decide +kernel
theorem dX8_mood_5 : decode cX8_mood 5 = .ok (.invokevirtual 89, 3) := by decide +kernel
theorem dX8_mood_8 : decode cX8_mood 8 = .ok (.ifCond .eq 14, 3) := by decide +kernel
theorem dX8_mood_11 : decode cX8_mood 11 = .ok (.iload_n 2, 1) := by decide +kernel
theorem dX8_mood_12 : decode cX8_mood 12 = .ok (.iconst 1, 1) := by decide +kernel
theorem dX8_mood_13 : decode cX8_mood 13 = .ok (.if_icmp .lt 9, 3) := by decide +kernel
theorem dX8_mood_16 : decode cX8_mood 16 = .ok (.iload_n 2, 1) := by decide +kernel
theorem dX8_mood_17 : decode cX8_mood 17 = .ok (.bipush 60, 2) := by decide +kernel
theorem dX8_mood_19 : decode cX8_mood 19 = .ok (.if_icmp .le 9, 3) := by decide +kernel
theorem dX8_mood_22 : decode cX8_mood 22 = .ok (.aload_n 0, 1) := by decide +kernel
theorem dX8_mood_23 : decode cX8_mood 23 = .ok (.iconst 0, 1) := by decide +kernel
theorem dX8_mood_24 : decode cX8_mood 24 = .ok (.invokevirtual 61, 3) := by decide +kernel
theorem dX8_mood_27 : decode cX8_mood 27 = .ok (.ireturn, 1) := by decide +kernel
theorem dX8_mood_28 : decode cX8_mood 28 = .ok (.aload_n 0, 1) := by decide +kernel
theorem dX8_mood_29 : decode cX8_mood 29 = .ok (.getfield 10, 3) := by decide +kernel
theorem dX8_mood_32 : decode cX8_mood 32 = .ok (.getfield 92, 3) := by decide +kernel
theorem dX8_mood_35 : decode cX8_mood 35 = .ok (.iload_n 1, 1) := by decide +kernel
theorem dX8_mood_36 : decode cX8_mood 36 = .ok (.aaload, 1) := by decide +kernel
theorem dX8_mood_37 : decode cX8_mood 37 = .ok (.invokevirtual 124, 3) := by decide +kernel
theorem dX8_mood_40 : decode cX8_mood 40 = .ok (.ifCond .ne 9, 3) := by decide +kernel
theorem dX8_mood_43 : decode cX8_mood 43 = .ok (.aload_n 0, 1) := by decide +kernel
theorem dX8_mood_44 : decode cX8_mood 44 = .ok (.iconst 4, 1) := by decide +kernel
theorem dX8_mood_45 : decode cX8_mood 45 = .ok (.invokevirtual 61, 3) := by decide +kernel
theorem dX8_mood_48 : decode cX8_mood 48 = .ok (.ireturn, 1) := by decide +kernel
theorem dX8_mood_49 : decode cX8_mood 49 = .ok (.iconst 0, 1) := by decide +kernel
theorem dX8_mood_50 : decode cX8_mood 50 = .ok (.istore_n 3, 1) := by decide +kernel
theorem dX8_mood_51 : decode cX8_mood 51 = .ok (.iload_n 3, 1) := by decide +kernel
theorem dX8_mood_52 : decode cX8_mood 52 = .ok (.bipush 9, 2) := by decide +kernel
theorem dX8_mood_54 : decode cX8_mood 54 = .ok (.if_icmp .gt 44, 3) := by decide +kernel
theorem dX8_mood_57 : decode cX8_mood 57 = .ok (.aload_n 0, 1) := by decide +kernel
theorem dX8_mood_58 : decode cX8_mood 58 = .ok (.getfield 19, 3) := by decide +kernel
theorem dX8_mood_61 : decode cX8_mood 61 = .ok (.aload_n 0, 1) := by decide +kernel
theorem dX8_mood_62 : decode cX8_mood 62 = .ok (.getfield 10, 3) := by decide +kernel
theorem dX8_mood_65 : decode cX8_mood 65 = .ok (.invokevirtual 165, 3) := by decide +kernel
theorem dX8_mood_68 : decode cX8_mood 68 = .ok (.aload_n 0, 1) := by decide +kernel
theorem dX8_mood_69 : decode cX8_mood 69 = .ok (.getfield 19, 3) := by decide +kernel
theorem dX8_mood_72 : decode cX8_mood 72 = .ok (.getfield 92, 3) := by decide +kernel
theorem dX8_mood_75 : decode cX8_mood 75 = .ok (.iload_n 1, 1) := by decide +kernel
theorem dX8_mood_76 : decode cX8_mood 76 = .ok (.aaload, 1) := by decide +kernel
theorem dX8_mood_77 : decode cX8_mood 77 = .ok (.iload_n 3, 1) := by decide +kernel
theorem dX8_mood_78 : decode cX8_mood 78 = .ok (.putfield 114, 3) := by decide +kernel
theorem dX8_mood_81 : decode cX8_mood 81 = .ok (.aload_n 0, 1) := by decide +kernel
theorem dX8_mood_82 : decode cX8_mood 82 = .ok (.iload_n 1, 1) := by decide +kernel
theorem dX8_mood_83 : decode cX8_mood 83 = .ok (.iload_n 2, 1) := by decide +kernel
theorem dX8_mood_84 : decode cX8_mood 84 = .ok (.invokevirtual 200, 3) := by decide +kernel
theorem dX8_mood_87 : decode cX8_mood 87 = .ok (.ifCond .eq 5, 3) := by decide +kernel
theorem dX8_mood_90 : decode cX8_mood 90 = .ok (.iload_n 3, 1) := by decide +kernel
theorem dX8_mood_91 : decode cX8_mood 91 = .ok (.ireturn, 1) := by decide +kernel
theorem dX8_mood_92 : decode cX8_mood 92 = .ok (.iinc 3 1, 3) := by decide +kernel
theorem dX8_mood_95 : decode cX8_mood 95 = .ok (.goto (-44), 3) := by decide +kernel
theorem dX8_mood_98 : decode cX8_mood 98 = .ok (.aload_n 0, 1) := by decide +kernel
theorem dX8_mood_99 : decode cX8_mood 99 = .ok (.iconst 3, 1) := by decide +kernel
theorem dX8_mood_100 : decode cX8_mood 100 = .ok (.invokevirtual 61, 3) := by decide +kernel
theorem dX8_mood_103 : decode cX8_mood 103 = .ok (.ireturn, 1) := by decide +kernel
theorem dX8_worst_0 : decode cX8_worst 0 = .ok (.iload_n 1, 1) := by decide +kernel
theorem dX8_worst_1 : decode cX8_worst 1 = .ok (.ifCond .lt 9, 3) := by decide +kernel
theorem dX8_worst_4 : decode cX8_worst 4 = .ok (.iload_n 1, 1) := by decide +kernel
theorem dX8_worst_5 : decode cX8_worst 5 = .ok (.bipush 60, 2) := by decide +kernel
theorem dX8_worst_7 : decode cX8_worst 7 = .ok (.if_icmp .le 9, 3) := by decide +kernel
theorem dX8_worst_10 : decode cX8_worst 10 = .ok (.aload_n 0, 1) := by decide +kernel
theorem dX8_worst_11 : decode cX8_worst 11 = .ok (.iconst 0, 1) := by decide +kernel
theorem dX8_worst_12 : decode cX8_worst 12 = .ok (.invokevirtual 61, 3) := by decide +kernel
theorem dX8_worst_15 : decode cX8_worst 15 = .ok (.ireturn, 1) := by decide +kernel
theorem dX8_worst_16 : decode cX8_worst 16 = .ok (.aload_n 0, 1) := by decide +kernel
theorem dX8_worst_17 : decode cX8_worst 17 = .ok (.getfield 19, 3) := by decide +kernel
theorem dX8_worst_20 : decode cX8_worst 20 = .ok (.aload_n 0, 1) := by decide +kernel
theorem dX8_worst_21 : decode cX8_worst 21 = .ok (.getfield 10, 3) := by decide +kernel
theorem dX8_worst_24 : decode cX8_worst 24 = .ok (.invokevirtual 165, 3) := by decide +kernel
theorem dX8_worst_27 : decode cX8_worst 27 = .ok (.aload_n 0, 1) := by decide +kernel
theorem dX8_worst_28 : decode cX8_worst 28 = .ok (.getfield 19, 3) := by decide +kernel
theorem dX8_worst_31 : decode cX8_worst 31 = .ok (.iload_n 1, 1) := by decide +kernel
theorem dX8_worst_32 : decode cX8_worst 32 = .ok (.invokevirtual 149, 3) := by decide +kernel
theorem dX8_worst_35 : decode cX8_worst 35 = .ok (.iconst (-1), 1) := by decide +kernel
theorem dX8_worst_36 : decode cX8_worst 36 = .ok (.istore_n 2, 1) := by decide +kernel
theorem dX8_worst_37 : decode cX8_worst 37 = .ok (.bipush 10, 2) := by decide +kernel
theorem dX8_worst_39 : decode cX8_worst 39 = .ok (.istore_n 3, 1) := by decide +kernel
theorem dX8_worst_40 : decode cX8_worst 40 = .ok (.iconst 0, 1) := by decide +kernel
theorem dX8_worst_41 : decode cX8_worst 41 = .ok (.istore 4, 2) := by decide +kernel
theorem dX8_worst_43 : decode cX8_worst 43 = .ok (.iload 4, 2) := by decide +kernel
theorem dX8_worst_45 : decode cX8_worst 45 = .ok (.aload_n 0, 1) := by decide +kernel
theorem dX8_worst_46 : decode cX8_worst 46 = .ok (.getfield 10, 3) := by decide +kernel
theorem dX8_worst_49 : decode cX8_worst 49 = .ok (.getfield 206, 3) := by decide +kernel
theorem dX8_worst_52 : decode cX8_worst 52 = .ok (.if_icmp .ge 59, 3) := by decide +kernel
theorem dX8_worst_55 : decode cX8_worst 55 = .ok (.aload_n 0, 1) := by decide +kernel
theorem dX8_worst_56 : decode cX8_worst 56 = .ok (.getfield 10, 3) := by decide +kernel
theorem dX8_worst_59 : decode cX8_worst 59 = .ok (.getfield 92, 3) := by decide +kernel
theorem dX8_worst_62 : decode cX8_worst 62 = .ok (.iload 4, 2) := by decide +kernel
theorem dX8_worst_64 : decode cX8_worst 64 = .ok (.aaload, 1) := by decide +kernel
theorem dX8_worst_65 : decode cX8_worst 65 = .ok (.invokevirtual 124, 3) := by decide +kernel
theorem dX8_worst_68 : decode cX8_worst 68 = .ok (.ifCond .eq 37, 3) := by decide +kernel
theorem dX8_worst_71 : decode cX8_worst 71 = .ok (.aload_n 0, 1) := by decide +kernel
theorem dX8_worst_72 : decode cX8_worst 72 = .ok (.getfield 19, 3) := by decide +kernel
theorem dX8_worst_75 : decode cX8_worst 75 = .ok (.getfield 92, 3) := by decide +kernel
theorem dX8_worst_78 : decode cX8_worst 78 = .ok (.iload 4, 2) := by decide +kernel
theorem dX8_worst_80 : decode cX8_worst 80 = .ok (.aaload, 1) := by decide +kernel
theorem dX8_worst_81 : decode cX8_worst 81 = .ok (.getfield 114, 3) := by decide +kernel
theorem dX8_worst_84 : decode cX8_worst 84 = .ok (.iload_n 3, 1) := by decide +kernel
theorem dX8_worst_85 : decode cX8_worst 85 = .ok (.if_icmp .ge 20, 3) := by decide +kernel
theorem dX8_worst_88 : decode cX8_worst 88 = .ok (.iload 4, 2) := by decide +kernel
theorem dX8_worst_90 : decode cX8_worst 90 = .ok (.istore_n 2, 1) := by decide +kernel
theorem dX8_worst_91 : decode cX8_worst 91 = .ok (.aload_n 0, 1) := by decide +kernel
theorem dX8_worst_92 : decode cX8_worst 92 = .ok (.getfield 19, 3) := by decide +kernel
theorem dX8_worst_95 : decode cX8_worst 95 = .ok (.getfield 92, 3) := by decide +kernel
theorem dX8_worst_98 : decode cX8_worst 98 = .ok (.iload 4, 2) := by decide +kernel
theorem dX8_worst_100 : decode cX8_worst 100 = .ok (.aaload, 1) := by decide +kernel
theorem dX8_worst_101 : decode cX8_worst 101 = .ok (.getfield 114, 3) := by decide +kernel
theorem dX8_worst_104 : decode cX8_worst 104 = .ok (.istore_n 3, 1) := by decide +kernel
theorem dX8_worst_105 : decode cX8_worst 105 = .ok (.iinc 4 1, 3) := by decide +kernel
theorem dX8_worst_108 : decode cX8_worst 108 = .ok (.goto (-65), 3) := by decide +kernel
theorem dX8_worst_111 : decode cX8_worst 111 = .ok (.iload_n 2, 1) := by decide +kernel
theorem dX8_worst_112 : decode cX8_worst 112 = .ok (.iconst (-1), 1) := by decide +kernel
theorem dX8_worst_113 : decode cX8_worst 113 = .ok (.if_icmp .ne 11, 3) := by decide +kernel
theorem dX8_worst_116 : decode cX8_worst 116 = .ok (.aload_n 0, 1) := by decide +kernel
theorem dX8_worst_117 : decode cX8_worst 117 = .ok (.iconst 3, 1) := by decide +kernel
theorem dX8_worst_118 : decode cX8_worst 118 = .ok (.invokevirtual 61, 3) := by decide +kernel
theorem dX8_worst_121 : decode cX8_worst 121 = .ok (.goto 4, 3) := by decide +kernel
theorem dX8_worst_124 : decode cX8_worst 124 = .ok (.iload_n 2, 1) := by decide +kernel
theorem dX8_worst_125 : decode cX8_worst 125 = .ok (.ireturn, 1) := by decide +kernel
theorem dX8_feed_0 : decode cX8_feed 0 = .ok (.iload_n 2, 1) := by decide +kernel
theorem dX8_feed_1 : decode cX8_feed 1 = .ok (.iconst 1, 1) := by decide +kernel
theorem dX8_feed_2 : decode cX8_feed 2 = .ok (.if_icmp .lt 8, 3) := by decide +kernel
theorem dX8_feed_5 : decode cX8_feed 5 = .ok (.iload_n 2, 1) := by decide +kernel
theorem dX8_feed_6 : decode cX8_feed 6 = .ok (.iconst 4, 1) := by decide +kernel
theorem dX8_feed_7 : decode cX8_feed 7 = .ok (.if_icmp .le 9, 3) := by decide +kernel
theorem dX8_feed_10 : decode cX8_feed 10 = .ok (.aload_n 0, 1) := by decide +kernel
theorem dX8_feed_11 : decode cX8_feed 11 = .ok (.iconst 0, 1) := by decide +kernel
theorem dX8_feed_12 : decode cX8_feed 12 = .ok (.invokevirtual 61, 3) := by decide +kernel
theorem dX8_feed_15 : decode cX8_feed 15 = .ok (.ireturn, 1) := by decide +kernel
theorem dX8_feed_16 : decode cX8_feed 16 = .ok (.aload_n 0, 1) := by decide +kernel
theorem dX8_feed_17 : decode cX8_feed 17 = .ok (.getfield 25, 3) := by decide +kernel
theorem dX8_feed_20 : decode cX8_feed 20 = .ok (.getfield 209, 3) := by decide +kernel
theorem dX8_feed_23 : decode cX8_feed 23 = .ok (.getfield 213, 3) := by decide +kernel
theorem dX8_feed_26 : decode cX8_feed 26 = .ok (.iload_n 2, 1) := by decide +kernel
theorem dX8_feed_27 : decode cX8_feed 27 = .ok (.iadd, 1) := by decide +kernel
theorem dX8_feed_28 : decode cX8_feed 28 = .ok (.bipush 120, 2) := by decide +kernel
theorem dX8_feed_30 : decode cX8_feed 30 = .ok (.if_icmp .le 9, 3) := by decide +kernel
theorem dX8_feed_33 : decode cX8_feed 33 = .ok (.aload_n 0, 1) := by decide +kernel
theorem dX8_feed_34 : decode cX8_feed 34 = .ok (.iconst 1, 1) := by decide +kernel
theorem dX8_feed_35 : decode cX8_feed 35 = .ok (.invokevirtual 61, 3) := by decide +kernel
theorem dX8_feed_38 : decode cX8_feed 38 = .ok (.ireturn, 1) := by decide +kernel
theorem dX8_feed_39 : decode cX8_feed 39 = .ok (.iload_n 2, 1) := by decide +kernel
theorem dX8_feed_40 : decode cX8_feed 40 = .ok (.iconst 1, 1) := by decide +kernel
theorem dX8_feed_41 : decode cX8_feed 41 = .ok (.isub, 1) := by decide +kernel
theorem dX8_feed_42 : decode cX8_feed 42 = .ok (.istore_n 3, 1) := by decide +kernel
theorem dX8_feed_43 : decode cX8_feed 43 = .ok (.iload_n 3, 1) := by decide +kernel
theorem dX8_feed_44 : decode cX8_feed 44 = .ok (.ifCond .lt 29, 3) := by decide +kernel
theorem dX8_feed_47 : decode cX8_feed 47 = .ok (.aload_n 0, 1) := by decide +kernel
theorem dX8_feed_48 : decode cX8_feed 48 = .ok (.getfield 25, 3) := by decide +kernel
theorem dX8_feed_51 : decode cX8_feed 51 = .ok (.getfield 209, 3) := by decide +kernel
theorem dX8_feed_54 : decode cX8_feed 54 = .ok (.iload_n 1, 1) := by decide +kernel
theorem dX8_feed_55 : decode cX8_feed 55 = .ok (.bipush 8, 2) := by decide +kernel
theorem dX8_feed_57 : decode cX8_feed 57 = .ok (.iload_n 3, 1) := by decide +kernel
theorem dX8_feed_58 : decode cX8_feed 58 = .ok (.imul, 1) := by decide +kernel
theorem dX8_feed_59 : decode cX8_feed 59 = .ok (.iushr, 1) := by decide +kernel
theorem dX8_feed_60 : decode cX8_feed 60 = .ok (.sipush 255, 3) := by decide +kernel
theorem dX8_feed_63 : decode cX8_feed 63 = .ok (.iand, 1) := by decide +kernel
theorem dX8_feed_64 : decode cX8_feed 64 = .ok (.invokevirtual 218, 3) := by decide +kernel
theorem dX8_feed_67 : decode cX8_feed 67 = .ok (.iinc 3 (-1), 3) := by decide +kernel
theorem dX8_feed_70 : decode cX8_feed 70 = .ok (.goto (-27), 3) := by decide +kernel
theorem dX8_feed_73 : decode cX8_feed 73 = .ok (.aload_n 0, 1) := by decide +kernel
theorem dX8_feed_74 : decode cX8_feed 74 = .ok (.getfield 25, 3) := by decide +kernel
theorem dX8_feed_77 : decode cX8_feed 77 = .ok (.getfield 209, 3) := by decide +kernel
theorem dX8_feed_80 : decode cX8_feed 80 = .ok (.getfield 213, 3) := by decide +kernel
theorem dX8_feed_83 : decode cX8_feed 83 = .ok (.ireturn, 1) := by decide +kernel
theorem dX8_wipe_0 : decode cX8_wipe 0 = .ok (.aload_n 0, 1) := by decide +kernel
theorem dX8_wipe_1 : decode cX8_wipe 1 = .ok (.getfield 25, 3) := by decide +kernel
theorem dX8_wipe_4 : decode cX8_wipe 4 = .ok (.getfield 209, 3) := by decide +kernel
theorem dX8_wipe_7 : decode cX8_wipe 7 = .ok (.getfield 213, 3) := by decide +kernel
theorem dX8_wipe_10 : decode cX8_wipe 10 = .ok (.istore_n 1, 1) := by decide +kernel
theorem dX8_wipe_11 : decode cX8_wipe 11 = .ok (.aload_n 0, 1) := by decide +kernel
theorem dX8_wipe_12 : decode cX8_wipe 12 = .ok (.getfield 25, 3) := by decide +kernel
theorem dX8_wipe_15 : decode cX8_wipe 15 = .ok (.getfield 209, 3) := by decide +kernel
theorem dX8_wipe_18 : decode cX8_wipe 18 = .ok (.iconst 0, 1) := by decide +kernel
theorem dX8_wipe_19 : decode cX8_wipe 19 = .ok (.putfield 213, 3) := by decide +kernel
theorem dX8_wipe_22 : decode cX8_wipe 22 = .ok (.iload_n 1, 1) := by decide +kernel
theorem dX8_wipe_23 : decode cX8_wipe 23 = .ok (.ireturn, 1) := by decide +kernel
theorem dX8_car_0 : decode cX8_car 0 = .ok (.aload_n 0, 1) := by decide +kernel
theorem dX8_car_1 : decode cX8_car 1 = .ok (.getfield 19, 3) := by decide +kernel
theorem dX8_car_4 : decode cX8_car 4 = .ok (.aload_n 0, 1) := by decide +kernel
theorem dX8_car_5 : decode cX8_car 5 = .ok (.getfield 10, 3) := by decide +kernel
theorem dX8_car_8 : decode cX8_car 8 = .ok (.invokevirtual 165, 3) := by decide +kernel
theorem dX8_car_11 : decode cX8_car 11 = .ok (.aload_n 0, 1) := by decide +kernel
theorem dX8_car_12 : decode cX8_car 12 = .ok (.getfield 25, 3) := by decide +kernel
theorem dX8_car_15 : decode cX8_car 15 = .ok (.aload_n 0, 1) := by decide +kernel
theorem dX8_car_16 : decode cX8_car 16 = .ok (.getfield 19, 3) := by decide +kernel
theorem dX8_car_19 : decode cX8_car 19 = .ok (.invokevirtual 220, 3) := by decide +kernel
theorem dX8_car_22 : decode cX8_car 22 = .ok (.istore_n 1, 1) := by decide +kernel
theorem dX8_car_23 : decode cX8_car 23 = .ok (.aload_n 0, 1) := by decide +kernel
theorem dX8_car_24 : decode cX8_car 24 = .ok (.getfield 25, 3) := by decide +kernel
theorem dX8_car_27 : decode cX8_car 27 = .ok (.getfield 209, 3) := by decide +kernel
theorem dX8_car_30 : decode cX8_car 30 = .ok (.iconst 0, 1) := by decide +kernel
theorem dX8_car_31 : decode cX8_car 31 = .ok (.putfield 213, 3) := by decide +kernel
theorem dX8_car_34 : decode cX8_car 34 = .ok (.aload_n 0, 1) := by decide +kernel
theorem dX8_car_35 : decode cX8_car 35 = .ok (.getfield 25, 3) := by decide +kernel
theorem dX8_car_38 : decode cX8_car 38 = .ok (.invokevirtual 224, 3) := by decide +kernel
theorem dX8_car_41 : decode cX8_car 41 = .ok (.ifCond .eq 13, 3) := by decide +kernel
theorem dX8_car_44 : decode cX8_car 44 = .ok (.iconst (-1), 1) := by decide +kernel
theorem dX8_car_45 : decode cX8_car 45 = .ok (.aload_n 0, 1) := by decide +kernel
theorem dX8_car_46 : decode cX8_car 46 = .ok (.getfield 25, 3) := by decide +kernel
theorem dX8_car_49 : decode cX8_car 49 = .ok (.getfield 227, 3) := by decide +kernel
theorem dX8_car_52 : decode cX8_car 52 = .ok (.isub, 1) := by decide +kernel
theorem dX8_car_53 : decode cX8_car 53 = .ok (.ireturn, 1) := by decide +kernel
theorem dX8_car_54 : decode cX8_car 54 = .ok (.aload_n 0, 1) := by decide +kernel
theorem dX8_car_55 : decode cX8_car 55 = .ok (.getfield 10, 3) := by decide +kernel
theorem dX8_car_58 : decode cX8_car 58 = .ok (.aload_n 0, 1) := by decide +kernel
theorem dX8_car_59 : decode cX8_car 59 = .ok (.getfield 19, 3) := by decide +kernel
theorem dX8_car_62 : decode cX8_car 62 = .ok (.invokevirtual 165, 3) := by decide +kernel
theorem dX8_car_65 : decode cX8_car 65 = .ok (.iload_n 1, 1) := by decide +kernel
theorem dX8_car_66 : decode cX8_car 66 = .ok (.ireturn, 1) := by decide +kernel
theorem dX8_sheet_0 : decode cX8_sheet 0 = .ok (.iload_n 1, 1) := by decide +kernel
theorem dX8_sheet_1 : decode cX8_sheet 1 = .ok (.invokestatic 230, 3) := by decide +kernel
theorem dX8_sheet_4 : decode cX8_sheet 4 = .ok (.ifCond .eq 25, 3) := by decide +kernel
theorem dX8_sheet_7 : decode cX8_sheet 7 = .ok (.iload_n 2, 1) := by decide +kernel
theorem dX8_sheet_8 : decode cX8_sheet 8 = .ok (.ifCond .eq 27, 3) := by decide +kernel
theorem dX8_sheet_11 : decode cX8_sheet 11 = .ok (.iload_n 2, 1) := by decide +kernel
theorem dX8_sheet_12 : decode cX8_sheet 12 = .ok (.bipush 8, 2) := by decide +kernel
theorem dX8_sheet_14 : decode cX8_sheet 14 = .ok (.if_icmp .eq 21, 3) := by decide +kernel
theorem dX8_sheet_17 : decode cX8_sheet 17 = .ok (.iload_n 2, 1) := by decide +kernel
theorem dX8_sheet_18 : decode cX8_sheet 18 = .ok (.bipush 16, 2) := by decide +kernel
theorem dX8_sheet_20 : decode cX8_sheet 20 = .ok (.if_icmp .eq 15, 3) := by decide +kernel
theorem dX8_sheet_23 : decode cX8_sheet 23 = .ok (.iload_n 2, 1) := by decide +kernel
theorem dX8_sheet_24 : decode cX8_sheet 24 = .ok (.bipush 64, 2) := by decide +kernel
theorem dX8_sheet_26 : decode cX8_sheet 26 = .ok (.if_icmp .eq 9, 3) := by decide +kernel
theorem dX8_sheet_29 : decode cX8_sheet 29 = .ok (.aload_n 0, 1) := by decide +kernel
theorem dX8_sheet_30 : decode cX8_sheet 30 = .ok (.iconst 0, 1) := by decide +kernel
theorem dX8_sheet_31 : decode cX8_sheet 31 = .ok (.invokevirtual 61, 3) := by decide +kernel
theorem dX8_sheet_34 : decode cX8_sheet 34 = .ok (.ireturn, 1) := by decide +kernel
theorem dX8_sheet_35 : decode cX8_sheet 35 = .ok (.iload_n 3, 1) := by decide +kernel
theorem dX8_sheet_36 : decode cX8_sheet 36 = .ok (.ifCond .ge 10, 3) := by decide +kernel
theorem dX8_sheet_39 : decode cX8_sheet 39 = .ok (.aload_n 0, 1) := by decide +kernel
theorem dX8_sheet_40 : decode cX8_sheet 40 = .ok (.bipush 6, 2) := by decide +kernel
theorem dX8_sheet_42 : decode cX8_sheet 42 = .ok (.invokevirtual 61, 3) := by decide +kernel
theorem dX8_sheet_45 : decode cX8_sheet 45 = .ok (.ireturn, 1) := by decide +kernel
theorem dX8_sheet_46 : decode cX8_sheet 46 = .ok (.iload_n 3, 1) := by decide +kernel
theorem dX8_sheet_47 : decode cX8_sheet 47 = .ok (.bipush 40, 2) := by decide +kernel
theorem dX8_sheet_49 : decode cX8_sheet 49 = .ok (.if_icmp .le 9, 3) := by decide +kernel
theorem dX8_sheet_52 : decode cX8_sheet 52 = .ok (.aload_n 0, 1) := by decide +kernel
theorem dX8_sheet_53 : decode cX8_sheet 53 = .ok (.iconst 0, 1) := by decide +kernel
theorem dX8_sheet_54 : decode cX8_sheet 54 = .ok (.invokevirtual 61, 3) := by decide +kernel
theorem dX8_sheet_57 : decode cX8_sheet 57 = .ok (.ireturn, 1) := by decide +kernel
theorem dX8_sheet_58 : decode cX8_sheet 58 = .ok (.aload_n 0, 1) := by decide +kernel
theorem dX8_sheet_59 : decode cX8_sheet 59 = .ok (.getfield 38, 3) := by decide +kernel
theorem dX8_sheet_62 : decode cX8_sheet 62 = .ok (.iload_n 1, 1) := by decide +kernel
theorem dX8_sheet_63 : decode cX8_sheet 63 = .ok (.aaload, 1) := by decide +kernel
theorem dX8_sheet_64 : decode cX8_sheet 64 = .ok (.iload_n 2, 1) := by decide +kernel
theorem dX8_sheet_65 : decode cX8_sheet 65 = .ok (.iload_n 2, 1) := by decide +kernel
theorem dX8_sheet_66 : decode cX8_sheet 66 = .ok (.ifCond .ne 7, 3) := by decide +kernel
theorem dX8_sheet_69 : decode cX8_sheet 69 = .ok (.iconst 0, 1) := by decide +kernel
theorem dX8_sheet_70 : decode cX8_sheet 70 = .ok (.goto 4, 3) := by decide +kernel
theorem dX8_sheet_73 : decode cX8_sheet 73 = .ok (.iload_n 3, 1) := by decide +kernel
theorem dX8_sheet_74 : decode cX8_sheet 74 = .ok (.invokevirtual 233, 3) := by decide +kernel
theorem dX8_sheet_77 : decode cX8_sheet 77 = .ok (.aload_n 0, 1) := by decide +kernel
theorem dX8_sheet_78 : decode cX8_sheet 78 = .ok (.getfield 38, 3) := by decide +kernel
theorem dX8_sheet_81 : decode cX8_sheet 81 = .ok (.iload_n 1, 1) := by decide +kernel
theorem dX8_sheet_82 : decode cX8_sheet 82 = .ok (.aaload, 1) := by decide +kernel
theorem dX8_sheet_83 : decode cX8_sheet 83 = .ok (.getfield 236, 3) := by decide +kernel
theorem dX8_sheet_86 : decode cX8_sheet 86 = .ok (.ireturn, 1) := by decide +kernel
theorem dX8_write_0 : decode cX8_write 0 = .ok (.iload_n 1, 1) := by decide +kernel
theorem dX8_write_1 : decode cX8_write 1 = .ok (.invokestatic 230, 3) := by decide +kernel
theorem dX8_write_4 : decode cX8_write 4 = .ok (.ifCond .ne 10, 3) := by decide +kernel
theorem dX8_write_7 : decode cX8_write 7 = .ok (.aload_n 0, 1) := by decide +kernel
theorem dX8_write_8 : decode cX8_write 8 = .ok (.iconst 0, 1) := by decide +kernel
theorem dX8_write_9 : decode cX8_write 9 = .ok (.invokevirtual 61, 3) := by decide +kernel
theorem dX8_write_12 : decode cX8_write 12 = .ok (.i2l, 1) := by decide +kernel
theorem dX8_write_13 : decode cX8_write 13 = .ok (.lreturn, 1) := by decide +kernel
theorem dX8_write_14 : decode cX8_write 14 = .ok (.aload_n 0, 1) := by decide +kernel
theorem dX8_write_15 : decode cX8_write 15 = .ok (.getfield 38, 3) := by decide +kernel
theorem dX8_write_18 : decode cX8_write 18 = .ok (.iload_n 1, 1) := by decide +kernel
theorem dX8_write_19 : decode cX8_write 19 = .ok (.aaload, 1) := by decide +kernel
theorem dX8_write_20 : decode cX8_write 20 = .ok (.invokevirtual 237, 3) := by decide +kernel
theorem dX8_write_23 : decode cX8_write 23 = .ok (.ifCond .eq 10, 3) := by decide +kernel
theorem dX8_write_26 : decode cX8_write 26 = .ok (.aload_n 0, 1) := by decide +kernel
theorem dX8_write_27 : decode cX8_write 27 = .ok (.iconst 5, 1) := by decide +kernel
theorem dX8_write_28 : decode cX8_write 28 = .ok (.invokevirtual 61, 3) := by decide +kernel
theorem dX8_write_31 : decode cX8_write 31 = .ok (.i2l, 1) := by decide +kernel
theorem dX8_write_32 : decode cX8_write 32 = .ok (.lreturn, 1) := by decide +kernel
theorem dX8_write_33 : decode cX8_write 33 = .ok (.iload_n 2, 1) := by decide +kernel
theorem dX8_write_34 : decode cX8_write 34 = .ok (.ifCond .lt 16, 3) := by decide +kernel
theorem dX8_write_37 : decode cX8_write 37 = .ok (.iload_n 2, 1) := by decide +kernel
theorem dX8_write_38 : decode cX8_write 38 = .ok (.aload_n 0, 1) := by decide +kernel
theorem dX8_write_39 : decode cX8_write 39 = .ok (.getfield 38, 3) := by decide +kernel
theorem dX8_write_42 : decode cX8_write 42 = .ok (.iload_n 1, 1) := by decide +kernel
theorem dX8_write_43 : decode cX8_write 43 = .ok (.aaload, 1) := by decide +kernel
theorem dX8_write_44 : decode cX8_write 44 = .ok (.getfield 236, 3) := by decide +kernel
theorem dX8_write_47 : decode cX8_write 47 = .ok (.if_icmp .lt 10, 3) := by decide +kernel
theorem dX8_write_50 : decode cX8_write 50 = .ok (.aload_n 0, 1) := by decide +kernel
theorem dX8_write_51 : decode cX8_write 51 = .ok (.iconst 0, 1) := by decide +kernel
theorem dX8_write_52 : decode cX8_write 52 = .ok (.invokevirtual 61, 3) := by decide +kernel
theorem dX8_write_55 : decode cX8_write 55 = .ok (.i2l, 1) := by decide +kernel
theorem dX8_write_56 : decode cX8_write 56 = .ok (.lreturn, 1) := by decide +kernel
theorem dX8_write_57 : decode cX8_write 57 = .ok (.aload_n 0, 1) := by decide +kernel
theorem dX8_write_58 : decode cX8_write 58 = .ok (.getfield 38, 3) := by decide +kernel
theorem dX8_write_61 : decode cX8_write 61 = .ok (.iload_n 1, 1) := by decide +kernel
theorem dX8_write_62 : decode cX8_write 62 = .ok (.aaload, 1) := by decide +kernel
theorem dX8_write_63 : decode cX8_write 63 = .ok (.getfield 240, 3) := by decide +kernel
theorem dX8_write_66 : decode cX8_write 66 = .ok (.iload_n 2, 1) := by decide +kernel
theorem dX8_write_67 : decode cX8_write 67 = .ok (.laload, 1) := by decide +kernel
theorem dX8_write_68 : decode cX8_write 68 = .ok (.lstore 5, 2) := by decide +kernel
theorem dX8_write_70 : decode cX8_write 70 = .ok (.aload_n 0, 1) := by decide +kernel
theorem dX8_write_71 : decode cX8_write 71 = .ok (.getfield 38, 3) := by decide +kernel
theorem dX8_write_74 : decode cX8_write 74 = .ok (.iload_n 1, 1) := by decide +kernel
theorem dX8_write_75 : decode cX8_write 75 = .ok (.aaload, 1) := by decide +kernel
theorem dX8_write_76 : decode cX8_write 76 = .ok (.iload_n 2, 1) := by decide +kernel
theorem dX8_write_77 : decode cX8_write 77 = .ok (.lload_n 3, 1) := by decide +kernel
theorem dX8_write_78 : decode cX8_write 78 = .ok (.invokevirtual 244, 3) := by decide +kernel
theorem dX8_write_81 : decode cX8_write 81 = .ok (.lload 5, 2) := by decide +kernel
theorem dX8_write_83 : decode cX8_write 83 = .ok (.lreturn, 1) := by decide +kernel
theorem dX8_copy_0 : decode cX8_copy 0 = .ok (.iload_n 1, 1) := by decide +kernel
theorem dX8_copy_1 : decode cX8_copy 1 = .ok (.invokestatic 230, 3) := by decide +kernel
theorem dX8_copy_4 : decode cX8_copy 4 = .ok (.ifCond .eq 10, 3) := by decide +kernel
theorem dX8_copy_7 : decode cX8_copy 7 = .ok (.iload_n 3, 1) := by decide +kernel
theorem dX8_copy_8 : decode cX8_copy 8 = .ok (.invokestatic 230, 3) := by decide +kernel
theorem dX8_copy_11 : decode cX8_copy 11 = .ok (.ifCond .ne 9, 3) := by decide +kernel
theorem dX8_copy_14 : decode cX8_copy 14 = .ok (.aload_n 0, 1) := by decide +kernel
theorem dX8_copy_15 : decode cX8_copy 15 = .ok (.iconst 0, 1) := by decide +kernel
theorem dX8_copy_16 : decode cX8_copy 16 = .ok (.invokevirtual 61, 3) := by decide +kernel
theorem dX8_copy_19 : decode cX8_copy 19 = .ok (.ireturn, 1) := by decide +kernel
theorem dX8_copy_20 : decode cX8_copy 20 = .ok (.aload_n 0, 1) := by decide +kernel
theorem dX8_copy_21 : decode cX8_copy 21 = .ok (.getfield 38, 3) := by decide +kernel
theorem dX8_copy_24 : decode cX8_copy 24 = .ok (.iload_n 1, 1) := by decide +kernel
theorem dX8_copy_25 : decode cX8_copy 25 = .ok (.aaload, 1) := by decide +kernel
theorem dX8_copy_26 : decode cX8_copy 26 = .ok (.invokevirtual 237, 3) := by decide +kernel
theorem dX8_copy_29 : decode cX8_copy 29 = .ok (.ifCond .ne 15, 3) := by decide +kernel
theorem dX8_copy_32 : decode cX8_copy 32 = .ok (.aload_n 0, 1) := by decide +kernel
theorem dX8_copy_33 : decode cX8_copy 33 = .ok (.getfield 38, 3) := by decide +kernel
theorem dX8_copy_36 : decode cX8_copy 36 = .ok (.iload_n 3, 1) := by decide +kernel
theorem dX8_copy_37 : decode cX8_copy 37 = .ok (.aaload, 1) := by decide +kernel
theorem dX8_copy_38 : decode cX8_copy 38 = .ok (.invokevirtual 237, 3) := by decide +kernel
theorem dX8_copy_41 : decode cX8_copy 41 = .ok (.ifCond .eq 9, 3) := by decide +kernel
theorem dX8_copy_44 : decode cX8_copy 44 = .ok (.aload_n 0, 1) := by decide +kernel
theorem dX8_copy_45 : decode cX8_copy 45 = .ok (.iconst 5, 1) := by decide +kernel
theorem dX8_copy_46 : decode cX8_copy 46 = .ok (.invokevirtual 61, 3) := by decide +kernel
theorem dX8_copy_49 : decode cX8_copy 49 = .ok (.ireturn, 1) := by decide +kernel
theorem dX8_copy_50 : decode cX8_copy 50 = .ok (.aload_n 0, 1) := by decide +kernel
theorem dX8_copy_51 : decode cX8_copy 51 = .ok (.getfield 38, 3) := by decide +kernel
theorem dX8_copy_54 : decode cX8_copy 54 = .ok (.iload_n 1, 1) := by decide +kernel
theorem dX8_copy_55 : decode cX8_copy 55 = .ok (.aaload, 1) := by decide +kernel
theorem dX8_copy_56 : decode cX8_copy 56 = .ok (.getfield 247, 3) := by decide +kernel
theorem dX8_copy_59 : decode cX8_copy 59 = .ok (.aload_n 0, 1) := by decide +kernel
theorem dX8_copy_60 : decode cX8_copy 60 = .ok (.getfield 38, 3) := by decide +kernel
theorem dX8_copy_63 : decode cX8_copy 63 = .ok (.iload_n 3, 1) := by decide +kernel
theorem dX8_copy_64 : decode cX8_copy 64 = .ok (.aaload, 1) := by decide +kernel
theorem dX8_copy_65 : decode cX8_copy 65 = .ok (.getfield 247, 3) := by decide +kernel
theorem dX8_copy_68 : decode cX8_copy 68 = .ok (.if_icmp .eq 9, 3) := by decide +kernel
theorem dX8_copy_71 : decode cX8_copy 71 = .ok (.aload_n 0, 1) := by decide +kernel
theorem dX8_copy_72 : decode cX8_copy 72 = .ok (.iconst 2, 1) := by decide +kernel
theorem dX8_copy_73 : decode cX8_copy 73 = .ok (.invokevirtual 61, 3) := by decide +kernel
theorem dX8_copy_76 : decode cX8_copy 76 = .ok (.ireturn, 1) := by decide +kernel
theorem dX8_copy_77 : decode cX8_copy 77 = .ok (.aload_n 0, 1) := by decide +kernel
theorem dX8_copy_78 : decode cX8_copy 78 = .ok (.getfield 38, 3) := by decide +kernel
theorem dX8_copy_81 : decode cX8_copy 81 = .ok (.iload_n 1, 1) := by decide +kernel
theorem dX8_copy_82 : decode cX8_copy 82 = .ok (.aaload, 1) := by decide +kernel
theorem dX8_copy_83 : decode cX8_copy 83 = .ok (.iload_n 2, 1) := by decide +kernel
theorem dX8_copy_84 : decode cX8_copy 84 = .ok (.iload 5, 2) := by decide +kernel
theorem dX8_copy_86 : decode cX8_copy 86 = .ok (.invokevirtual 250, 3) := by decide +kernel
theorem dX8_copy_89 : decode cX8_copy 89 = .ok (.ifCond .eq 19, 3) := by decide +kernel
theorem dX8_copy_92 : decode cX8_copy 92 = .ok (.aload_n 0, 1) := by decide +kernel
theorem dX8_copy_93 : decode cX8_copy 93 = .ok (.getfield 38, 3) := by decide +kernel
theorem dX8_copy_96 : decode cX8_copy 96 = .ok (.iload_n 3, 1) := by decide +kernel
theorem dX8_copy_97 : decode cX8_copy 97 = .ok (.aaload, 1) := by decide +kernel
theorem dX8_copy_98 : decode cX8_copy 98 = .ok (.iload 4, 2) := by decide +kernel
theorem dX8_copy_100 : decode cX8_copy 100 = .ok (.iload 5, 2) := by decide +kernel
theorem dX8_copy_102 : decode cX8_copy 102 = .ok (.invokevirtual 250, 3) := by decide +kernel
theorem dX8_copy_105 : decode cX8_copy 105 = .ok (.ifCond .ne 9, 3) := by decide +kernel
theorem dX8_copy_108 : decode cX8_copy 108 = .ok (.aload_n 0, 1) := by decide +kernel
theorem dX8_copy_109 : decode cX8_copy 109 = .ok (.iconst 0, 1) := by decide +kernel
theorem dX8_copy_110 : decode cX8_copy 110 = .ok (.invokevirtual 61, 3) := by decide +kernel
theorem dX8_copy_113 : decode cX8_copy 113 = .ok (.ireturn, 1) := by decide +kernel
theorem dX8_copy_114 : decode cX8_copy 114 = .ok (.aload_n 0, 1) := by decide +kernel
theorem dX8_copy_115 : decode cX8_copy 115 = .ok (.getfield 38, 3) := by decide +kernel
theorem dX8_copy_118 : decode cX8_copy 118 = .ok (.iload_n 1, 1) := by decide +kernel
theorem dX8_copy_119 : decode cX8_copy 119 = .ok (.aaload, 1) := by decide +kernel
theorem dX8_copy_120 : decode cX8_copy 120 = .ok (.getfield 240, 3) := by decide +kernel
theorem dX8_copy_123 : decode cX8_copy 123 = .ok (.iload_n 2, 1) := by decide +kernel
theorem dX8_copy_124 : decode cX8_copy 124 = .ok (.aload_n 0, 1) := by decide +kernel
theorem dX8_copy_125 : decode cX8_copy 125 = .ok (.getfield 38, 3) := by decide +kernel
theorem dX8_copy_128 : decode cX8_copy 128 = .ok (.iload_n 3, 1) := by decide +kernel
theorem dX8_copy_129 : decode cX8_copy 129 = .ok (.aaload, 1) := by decide +kernel
theorem dX8_copy_130 : decode cX8_copy 130 = .ok (.getfield 240, 3) := by decide +kernel
theorem dX8_copy_133 : decode cX8_copy 133 = .ok (.iload 4, 2) := by decide +kernel
theorem dX8_copy_135 : decode cX8_copy 135 = .ok (.iload 5, 2) := by decide +kernel
theorem dX8_copy_137 : decode cX8_copy 137 = .ok (.invokestatic 253, 3) := by decide +kernel
theorem dX8_copy_140 : decode cX8_copy 140 = .ok (.iload 5, 2) := by decide +kernel
theorem dX8_copy_142 : decode cX8_copy 142 = .ok (.ireturn, 1) := by decide +kernel
theorem dX8_lays_0 : decode cX8_lays 0 = .ok (.iload_n 1, 1) := by decide +kernel
theorem dX8_lays_1 : decode cX8_lays 1 = .ok (.invokestatic 230, 3) := by decide +kernel
theorem dX8_lays_4 : decode cX8_lays 4 = .ok (.ifCond .ne 9, 3) := by decide +kernel
theorem dX8_lays_7 : decode cX8_lays 7 = .ok (.aload_n 0, 1) := by decide +kernel
theorem dX8_lays_8 : decode cX8_lays 8 = .ok (.iconst 0, 1) := by decide +kernel
theorem dX8_lays_9 : decode cX8_lays 9 = .ok (.invokevirtual 61, 3) := by decide +kernel
theorem dX8_lays_12 : decode cX8_lays 12 = .ok (.ireturn, 1) := by decide +kernel
theorem dX8_lays_13 : decode cX8_lays 13 = .ok (.aload_n 0, 1) := by decide +kernel
theorem dX8_lays_14 : decode cX8_lays 14 = .ok (.getfield 38, 3) := by decide +kernel
theorem dX8_lays_17 : decode cX8_lays 17 = .ok (.iload_n 1, 1) := by decide +kernel
theorem dX8_lays_18 : decode cX8_lays 18 = .ok (.aaload, 1) := by decide +kernel
theorem dX8_lays_19 : decode cX8_lays 19 = .ok (.invokevirtual 237, 3) := by decide +kernel
theorem dX8_lays_22 : decode cX8_lays 22 = .ok (.ifCond .eq 9, 3) := by decide +kernel
theorem dX8_lays_25 : decode cX8_lays 25 = .ok (.aload_n 0, 1) := by decide +kernel
theorem dX8_lays_26 : decode cX8_lays 26 = .ok (.iconst 5, 1) := by decide +kernel
theorem dX8_lays_27 : decode cX8_lays 27 = .ok (.invokevirtual 61, 3) := by decide +kernel
theorem dX8_lays_30 : decode cX8_lays 30 = .ok (.ireturn, 1) := by decide +kernel
theorem dX8_lays_31 : decode cX8_lays 31 = .ok (.iconst 0, 1) := by decide +kernel
theorem dX8_lays_32 : decode cX8_lays 32 = .ok (.istore_n 2, 1) := by decide +kernel
theorem dX8_lays_33 : decode cX8_lays 33 = .ok (.iconst 0, 1) := by decide +kernel
theorem dX8_lays_34 : decode cX8_lays 34 = .ok (.istore_n 3, 1) := by decide +kernel
theorem dX8_lays_35 : decode cX8_lays 35 = .ok (.iload_n 3, 1) := by decide +kernel
theorem dX8_lays_36 : decode cX8_lays 36 = .ok (.aload_n 0, 1) := by decide +kernel
theorem dX8_lays_37 : decode cX8_lays 37 = .ok (.getfield 10, 3) := by decide +kernel
theorem dX8_lays_40 : decode cX8_lays 40 = .ok (.getfield 206, 3) := by decide +kernel
theorem dX8_lays_43 : decode cX8_lays 43 = .ok (.if_icmp .ge 69, 3) := by decide +kernel
theorem dX8_lays_46 : decode cX8_lays 46 = .ok (.iload_n 3, 1) := by decide +kernel
theorem dX8_lays_47 : decode cX8_lays 47 = .ok (.aload_n 0, 1) := by decide +kernel
theorem dX8_lays_48 : decode cX8_lays 48 = .ok (.getfield 38, 3) := by decide +kernel
theorem dX8_lays_51 : decode cX8_lays 51 = .ok (.iload_n 1, 1) := by decide +kernel
theorem dX8_lays_52 : decode cX8_lays 52 = .ok (.aaload, 1) := by decide +kernel
theorem dX8_lays_53 : decode cX8_lays 53 = .ok (.getfield 236, 3) := by decide +kernel
theorem dX8_lays_56 : decode cX8_lays 56 = .ok (.if_icmp .ge 56, 3) := by decide +kernel
theorem dX8_lays_59 : decode cX8_lays 59 = .ok (.aload_n 0, 1) := by decide +kernel
theorem dX8_lays_60 : decode cX8_lays 60 = .ok (.getfield 38, 3) := by decide +kernel
theorem dX8_lays_63 : decode cX8_lays 63 = .ok (.iload_n 1, 1) := by decide +kernel
theorem dX8_lays_64 : decode cX8_lays 64 = .ok (.aaload, 1) := by decide +kernel
theorem dX8_lays_65 : decode cX8_lays 65 = .ok (.getfield 240, 3) := by decide +kernel
theorem dX8_lays_68 : decode cX8_lays 68 = .ok (.iload_n 3, 1) := by decide +kernel
theorem dX8_lays_69 : decode cX8_lays 69 = .ok (.laload, 1) := by decide +kernel
theorem dX8_lays_70 : decode cX8_lays 70 = .ok (.lstore 4, 2) := by decide +kernel
theorem dX8_lays_72 : decode cX8_lays 72 = .ok (.lload 4, 2) := by decide +kernel
theorem dX8_lays_74 : decode cX8_lays 74 = .ok (.lconst 0, 1) := by decide +kernel
theorem dX8_lays_75 : decode cX8_lays 75 = .ok (.lcmp, 1) := by decide +kernel
theorem dX8_lays_76 : decode cX8_lays 76 = .ok (.ifCond .lt 30, 3) := by decide +kernel
theorem dX8_lays_79 : decode cX8_lays 79 = .ok (.lload 4, 2) := by decide +kernel
theorem dX8_lays_81 : decode cX8_lays 81 = .ok (.ldc2_w 259, 3) := by decide +kernel
theorem dX8_lays_84 : decode cX8_lays 84 = .ok (.lcmp, 1) := by decide +kernel
theorem dX8_lays_85 : decode cX8_lays 85 = .ok (.ifCond .gt 21, 3) := by decide +kernel
theorem dX8_lays_88 : decode cX8_lays 88 = .ok (.aload_n 0, 1) := by decide +kernel
theorem dX8_lays_89 : decode cX8_lays 89 = .ok (.getfield 10, 3) := by decide +kernel
theorem dX8_lays_92 : decode cX8_lays 92 = .ok (.getfield 92, 3) := by decide +kernel
theorem dX8_lays_95 : decode cX8_lays 95 = .ok (.iload_n 3, 1) := by decide +kernel
theorem dX8_lays_96 : decode cX8_lays 96 = .ok (.aaload, 1) := by decide +kernel
theorem dX8_lays_97 : decode cX8_lays 97 = .ok (.lload 4, 2) := by decide +kernel
theorem dX8_lays_99 : decode cX8_lays 99 = .ok (.l2i, 1) := by decide +kernel
theorem dX8_lays_100 : decode cX8_lays 100 = .ok (.putfield 114, 3) := by decide +kernel
theorem dX8_lays_103 : decode cX8_lays 103 = .ok (.iinc 2 1, 3) := by decide +kernel
theorem dX8_lays_106 : decode cX8_lays 106 = .ok (.iinc 3 1, 3) := by decide +kernel
theorem dX8_lays_109 : decode cX8_lays 109 = .ok (.goto (-74), 3) := by decide +kernel
theorem dX8_lays_112 : decode cX8_lays 112 = .ok (.iload_n 2, 1) := by decide +kernel
theorem dX8_lays_113 : decode cX8_lays 113 = .ok (.ireturn, 1) := by decide +kernel
theorem dX8_book_0 : decode cX8_book 0 = .ok (.iload_n 1, 1) := by decide +kernel
theorem dX8_book_1 : decode cX8_book 1 = .ok (.invokestatic 230, 3) := by decide +kernel
theorem dX8_book_4 : decode cX8_book 4 = .ok (.ifCond .ne 9, 3) := by decide +kernel
theorem dX8_book_7 : decode cX8_book 7 = .ok (.aload_n 0, 1) := by decide +kernel
theorem dX8_book_8 : decode cX8_book 8 = .ok (.iconst 0, 1) := by decide +kernel
theorem dX8_book_9 : decode cX8_book 9 = .ok (.invokevirtual 61, 3) := by decide +kernel
theorem dX8_book_12 : decode cX8_book 12 = .ok (.ireturn, 1) := by decide +kernel
theorem dX8_book_13 : decode cX8_book 13 = .ok (.aload_n 0, 1) := by decide +kernel
theorem dX8_book_14 : decode cX8_book 14 = .ok (.getfield 38, 3) := by decide +kernel
theorem dX8_book_17 : decode cX8_book 17 = .ok (.iload_n 1, 1) := by decide +kernel
theorem dX8_book_18 : decode cX8_book 18 = .ok (.aaload, 1) := by decide +kernel
theorem dX8_book_19 : decode cX8_book 19 = .ok (.invokevirtual 237, 3) := by decide +kernel
theorem dX8_book_22 : decode cX8_book 22 = .ok (.ifCond .eq 9, 3) := by decide +kernel
theorem dX8_book_25 : decode cX8_book 25 = .ok (.aload_n 0, 1) := by decide +kernel
theorem dX8_book_26 : decode cX8_book 26 = .ok (.iconst 5, 1) := by decide +kernel
theorem dX8_book_27 : decode cX8_book 27 = .ok (.invokevirtual 61, 3) := by decide +kernel
theorem dX8_book_30 : decode cX8_book 30 = .ok (.ireturn, 1) := by decide +kernel
theorem dX8_book_31 : decode cX8_book 31 = .ok (.aload_n 0, 1) := by decide +kernel
theorem dX8_book_32 : decode cX8_book 32 = .ok (.getfield 10, 3) := by decide +kernel
theorem dX8_book_35 : decode cX8_book 35 = .ok (.iload_n 2, 1) := by decide +kernel
theorem dX8_book_36 : decode cX8_book 36 = .ok (.invokevirtual 89, 3) := by decide +kernel
theorem dX8_book_39 : decode cX8_book 39 = .ok (.ifCond .ne 9, 3) := by decide +kernel
theorem dX8_book_42 : decode cX8_book 42 = .ok (.aload_n 0, 1) := by decide +kernel
theorem dX8_book_43 : decode cX8_book 43 = .ok (.iconst 0, 1) := by decide +kernel
theorem dX8_book_44 : decode cX8_book 44 = .ok (.invokevirtual 61, 3) := by decide +kernel
theorem dX8_book_47 : decode cX8_book 47 = .ok (.ireturn, 1) := by decide +kernel
theorem dX8_book_48 : decode cX8_book 48 = .ok (.aload_n 0, 1) := by decide +kernel
theorem dX8_book_49 : decode cX8_book 49 = .ok (.getfield 19, 3) := by decide +kernel
theorem dX8_book_52 : decode cX8_book 52 = .ok (.aload_n 0, 1) := by decide +kernel
theorem dX8_book_53 : decode cX8_book 53 = .ok (.getfield 10, 3) := by decide +kernel
theorem dX8_book_56 : decode cX8_book 56 = .ok (.invokevirtual 165, 3) := by decide +kernel
theorem dX8_book_59 : decode cX8_book 59 = .ok (.iconst 0, 1) := by decide +kernel
theorem dX8_book_60 : decode cX8_book 60 = .ok (.istore_n 3, 1) := by decide +kernel
theorem dX8_book_61 : decode cX8_book 61 = .ok (.iload_n 3, 1) := by decide +kernel
theorem dX8_book_62 : decode cX8_book 62 = .ok (.aload_n 0, 1) := by decide +kernel
theorem dX8_book_63 : decode cX8_book 63 = .ok (.getfield 38, 3) := by decide +kernel
theorem dX8_book_66 : decode cX8_book 66 = .ok (.iload_n 1, 1) := by decide +kernel
theorem dX8_book_67 : decode cX8_book 67 = .ok (.aaload, 1) := by decide +kernel
theorem dX8_book_68 : decode cX8_book 68 = .ok (.getfield 236, 3) := by decide +kernel
theorem dX8_book_71 : decode cX8_book 71 = .ok (.if_icmp .ge 39, 3) := by decide +kernel
theorem dX8_book_74 : decode cX8_book 74 = .ok (.aload_n 0, 1) := by decide +kernel
theorem dX8_book_75 : decode cX8_book 75 = .ok (.getfield 38, 3) := by decide +kernel
theorem dX8_book_78 : decode cX8_book 78 = .ok (.iload_n 1, 1) := by decide +kernel
theorem dX8_book_79 : decode cX8_book 79 = .ok (.aaload, 1) := by decide +kernel
theorem dX8_book_80 : decode cX8_book 80 = .ok (.iload_n 3, 1) := by decide +kernel
theorem dX8_book_81 : decode cX8_book 81 = .ok (.aload_n 0, 1) := by decide +kernel
theorem dX8_book_82 : decode cX8_book 82 = .ok (.getfield 19, 3) := by decide +kernel
theorem dX8_book_85 : decode cX8_book 85 = .ok (.getfield 92, 3) := by decide +kernel
theorem dX8_book_88 : decode cX8_book 88 = .ok (.iload_n 2, 1) := by decide +kernel
theorem dX8_book_89 : decode cX8_book 89 = .ok (.aaload, 1) := by decide +kernel
theorem dX8_book_90 : decode cX8_book 90 = .ok (.getfield 114, 3) := by decide +kernel
theorem dX8_book_93 : decode cX8_book 93 = .ok (.i2l, 1) := by decide +kernel
theorem dX8_book_94 : decode cX8_book 94 = .ok (.invokevirtual 244, 3) := by decide +kernel
theorem dX8_book_97 : decode cX8_book 97 = .ok (.aload_n 0, 1) := by decide +kernel
theorem dX8_book_98 : decode cX8_book 98 = .ok (.getfield 19, 3) := by decide +kernel
theorem dX8_book_101 : decode cX8_book 101 = .ok (.invokevirtual 169, 3) := by decide +kernel
theorem dX8_book_104 : decode cX8_book 104 = .ok (.iinc 3 1, 3) := by decide +kernel
theorem dX8_book_107 : decode cX8_book 107 = .ok (.goto (-46), 3) := by decide +kernel
theorem dX8_book_110 : decode cX8_book 110 = .ok (.aload_n 0, 1) := by decide +kernel
theorem dX8_book_111 : decode cX8_book 111 = .ok (.getfield 38, 3) := by decide +kernel
theorem dX8_book_114 : decode cX8_book 114 = .ok (.iload_n 1, 1) := by decide +kernel
theorem dX8_book_115 : decode cX8_book 115 = .ok (.aaload, 1) := by decide +kernel
theorem dX8_book_116 : decode cX8_book 116 = .ok (.getfield 236, 3) := by decide +kernel
theorem dX8_book_119 : decode cX8_book 119 = .ok (.ireturn, 1) := by decide +kernel
theorem dX8_read_0 : decode cX8_read 0 = .ok (.iload_n 1, 1) := by decide +kernel
theorem dX8_read_1 : decode cX8_read 1 = .ok (.invokestatic 230, 3) := by decide +kernel
theorem dX8_read_4 : decode cX8_read 4 = .ok (.ifCond .ne 9, 3) := by decide +kernel
theorem dX8_read_7 : decode cX8_read 7 = .ok (.aload_n 0, 1) := by decide +kernel
theorem dX8_read_8 : decode cX8_read 8 = .ok (.iconst 0, 1) := by decide +kernel
theorem dX8_read_9 : decode cX8_read 9 = .ok (.invokevirtual 61, 3) := by decide +kernel
theorem dX8_read_12 : decode cX8_read 12 = .ok (.ireturn, 1) := by decide +kernel
theorem dX8_read_13 : decode cX8_read 13 = .ok (.aload_n 0, 1) := by decide +kernel
theorem dX8_read_14 : decode cX8_read 14 = .ok (.getfield 38, 3) := by decide +kernel
theorem dX8_read_17 : decode cX8_read 17 = .ok (.iload_n 1, 1) := by decide +kernel
theorem dX8_read_18 : decode cX8_read 18 = .ok (.aaload, 1) := by decide +kernel
theorem dX8_read_19 : decode cX8_read 19 = .ok (.invokevirtual 237, 3) := by decide +kernel
theorem dX8_read_22 : decode cX8_read 22 = .ok (.ifCond .eq 9, 3) := by decide +kernel
theorem dX8_read_25 : decode cX8_read 25 = .ok (.aload_n 0, 1) := by decide +kernel
theorem dX8_read_26 : decode cX8_read 26 = .ok (.iconst 5, 1) := by decide +kernel
theorem dX8_read_27 : decode cX8_read 27 = .ok (.invokevirtual 61, 3) := by decide +kernel
theorem dX8_read_30 : decode cX8_read 30 = .ok (.ireturn, 1) := by decide +kernel
theorem dX8_read_31 : decode cX8_read 31 = .ok (.aload_n 0, 1) := by decide +kernel
theorem dX8_read_32 : decode cX8_read 32 = .ok (.getfield 10, 3) := by decide +kernel
theorem dX8_read_35 : decode cX8_read 35 = .ok (.iload_n 2, 1) := by decide +kernel
theorem dX8_read_36 : decode cX8_read 36 = .ok (.invokevirtual 89, 3) := by decide +kernel
theorem dX8_read_39 : decode cX8_read 39 = .ok (.ifCond .ne 9, 3) := by decide +kernel
theorem dX8_read_42 : decode cX8_read 42 = .ok (.aload_n 0, 1) := by decide +kernel
theorem dX8_read_43 : decode cX8_read 43 = .ok (.iconst 0, 1) := by decide +kernel
theorem dX8_read_44 : decode cX8_read 44 = .ok (.invokevirtual 61, 3) := by decide +kernel
theorem dX8_read_47 : decode cX8_read 47 = .ok (.ireturn, 1) := by decide +kernel
theorem dX8_read_48 : decode cX8_read 48 = .ok (.aload_n 0, 1) := by decide +kernel
theorem dX8_read_49 : decode cX8_read 49 = .ok (.getfield 10, 3) := by decide +kernel
theorem dX8_read_52 : decode cX8_read 52 = .ok (.getfield 92, 3) := by decide +kernel
theorem dX8_read_55 : decode cX8_read 55 = .ok (.iload_n 2, 1) := by decide +kernel
theorem dX8_read_56 : decode cX8_read 56 = .ok (.aaload, 1) := by decide +kernel
theorem dX8_read_57 : decode cX8_read 57 = .ok (.invokevirtual 124, 3) := by decide +kernel
theorem dX8_read_60 : decode cX8_read 60 = .ok (.ifCond .eq 8, 3) := by decide +kernel
theorem dX8_read_63 : decode cX8_read 63 = .ok (.bipush 9, 2) := by decide +kernel
theorem dX8_read_65 : decode cX8_read 65 = .ok (.goto 4, 3) := by decide +kernel
theorem dX8_read_68 : decode cX8_read 68 = .ok (.iconst 0, 1) := by decide +kernel
theorem dX8_read_69 : decode cX8_read 69 = .ok (.istore_n 3, 1) := by decide +kernel
theorem dX8_read_70 : decode cX8_read 70 = .ok (.iconst 0, 1) := by decide +kernel
theorem dX8_read_71 : decode cX8_read 71 = .ok (.istore 4, 2) := by decide +kernel
theorem dX8_read_73 : decode cX8_read 73 = .ok (.iconst 0, 1) := by decide +kernel
theorem dX8_read_74 : decode cX8_read 74 = .ok (.istore 5, 2) := by decide +kernel
theorem dX8_read_76 : decode cX8_read 76 = .ok (.iload 5, 2) := by decide +kernel
theorem dX8_read_78 : decode cX8_read 78 = .ok (.bipush 6, 2) := by decide +kernel
theorem dX8_read_80 : decode cX8_read 80 = .ok (.if_icmp .ge 80, 3) := by decide +kernel
theorem dX8_read_83 : decode cX8_read 83 = .ok (.iconst 0, 1) := by decide +kernel
theorem dX8_read_84 : decode cX8_read 84 = .ok (.istore 6, 2) := by decide +kernel
theorem dX8_read_86 : decode cX8_read 86 = .ok (.iload 6, 2) := by decide +kernel
theorem dX8_read_88 : decode cX8_read 88 = .ok (.iload_n 3, 1) := by decide +kernel
theorem dX8_read_89 : decode cX8_read 89 = .ok (.if_icmp .gt 65, 3) := by decide +kernel
theorem dX8_read_92 : decode cX8_read 92 = .ok (.aload_n 0, 1) := by decide +kernel
theorem dX8_read_93 : decode cX8_read 93 = .ok (.getfield 19, 3) := by decide +kernel
theorem dX8_read_96 : decode cX8_read 96 = .ok (.aload_n 0, 1) := by decide +kernel
theorem dX8_read_97 : decode cX8_read 97 = .ok (.getfield 10, 3) := by decide +kernel
theorem dX8_read_100 : decode cX8_read 100 = .ok (.invokevirtual 165, 3) := by decide +kernel
theorem dX8_read_103 : decode cX8_read 103 = .ok (.aload_n 0, 1) := by decide +kernel
theorem dX8_read_104 : decode cX8_read 104 = .ok (.getfield 19, 3) := by decide +kernel
theorem dX8_read_107 : decode cX8_read 107 = .ok (.getfield 92, 3) := by decide +kernel
theorem dX8_read_110 : decode cX8_read 110 = .ok (.iload_n 2, 1) := by decide +kernel
theorem dX8_read_111 : decode cX8_read 111 = .ok (.aaload, 1) := by decide +kernel
theorem dX8_read_112 : decode cX8_read 112 = .ok (.iload 5, 2) := by decide +kernel
theorem dX8_read_114 : decode cX8_read 114 = .ok (.putfield 105, 3) := by decide +kernel
theorem dX8_read_117 : decode cX8_read 117 = .ok (.aload_n 0, 1) := by decide +kernel
theorem dX8_read_118 : decode cX8_read 118 = .ok (.getfield 19, 3) := by decide +kernel
theorem dX8_read_121 : decode cX8_read 121 = .ok (.getfield 92, 3) := by decide +kernel
theorem dX8_read_124 : decode cX8_read 124 = .ok (.iload_n 2, 1) := by decide +kernel
theorem dX8_read_125 : decode cX8_read 125 = .ok (.aaload, 1) := by decide +kernel
theorem dX8_read_126 : decode cX8_read 126 = .ok (.iload 6, 2) := by decide +kernel
theorem dX8_read_128 : decode cX8_read 128 = .ok (.putfield 133, 3) := by decide +kernel
theorem dX8_read_131 : decode cX8_read 131 = .ok (.aload_n 0, 1) := by decide +kernel
theorem dX8_read_132 : decode cX8_read 132 = .ok (.aload_n 0, 1) := by decide +kernel
theorem dX8_read_133 : decode cX8_read 133 = .ok (.getfield 38, 3) := by decide +kernel
theorem dX8_read_136 : decode cX8_read 136 = .ok (.iload_n 1, 1) := by decide +kernel
theorem dX8_read_137 : decode cX8_read 137 = .ok (.aaload, 1) := by decide +kernel
theorem dX8_read_138 : decode cX8_read 138 = .ok (.iload_n 2, 1) := by decide +kernel
theorem dX8_read_139 : decode cX8_read 139 = .ok (.invokevirtual 261, 3) := by decide +kernel
theorem dX8_read_142 : decode cX8_read 142 = .ok (.ifCond .eq 6, 3) := by decide +kernel
theorem dX8_read_145 : decode cX8_read 145 = .ok (.iinc 4 1, 3) := by decide +kernel
theorem dX8_read_148 : decode cX8_read 148 = .ok (.iinc 6 1, 3) := by decide +kernel
theorem dX8_read_151 : decode cX8_read 151 = .ok (.goto (-65), 3) := by decide +kernel
theorem dX8_read_154 : decode cX8_read 154 = .ok (.iinc 5 1, 3) := by decide +kernel
theorem dX8_read_157 : decode cX8_read 157 = .ok (.goto (-81), 3) := by decide +kernel
theorem dX8_read_160 : decode cX8_read 160 = .ok (.iload 4, 2) := by decide +kernel
theorem dX8_read_162 : decode cX8_read 162 = .ok (.ireturn, 1) := by decide +kernel
theorem dX8_image_0 : decode cX8_image 0 = .ok (.aload_n 0, 1) := by decide +kernel
theorem dX8_image_1 : decode cX8_image 1 = .ok (.getfield 16, 3) := by decide +kernel
theorem dX8_image_4 : decode cX8_image 4 = .ok (.aload_n 0, 1) := by decide +kernel
theorem dX8_image_5 : decode cX8_image 5 = .ok (.getfield 10, 3) := by decide +kernel
theorem dX8_image_8 : decode cX8_image 8 = .ok (.invokevirtual 165, 3) := by decide +kernel
theorem dX8_image_11 : decode cX8_image 11 = .ok (.aload_n 0, 1) := by decide +kernel
theorem dX8_image_12 : decode cX8_image 12 = .ok (.iconst 1, 1) := by decide +kernel
theorem dX8_image_13 : decode cX8_image 13 = .ok (.putfield 46, 3) := by decide +kernel
theorem dX8_image_16 : decode cX8_image 16 = .ok (.iconst 1, 1) := by decide +kernel
theorem dX8_image_17 : decode cX8_image 17 = .ok (.ireturn, 1) := by decide +kernel
theorem dX8_undo_0 : decode cX8_undo 0 = .ok (.aload_n 0, 1) := by decide +kernel
theorem dX8_undo_1 : decode cX8_undo 1 = .ok (.getfield 46, 3) := by decide +kernel
theorem dX8_undo_4 : decode cX8_undo 4 = .ok (.ifCond .ne 9, 3) := by decide +kernel
theorem dX8_undo_7 : decode cX8_undo 7 = .ok (.aload_n 0, 1) := by decide +kernel
theorem dX8_undo_8 : decode cX8_undo 8 = .ok (.iconst 3, 1) := by decide +kernel
theorem dX8_undo_9 : decode cX8_undo 9 = .ok (.invokevirtual 61, 3) := by decide +kernel
theorem dX8_undo_12 : decode cX8_undo 12 = .ok (.ireturn, 1) := by decide +kernel
theorem dX8_undo_13 : decode cX8_undo 13 = .ok (.aload_n 0, 1) := by decide +kernel
theorem dX8_undo_14 : decode cX8_undo 14 = .ok (.getfield 10, 3) := by decide +kernel
theorem dX8_undo_17 : decode cX8_undo 17 = .ok (.aload_n 0, 1) := by decide +kernel
theorem dX8_undo_18 : decode cX8_undo 18 = .ok (.getfield 16, 3) := by decide +kernel
theorem dX8_undo_21 : decode cX8_undo 21 = .ok (.invokevirtual 165, 3) := by decide +kernel
theorem dX8_undo_24 : decode cX8_undo 24 = .ok (.aload_n 0, 1) := by decide +kernel
theorem dX8_undo_25 : decode cX8_undo 25 = .ok (.getfield 10, 3) := by decide +kernel
theorem dX8_undo_28 : decode cX8_undo 28 = .ok (.getfield 206, 3) := by decide +kernel
theorem dX8_undo_31 : decode cX8_undo 31 = .ok (.ireturn, 1) := by decide +kernel
theorem dX8_tear_0 : decode cX8_tear 0 = .ok (.aload_n 0, 1) := by decide +kernel
theorem dX8_tear_1 : decode cX8_tear 1 = .ok (.getfield 46, 3) := by decide +kernel
theorem dX8_tear_4 : decode cX8_tear 4 = .ok (.ifCond .eq 7, 3) := by decide +kernel
theorem dX8_tear_7 : decode cX8_tear 7 = .ok (.iconst 1, 1) := by decide +kernel
theorem dX8_tear_8 : decode cX8_tear 8 = .ok (.goto 4, 3) := by decide +kernel
theorem dX8_tear_11 : decode cX8_tear 11 = .ok (.iconst 0, 1) := by decide +kernel
theorem dX8_tear_12 : decode cX8_tear 12 = .ok (.istore_n 1, 1) := by decide +kernel
theorem dX8_tear_13 : decode cX8_tear 13 = .ok (.aload_n 0, 1) := by decide +kernel
theorem dX8_tear_14 : decode cX8_tear 14 = .ok (.iconst 0, 1) := by decide +kernel
theorem dX8_tear_15 : decode cX8_tear 15 = .ok (.putfield 46, 3) := by decide +kernel
theorem dX8_tear_18 : decode cX8_tear 18 = .ok (.iload_n 1, 1) := by decide +kernel
theorem dX8_tear_19 : decode cX8_tear 19 = .ok (.ireturn, 1) := by decide +kernel
theorem dX8_count_0 : decode cX8_count 0 = .ok (.iload_n 1, 1) := by decide +kernel
theorem dX8_count_1 : decode cX8_count 1 = .ok (.tableswitch 69 0 3 #[31, 39, 50, 61], 31) := by decide +kernel
theorem dX8_count_32 : decode cX8_count 32 = .ok (.aload_n 0, 1) := by decide +kernel
theorem dX8_count_33 : decode cX8_count 33 = .ok (.getfield 10, 3) := by decide +kernel
theorem dX8_count_36 : decode cX8_count 36 = .ok (.getfield 206, 3) := by decide +kernel
theorem dX8_count_39 : decode cX8_count 39 = .ok (.ireturn, 1) := by decide +kernel
theorem dX8_count_40 : decode cX8_count 40 = .ok (.aload_n 0, 1) := by decide +kernel
theorem dX8_count_41 : decode cX8_count 41 = .ok (.getfield 25, 3) := by decide +kernel
theorem dX8_count_44 : decode cX8_count 44 = .ok (.getfield 209, 3) := by decide +kernel
theorem dX8_count_47 : decode cX8_count 47 = .ok (.getfield 213, 3) := by decide +kernel
theorem dX8_count_50 : decode cX8_count 50 = .ok (.ireturn, 1) := by decide +kernel
theorem dX8_count_51 : decode cX8_count 51 = .ok (.aload_n 0, 1) := by decide +kernel
theorem dX8_count_52 : decode cX8_count 52 = .ok (.getfield 10, 3) := by decide +kernel
theorem dX8_count_55 : decode cX8_count 55 = .ok (.invokevirtual 152, 3) := by decide +kernel
theorem dX8_count_58 : decode cX8_count 58 = .ok (.invokestatic 181, 3) := by decide +kernel
theorem dX8_count_61 : decode cX8_count 61 = .ok (.ireturn, 1) := by decide +kernel
theorem dX8_count_62 : decode cX8_count 62 = .ok (.aload_n 0, 1) := by decide +kernel
theorem dX8_count_63 : decode cX8_count 63 = .ok (.getfield 10, 3) := by decide +kernel
theorem dX8_count_66 : decode cX8_count 66 = .ok (.invokevirtual 265, 3) := by decide +kernel
theorem dX8_count_69 : decode cX8_count 69 = .ok (.ireturn, 1) := by decide +kernel
theorem dX8_count_70 : decode cX8_count 70 = .ok (.aload_n 0, 1) := by decide +kernel
theorem dX8_count_71 : decode cX8_count 71 = .ok (.iconst 0, 1) := by decide +kernel
theorem dX8_count_72 : decode cX8_count 72 = .ok (.invokevirtual 61, 3) := by decide +kernel
theorem dX8_count_75 : decode cX8_count 75 = .ok (.ireturn, 1) := by decide +kernel
theorem dX8_status_0 : decode cX8_status 0 = .ok (.iload_n 1, 1) := by decide +kernel
theorem dX8_status_1 : decode cX8_status 1 = .ok (.iconst (-1), 1) := by decide +kernel
theorem dX8_status_2 : decode cX8_status 2 = .ok (.if_icmp .lt 9, 3) := by decide +kernel
theorem dX8_status_5 : decode cX8_status 5 = .ok (.iload_n 1, 1) := by decide +kernel
theorem dX8_status_6 : decode cX8_status 6 = .ok (.bipush 7, 2) := by decide +kernel
theorem dX8_status_8 : decode cX8_status 8 = .ok (.if_icmp .lt 9, 3) := by decide +kernel
theorem dX8_status_11 : decode cX8_status 11 = .ok (.aload_n 0, 1) := by decide +kernel
theorem dX8_status_12 : decode cX8_status 12 = .ok (.iconst 0, 1) := by decide +kernel
theorem dX8_status_13 : decode cX8_status 13 = .ok (.invokevirtual 61, 3) := by decide +kernel
theorem dX8_status_16 : decode cX8_status 16 = .ok (.ireturn, 1) := by decide +kernel
theorem dX8_status_17 : decode cX8_status 17 = .ok (.iload_n 1, 1) := by decide +kernel
theorem dX8_status_18 : decode cX8_status 18 = .ok (.ifCond .lt 10, 3) := by decide +kernel
theorem dX8_status_21 : decode cX8_status 21 = .ok (.aload_n 0, 1) := by decide +kernel
theorem dX8_status_22 : decode cX8_status 22 = .ok (.getfield 42, 3) := by decide +kernel
theorem dX8_status_25 : decode cX8_status 25 = .ok (.iload_n 1, 1) := by decide +kernel
theorem dX8_status_26 : decode cX8_status 26 = .ok (.iaload, 1) := by decide +kernel
theorem dX8_status_27 : decode cX8_status 27 = .ok (.ireturn, 1) := by decide +kernel
theorem dX8_status_28 : decode cX8_status 28 = .ok (.iconst 0, 1) := by decide +kernel
theorem dX8_status_29 : decode cX8_status 29 = .ok (.istore_n 2, 1) := by decide +kernel
theorem dX8_status_30 : decode cX8_status 30 = .ok (.iconst 0, 1) := by decide +kernel
theorem dX8_status_31 : decode cX8_status 31 = .ok (.istore_n 3, 1) := by decide +kernel
theorem dX8_status_32 : decode cX8_status 32 = .ok (.iload_n 3, 1) := by decide +kernel
theorem dX8_status_33 : decode cX8_status 33 = .ok (.bipush 7, 2) := by decide +kernel
theorem dX8_status_35 : decode cX8_status 35 = .ok (.if_icmp .ge 18, 3) := by decide +kernel
theorem dX8_status_38 : decode cX8_status 38 = .ok (.iload_n 2, 1) := by decide +kernel
theorem dX8_status_39 : decode cX8_status 39 = .ok (.aload_n 0, 1) := by decide +kernel
theorem dX8_status_40 : decode cX8_status 40 = .ok (.getfield 42, 3) := by decide +kernel
theorem dX8_status_43 : decode cX8_status 43 = .ok (.iload_n 3, 1) := by decide +kernel
theorem dX8_status_44 : decode cX8_status 44 = .ok (.iaload, 1) := by decide +kernel
theorem dX8_status_45 : decode cX8_status 45 = .ok (.iadd, 1) := by decide +kernel
theorem dX8_status_46 : decode cX8_status 46 = .ok (.istore_n 2, 1) := by decide +kernel
theorem dX8_status_47 : decode cX8_status 47 = .ok (.iinc 3 1, 3) := by decide +kernel
theorem dX8_status_50 : decode cX8_status 50 = .ok (.goto (-18), 3) := by decide +kernel
theorem dX8_status_53 : decode cX8_status 53 = .ok (.iload_n 2, 1) := by decide +kernel
theorem dX8_status_54 : decode cX8_status 54 = .ok (.ireturn, 1) := by decide +kernel
theorem dX8_tell_0 : decode cX8_tell 0 = .ok (.aload_n 0, 1) := by decide +kernel
theorem dX8_tell_1 : decode cX8_tell 1 = .ok (.getfield 42, 3) := by decide +kernel
theorem dX8_tell_4 : decode cX8_tell 4 = .ok (.iload_n 1, 1) := by decide +kernel
theorem dX8_tell_5 : decode cX8_tell 5 = .ok (.dup2, 1) := by decide +kernel
theorem dX8_tell_6 : decode cX8_tell 6 = .ok (.iaload, 1) := by decide +kernel
theorem dX8_tell_7 : decode cX8_tell 7 = .ok (.iconst 1, 1) := by decide +kernel
theorem dX8_tell_8 : decode cX8_tell 8 = .ok (.iadd, 1) := by decide +kernel
theorem dX8_tell_9 : decode cX8_tell 9 = .ok (.iastore, 1) := by decide +kernel
theorem dX8_tell_10 : decode cX8_tell 10 = .ok (.ldc_w 268, 3) := by decide +kernel
theorem dX8_tell_13 : decode cX8_tell 13 = .ok (.iload_n 1, 1) := by decide +kernel
theorem dX8_tell_14 : decode cX8_tell 14 = .ok (.isub, 1) := by decide +kernel
theorem dX8_tell_15 : decode cX8_tell 15 = .ok (.ireturn, 1) := by decide +kernel
theorem dX8_staysInTrial_0 : decode cX8_staysInTrial 0 = .ok (.aload_n 0, 1) := by decide +kernel
theorem dX8_staysInTrial_1 : decode cX8_staysInTrial 1 = .ok (.getfield 19, 3) := by decide +kernel
theorem dX8_staysInTrial_4 : decode cX8_staysInTrial 4 = .ok (.iload_n 2, 1) := by decide +kernel
theorem dX8_staysInTrial_5 : decode cX8_staysInTrial 5 = .ok (.invokevirtual 149, 3) := by decide +kernel
theorem dX8_staysInTrial_8 : decode cX8_staysInTrial 8 = .ok (.aload_n 0, 1) := by decide +kernel
theorem dX8_staysInTrial_9 : decode cX8_staysInTrial 9 = .ok (.getfield 19, 3) := by decide +kernel
theorem dX8_staysInTrial_12 : decode cX8_staysInTrial 12 = .ok (.getfield 92, 3) := by decide +kernel
theorem dX8_staysInTrial_15 : decode cX8_staysInTrial 15 = .ok (.iload_n 1, 1) := by decide +kernel
theorem dX8_staysInTrial_16 : decode cX8_staysInTrial 16 = .ok (.aaload, 1) := by decide +kernel
theorem dX8_staysInTrial_17 : decode cX8_staysInTrial 17 = .ok (.invokevirtual 124, 3) := by decide +kernel
theorem dX8_staysInTrial_20 : decode cX8_staysInTrial 20 = .ok (.ireturn, 1) := by decide +kernel
theorem dX8_trialTells_0 : decode cX8_trialTells 0 = .ok (.iconst 0, 1) := by decide +kernel
theorem dX8_trialTells_1 : decode cX8_trialTells 1 = .ok (.istore_n 3, 1) := by decide +kernel
theorem dX8_trialTells_2 : decode cX8_trialTells 2 = .ok (.iload_n 3, 1) := by decide +kernel
theorem dX8_trialTells_3 : decode cX8_trialTells 3 = .ok (.aload_n 1, 1) := by decide +kernel
theorem dX8_trialTells_4 : decode cX8_trialTells 4 = .ok (.getfield 236, 3) := by decide +kernel
theorem dX8_trialTells_7 : decode cX8_trialTells 7 = .ok (.if_icmp .ge 41, 3) := by decide +kernel
theorem dX8_trialTells_10 : decode cX8_trialTells 10 = .ok (.aload_n 1, 1) := by decide +kernel
theorem dX8_trialTells_11 : decode cX8_trialTells 11 = .ok (.getfield 240, 3) := by decide +kernel
theorem dX8_trialTells_14 : decode cX8_trialTells 14 = .ok (.iload_n 3, 1) := by decide +kernel
theorem dX8_trialTells_15 : decode cX8_trialTells 15 = .ok (.laload, 1) := by decide +kernel
theorem dX8_trialTells_16 : decode cX8_trialTells 16 = .ok (.aload_n 0, 1) := by decide +kernel
theorem dX8_trialTells_17 : decode cX8_trialTells 17 = .ok (.getfield 19, 3) := by decide +kernel
theorem dX8_trialTells_20 : decode cX8_trialTells 20 = .ok (.getfield 92, 3) := by decide +kernel
theorem dX8_trialTells_23 : decode cX8_trialTells 23 = .ok (.iload_n 2, 1) := by decide +kernel
theorem dX8_trialTells_24 : decode cX8_trialTells 24 = .ok (.aaload, 1) := by decide +kernel
theorem dX8_trialTells_25 : decode cX8_trialTells 25 = .ok (.getfield 114, 3) := by decide +kernel
theorem dX8_trialTells_28 : decode cX8_trialTells 28 = .ok (.i2l, 1) := by decide +kernel
theorem dX8_trialTells_29 : decode cX8_trialTells 29 = .ok (.lcmp, 1) := by decide +kernel
theorem dX8_trialTells_30 : decode cX8_trialTells 30 = .ok (.ifCond .eq 5, 3) := by decide +kernel
theorem dX8_trialTells_33 : decode cX8_trialTells 33 = .ok (.iconst 0, 1) := by decide +kernel
theorem dX8_trialTells_34 : decode cX8_trialTells 34 = .ok (.ireturn, 1) := by decide +kernel
theorem dX8_trialTells_35 : decode cX8_trialTells 35 = .ok (.aload_n 0, 1) := by decide +kernel
theorem dX8_trialTells_36 : decode cX8_trialTells 36 = .ok (.getfield 19, 3) := by decide +kernel
theorem dX8_trialTells_39 : decode cX8_trialTells 39 = .ok (.invokevirtual 169, 3) := by decide +kernel
theorem dX8_trialTells_42 : decode cX8_trialTells 42 = .ok (.iinc 3 1, 3) := by decide +kernel
theorem dX8_trialTells_45 : decode cX8_trialTells 45 = .ok (.goto (-43), 3) := by decide +kernel
theorem dX8_trialTells_48 : decode cX8_trialTells 48 = .ok (.iconst 1, 1) := by decide +kernel
theorem dX8_trialTells_49 : decode cX8_trialTells 49 = .ok (.ireturn, 1) := by decide +kernel
theorem dX8_isSeat_0 : decode cX8_isSeat 0 = .ok (.iload_n 0, 1) := by decide +kernel
theorem dX8_isSeat_1 : decode cX8_isSeat 1 = .ok (.ifCond .lt 12, 3) := by decide +kernel
theorem dX8_isSeat_4 : decode cX8_isSeat 4 = .ok (.iload_n 0, 1) := by decide +kernel
theorem dX8_isSeat_5 : decode cX8_isSeat 5 = .ok (.iconst 3, 1) := by decide +kernel
theorem dX8_isSeat_6 : decode cX8_isSeat 6 = .ok (.if_icmp .ge 7, 3) := by decide +kernel
theorem dX8_isSeat_9 : decode cX8_isSeat 9 = .ok (.iconst 1, 1) := by decide +kernel
theorem dX8_isSeat_10 : decode cX8_isSeat 10 = .ok (.goto 4, 3) := by decide +kernel
theorem dX8_isSeat_13 : decode cX8_isSeat 13 = .ok (.iconst 0, 1) := by decide +kernel
theorem dX8_isSeat_14 : decode cX8_isSeat 14 = .ok (.ireturn, 1) := by decide +kernel
theorem dX8_isKind_0 : decode cX8_isKind 0 = .ok (.iload_n 0, 1) := by decide +kernel
theorem dX8_isKind_1 : decode cX8_isKind 1 = .ok (.ifCond .lt 13, 3) := by decide +kernel
theorem dX8_isKind_4 : decode cX8_isKind 4 = .ok (.iload_n 0, 1) := by decide +kernel
theorem dX8_isKind_5 : decode cX8_isKind 5 = .ok (.bipush 6, 2) := by decide +kernel
theorem dX8_isKind_7 : decode cX8_isKind 7 = .ok (.if_icmp .ge 7, 3) := by decide +kernel
theorem dX8_isKind_10 : decode cX8_isKind 10 = .ok (.iconst 1, 1) := by decide +kernel
theorem dX8_isKind_11 : decode cX8_isKind 11 = .ok (.goto 4, 3) := by decide +kernel
theorem dX8_isKind_14 : decode cX8_isKind 14 = .ok (.iconst 0, 1) := by decide +kernel
theorem dX8_isKind_15 : decode cX8_isKind 15 = .ok (.ireturn, 1) := by decide +kernel
theorem dX8_isSheet_0 : decode cX8_isSheet 0 = .ok (.iload_n 0, 1) := by decide +kernel
theorem dX8_isSheet_1 : decode cX8_isSheet 1 = .ok (.ifCond .lt 12, 3) := by decide +kernel
theorem dX8_isSheet_4 : decode cX8_isSheet 4 = .ok (.iload_n 0, 1) := by decide +kernel
theorem dX8_isSheet_5 : decode cX8_isSheet 5 = .ok (.iconst 4, 1) := by decide +kernel
theorem dX8_isSheet_6 : decode cX8_isSheet 6 = .ok (.if_icmp .ge 7, 3) := by decide +kernel
theorem dX8_isSheet_9 : decode cX8_isSheet 9 = .ok (.iconst 1, 1) := by decide +kernel
theorem dX8_isSheet_10 : decode cX8_isSheet 10 = .ok (.goto 4, 3) := by decide +kernel
theorem dX8_isSheet_13 : decode cX8_isSheet 13 = .ok (.iconst 0, 1) := by decide +kernel
theorem dX8_isSheet_14 : decode cX8_isSheet 14 = .ok (.ireturn, 1) := by decide +kernel
theorem dJ6_bitCount_0f7a4_0 : decode cJ6_bitCount_0f7a4 0 = .ok (.iload_n 0, 1) := by decide +kernel
theorem dJ6_bitCount_0f7a4_1 : decode cJ6_bitCount_0f7a4 1 = .ok (.iload_n 0, 1) := by decide +kernel
theorem dJ6_bitCount_0f7a4_2 : decode cJ6_bitCount_0f7a4 2 = .ok (.iconst 1, 1) := by decide +kernel
theorem dJ6_bitCount_0f7a4_3 : decode cJ6_bitCount_0f7a4 3 = .ok (.iushr, 1) := by decide +kernel
theorem dJ6_bitCount_0f7a4_4 : decode cJ6_bitCount_0f7a4 4 = .ok (.ldc_w 265, 3) := by decide +kernel
theorem dJ6_bitCount_0f7a4_7 : decode cJ6_bitCount_0f7a4 7 = .ok (.iand, 1) := by decide +kernel
theorem dJ6_bitCount_0f7a4_8 : decode cJ6_bitCount_0f7a4 8 = .ok (.isub, 1) := by decide +kernel
theorem dJ6_bitCount_0f7a4_9 : decode cJ6_bitCount_0f7a4 9 = .ok (.istore_n 0, 1) := by decide +kernel
theorem dJ6_bitCount_0f7a4_10 : decode cJ6_bitCount_0f7a4 10 = .ok (.iload_n 0, 1) := by decide +kernel
theorem dJ6_bitCount_0f7a4_11 : decode cJ6_bitCount_0f7a4 11 = .ok (.ldc_w 266, 3) := by decide +kernel
theorem dJ6_bitCount_0f7a4_14 : decode cJ6_bitCount_0f7a4 14 = .ok (.iand, 1) := by decide +kernel
theorem dJ6_bitCount_0f7a4_15 : decode cJ6_bitCount_0f7a4 15 = .ok (.iload_n 0, 1) := by decide +kernel
theorem dJ6_bitCount_0f7a4_16 : decode cJ6_bitCount_0f7a4 16 = .ok (.iconst 2, 1) := by decide +kernel
theorem dJ6_bitCount_0f7a4_17 : decode cJ6_bitCount_0f7a4 17 = .ok (.iushr, 1) := by decide +kernel
theorem dJ6_bitCount_0f7a4_18 : decode cJ6_bitCount_0f7a4 18 = .ok (.ldc_w 266, 3) := by decide +kernel
theorem dJ6_bitCount_0f7a4_21 : decode cJ6_bitCount_0f7a4 21 = .ok (.iand, 1) := by decide +kernel
theorem dJ6_bitCount_0f7a4_22 : decode cJ6_bitCount_0f7a4 22 = .ok (.iadd, 1) := by decide +kernel
theorem dJ6_bitCount_0f7a4_23 : decode cJ6_bitCount_0f7a4 23 = .ok (.istore_n 0, 1) := by decide +kernel
theorem dJ6_bitCount_0f7a4_24 : decode cJ6_bitCount_0f7a4 24 = .ok (.iload_n 0, 1) := by decide +kernel
theorem dJ6_bitCount_0f7a4_25 : decode cJ6_bitCount_0f7a4 25 = .ok (.iload_n 0, 1) := by decide +kernel
theorem dJ6_bitCount_0f7a4_26 : decode cJ6_bitCount_0f7a4 26 = .ok (.iconst 4, 1) := by decide +kernel
theorem dJ6_bitCount_0f7a4_27 : decode cJ6_bitCount_0f7a4 27 = .ok (.iushr, 1) := by decide +kernel
theorem dJ6_bitCount_0f7a4_28 : decode cJ6_bitCount_0f7a4 28 = .ok (.iadd, 1) := by decide +kernel
theorem dJ6_bitCount_0f7a4_29 : decode cJ6_bitCount_0f7a4 29 = .ok (.ldc_w 267, 3) := by decide +kernel
theorem dJ6_bitCount_0f7a4_32 : decode cJ6_bitCount_0f7a4 32 = .ok (.iand, 1) := by decide +kernel
theorem dJ6_bitCount_0f7a4_33 : decode cJ6_bitCount_0f7a4 33 = .ok (.istore_n 0, 1) := by decide +kernel
theorem dJ6_bitCount_0f7a4_34 : decode cJ6_bitCount_0f7a4 34 = .ok (.iload_n 0, 1) := by decide +kernel
theorem dJ6_bitCount_0f7a4_35 : decode cJ6_bitCount_0f7a4 35 = .ok (.iload_n 0, 1) := by decide +kernel
theorem dJ6_bitCount_0f7a4_36 : decode cJ6_bitCount_0f7a4 36 = .ok (.bipush 8, 2) := by decide +kernel
theorem dJ6_bitCount_0f7a4_38 : decode cJ6_bitCount_0f7a4 38 = .ok (.iushr, 1) := by decide +kernel
theorem dJ6_bitCount_0f7a4_39 : decode cJ6_bitCount_0f7a4 39 = .ok (.iadd, 1) := by decide +kernel
theorem dJ6_bitCount_0f7a4_40 : decode cJ6_bitCount_0f7a4 40 = .ok (.istore_n 0, 1) := by decide +kernel
theorem dJ6_bitCount_0f7a4_41 : decode cJ6_bitCount_0f7a4 41 = .ok (.iload_n 0, 1) := by decide +kernel
theorem dJ6_bitCount_0f7a4_42 : decode cJ6_bitCount_0f7a4 42 = .ok (.iload_n 0, 1) := by decide +kernel
theorem dJ6_bitCount_0f7a4_43 : decode cJ6_bitCount_0f7a4 43 = .ok (.bipush 16, 2) := by decide +kernel
theorem dJ6_bitCount_0f7a4_45 : decode cJ6_bitCount_0f7a4 45 = .ok (.iushr, 1) := by decide +kernel
theorem dJ6_bitCount_0f7a4_46 : decode cJ6_bitCount_0f7a4 46 = .ok (.iadd, 1) := by decide +kernel
theorem dJ6_bitCount_0f7a4_47 : decode cJ6_bitCount_0f7a4 47 = .ok (.istore_n 0, 1) := by decide +kernel
theorem dJ6_bitCount_0f7a4_48 : decode cJ6_bitCount_0f7a4 48 = .ok (.iload_n 0, 1) := by decide +kernel
theorem dJ6_bitCount_0f7a4_49 : decode cJ6_bitCount_0f7a4 49 = .ok (.bipush 63, 2) := by decide +kernel
theorem dJ6_bitCount_0f7a4_51 : decode cJ6_bitCount_0f7a4 51 = .ok (.iand, 1) := by decide +kernel
theorem dJ6_bitCount_0f7a4_52 : decode cJ6_bitCount_0f7a4 52 = .ok (.ireturn, 1) := by decide +kernel
theorem dJ9_max_7cf53_0 : decode cJ9_max_7cf53 0 = .ok (.iload_n 0, 1) := by decide +kernel
theorem dJ9_max_7cf53_1 : decode cJ9_max_7cf53 1 = .ok (.iload_n 1, 1) := by decide +kernel
theorem dJ9_max_7cf53_2 : decode cJ9_max_7cf53 2 = .ok (.if_icmp .lt 7, 3) := by decide +kernel
theorem dJ9_max_7cf53_5 : decode cJ9_max_7cf53 5 = .ok (.iload_n 0, 1) := by decide +kernel
theorem dJ9_max_7cf53_6 : decode cJ9_max_7cf53 6 = .ok (.goto 4, 3) := by decide +kernel
theorem dJ9_max_7cf53_9 : decode cJ9_max_7cf53 9 = .ok (.iload_n 1, 1) := by decide +kernel
theorem dJ9_max_7cf53_10 : decode cJ9_max_7cf53 10 = .ok (.ireturn, 1) := by decide +kernel
theorem dJ9_min_7cf53_0 : decode cJ9_min_7cf53 0 = .ok (.iload_n 0, 1) := by decide +kernel
theorem dJ9_min_7cf53_1 : decode cJ9_min_7cf53 1 = .ok (.iload_n 1, 1) := by decide +kernel
theorem dJ9_min_7cf53_2 : decode cJ9_min_7cf53 2 = .ok (.if_icmp .gt 7, 3) := by decide +kernel
theorem dJ9_min_7cf53_5 : decode cJ9_min_7cf53 5 = .ok (.iload_n 0, 1) := by decide +kernel
theorem dJ9_min_7cf53_6 : decode cJ9_min_7cf53 6 = .ok (.goto 4, 3) := by decide +kernel
theorem dJ9_min_7cf53_9 : decode cJ9_min_7cf53 9 = .ok (.iload_n 1, 1) := by decide +kernel
theorem dJ9_min_7cf53_10 : decode cJ9_min_7cf53 10 = .ok (.ireturn, 1) := by decide +kernel
theorem dJ0_length_8abf5_0 : decode cJ0_length_8abf5 0 = .ok (.aload_n 0, 1) := by decide +kernel
theorem dJ0_length_8abf5_1 : decode cJ0_length_8abf5 1 = .ok (.getfield 9, 3) := by decide +kernel
theorem dJ0_length_8abf5_4 : decode cJ0_length_8abf5 4 = .ok (.arraylength, 1) := by decide +kernel
theorem dJ0_length_8abf5_5 : decode cJ0_length_8abf5 5 = .ok (.aload_n 0, 1) := by decide +kernel
theorem dJ0_length_8abf5_6 : decode cJ0_length_8abf5 6 = .ok (.invokevirtual 335, 3) := by decide +kernel
theorem dJ0_length_8abf5_9 : decode cJ0_length_8abf5 9 = .ok (.ishr, 1) := by decide +kernel
theorem dJ0_length_8abf5_10 : decode cJ0_length_8abf5 10 = .ok (.ireturn, 1) := by decide +kernel
theorem dJ0_charAt_5068e_0 : decode cJ0_charAt_5068e 0 = .ok (.aload_n 0, 1) := by decide +kernel
theorem dJ0_charAt_5068e_1 : decode cJ0_charAt_5068e 1 = .ok (.invokevirtual 492, 3) := by decide +kernel
theorem dJ0_charAt_5068e_4 : decode cJ0_charAt_5068e 4 = .ok (.ifCond .eq 12, 3) := by decide +kernel
theorem dJ0_charAt_5068e_7 : decode cJ0_charAt_5068e 7 = .ok (.aload_n 0, 1) := by decide +kernel
theorem dJ0_charAt_5068e_8 : decode cJ0_charAt_5068e 8 = .ok (.getfield 9, 3) := by decide +kernel
theorem dJ0_charAt_5068e_11 : decode cJ0_charAt_5068e 11 = .ok (.iload_n 1, 1) := by decide +kernel
theorem dJ0_charAt_5068e_12 : decode cJ0_charAt_5068e 12 = .ok (.invokestatic 495, 3) := by decide +kernel
theorem dJ0_charAt_5068e_15 : decode cJ0_charAt_5068e 15 = .ok (.ireturn, 1) := by decide +kernel
theorem dJ0_charAt_5068e_16 : decode cJ0_charAt_5068e 16 = .ok (.aload_n 0, 1) := by decide +kernel
theorem dJ0_charAt_5068e_17 : decode cJ0_charAt_5068e 17 = .ok (.getfield 9, 3) := by decide +kernel
theorem dJ0_charAt_5068e_20 : decode cJ0_charAt_5068e 20 = .ok (.iload_n 1, 1) := by decide +kernel
theorem dJ0_charAt_5068e_21 : decode cJ0_charAt_5068e 21 = .ok (.invokestatic 498, 3) := by decide +kernel
theorem dJ0_charAt_5068e_24 : decode cJ0_charAt_5068e 24 = .ok (.ireturn, 1) := by decide +kernel
theorem dJ0_coder_7d493_0 : decode cJ0_coder_7d493 0 = .ok (.getstatic 38, 3) := by decide +kernel
theorem dJ0_coder_7d493_3 : decode cJ0_coder_7d493 3 = .ok (.ifCond .eq 10, 3) := by decide +kernel
theorem dJ0_coder_7d493_6 : decode cJ0_coder_7d493 6 = .ok (.aload_n 0, 1) := by decide +kernel
theorem dJ0_coder_7d493_7 : decode cJ0_coder_7d493 7 = .ok (.getfield 15, 3) := by decide +kernel
theorem dJ0_coder_7d493_10 : decode cJ0_coder_7d493 10 = .ok (.goto 4, 3) := by decide +kernel
theorem dJ0_coder_7d493_13 : decode cJ0_coder_7d493 13 = .ok (.iconst 1, 1) := by decide +kernel
theorem dJ0_coder_7d493_14 : decode cJ0_coder_7d493 14 = .ok (.ireturn, 1) := by decide +kernel
theorem dJ0_isLatin1_aae02_0 : decode cJ0_isLatin1_aae02 0 = .ok (.getstatic 38, 3) := by decide +kernel
theorem dJ0_isLatin1_aae02_3 : decode cJ0_isLatin1_aae02 3 = .ok (.ifCond .eq 14, 3) := by decide +kernel
theorem dJ0_isLatin1_aae02_6 : decode cJ0_isLatin1_aae02 6 = .ok (.aload_n 0, 1) := by decide +kernel
theorem dJ0_isLatin1_aae02_7 : decode cJ0_isLatin1_aae02 7 = .ok (.getfield 15, 3) := by decide +kernel
theorem dJ0_isLatin1_aae02_10 : decode cJ0_isLatin1_aae02 10 = .ok (.ifCond .ne 7, 3) := by decide +kernel
theorem dJ0_isLatin1_aae02_13 : decode cJ0_isLatin1_aae02 13 = .ok (.iconst 1, 1) := by decide +kernel
theorem dJ0_isLatin1_aae02_14 : decode cJ0_isLatin1_aae02 14 = .ok (.goto 4, 3) := by decide +kernel
theorem dJ0_isLatin1_aae02_17 : decode cJ0_isLatin1_aae02 17 = .ok (.iconst 0, 1) := by decide +kernel
theorem dJ0_isLatin1_aae02_18 : decode cJ0_isLatin1_aae02 18 = .ok (.ireturn, 1) := by decide +kernel
theorem dJ0_checkIndex_df160_0 : decode cJ0_checkIndex_df160 0 = .ok (.iload_n 0, 1) := by decide +kernel
theorem dJ0_checkIndex_df160_1 : decode cJ0_checkIndex_df160 1 = .ok (.iload_n 1, 1) := by decide +kernel
theorem dJ0_checkIndex_df160_2 : decode cJ0_checkIndex_df160 2 = .ok (.getstatic 1053, 3) := by decide +kernel
theorem dJ0_checkIndex_df160_5 : decode cJ0_checkIndex_df160 5 = .ok (.invokestatic 1059, 3) := by decide +kernel
theorem dJ0_checkIndex_df160_8 : decode cJ0_checkIndex_df160 8 = .ok (.pop, 1) := by decide +kernel
theorem dJ0_checkIndex_df160_9 : decode cJ0_checkIndex_df160 9 = .ok (.return_, 1) := by decide +kernel
theorem dJ1_charAt_3b067_0 : decode cJ1_charAt_3b067 0 = .ok (.iload_n 1, 1) := by decide +kernel
theorem dJ1_charAt_3b067_1 : decode cJ1_charAt_3b067 1 = .ok (.aload_n 0, 1) := by decide +kernel
theorem dJ1_charAt_3b067_2 : decode cJ1_charAt_3b067 2 = .ok (.arraylength, 1) := by decide +kernel
theorem dJ1_charAt_3b067_3 : decode cJ1_charAt_3b067 3 = .ok (.invokestatic 9, 3) := by decide +kernel
theorem dJ1_charAt_3b067_6 : decode cJ1_charAt_3b067 6 = .ok (.aload_n 0, 1) := by decide +kernel
theorem dJ1_charAt_3b067_7 : decode cJ1_charAt_3b067 7 = .ok (.iload_n 1, 1) := by decide +kernel
theorem dJ1_charAt_3b067_8 : decode cJ1_charAt_3b067 8 = .ok (.baload, 1) := by decide +kernel
theorem dJ1_charAt_3b067_9 : decode cJ1_charAt_3b067 9 = .ok (.sipush 255, 3) := by decide +kernel
theorem dJ1_charAt_3b067_12 : decode cJ1_charAt_3b067 12 = .ok (.iand, 1) := by decide +kernel
theorem dJ1_charAt_3b067_13 : decode cJ1_charAt_3b067 13 = .ok (.i2c, 1) := by decide +kernel
theorem dJ1_charAt_3b067_14 : decode cJ1_charAt_3b067 14 = .ok (.ireturn, 1) := by decide +kernel
theorem dJ2_getChar_3b067_0 : decode cJ2_getChar_3b067 0 = .ok (.getstatic 44, 3) := by decide +kernel
theorem dJ2_getChar_3b067_3 : decode cJ2_getChar_3b067 3 = .ok (.ifCond .ne 25, 3) := by decide +kernel
theorem dJ2_getChar_3b067_6 : decode cJ2_getChar_3b067 6 = .ok (.iload_n 1, 1) := by decide +kernel
theorem dJ2_getChar_3b067_7 : decode cJ2_getChar_3b067 7 = .ok (.ifCond .lt 11, 3) := by decide +kernel
theorem dJ2_getChar_3b067_10 : decode cJ2_getChar_3b067 10 = .ok (.iload_n 1, 1) := by decide +kernel
theorem dJ2_getChar_3b067_11 : decode cJ2_getChar_3b067 11 = .ok (.aload_n 0, 1) := by decide +kernel
theorem dJ2_getChar_3b067_12 : decode cJ2_getChar_3b067 12 = .ok (.invokestatic 48, 3) := by decide +kernel
theorem dJ2_getChar_3b067_15 : decode cJ2_getChar_3b067 15 = .ok (.if_icmp .lt 13, 3) := by decide +kernel
theorem dJ2_getChar_3b067_18 : decode cJ2_getChar_3b067 18 = .ok (.new 52, 3) := by decide +kernel
theorem dJ2_getChar_3b067_21 : decode cJ2_getChar_3b067 21 = .ok (.dup, 1) := by decide +kernel
theorem dJ2_getChar_3b067_22 : decode cJ2_getChar_3b067 22 = .ok (.ldc 54, 2) := by decide +kernel
theorem dJ2_getChar_3b067_24 : decode cJ2_getChar_3b067 24 = .ok (.invokespecial 56, 3) := by decide +kernel
theorem dJ2_getChar_3b067_27 : decode cJ2_getChar_3b067 27 = .ok (.athrow, 1) := by decide +kernel
theorem dJ2_getChar_3b067_28 : decode cJ2_getChar_3b067 28 = .ok (.iload_n 1, 1) := by decide +kernel
theorem dJ2_getChar_3b067_29 : decode cJ2_getChar_3b067 29 = .ok (.iconst 1, 1) := by decide +kernel
theorem dJ2_getChar_3b067_30 : decode cJ2_getChar_3b067 30 = .ok (.ishl, 1) := by decide +kernel
theorem dJ2_getChar_3b067_31 : decode cJ2_getChar_3b067 31 = .ok (.istore_n 1, 1) := by decide +kernel
theorem dJ2_getChar_3b067_32 : decode cJ2_getChar_3b067 32 = .ok (.aload_n 0, 1) := by decide +kernel
theorem dJ2_getChar_3b067_33 : decode cJ2_getChar_3b067 33 = .ok (.iload_n 1, 1) := by decide +kernel
theorem dJ2_getChar_3b067_34 : decode cJ2_getChar_3b067 34 = .ok (.iinc 1 1, 3) := by decide +kernel
theorem dJ2_getChar_3b067_37 : decode cJ2_getChar_3b067 37 = .ok (.baload, 1) := by decide +kernel
theorem dJ2_getChar_3b067_38 : decode cJ2_getChar_3b067 38 = .ok (.sipush 255, 3) := by decide +kernel
theorem dJ2_getChar_3b067_41 : decode cJ2_getChar_3b067 41 = .ok (.iand, 1) := by decide +kernel
theorem dJ2_getChar_3b067_42 : decode cJ2_getChar_3b067 42 = .ok (.getstatic 59, 3) := by decide +kernel
theorem dJ2_getChar_3b067_45 : decode cJ2_getChar_3b067 45 = .ok (.ishl, 1) := by decide +kernel
theorem dJ2_getChar_3b067_46 : decode cJ2_getChar_3b067 46 = .ok (.aload_n 0, 1) := by decide +kernel
theorem dJ2_getChar_3b067_47 : decode cJ2_getChar_3b067 47 = .ok (.iload_n 1, 1) := by decide +kernel
theorem dJ2_getChar_3b067_48 : decode cJ2_getChar_3b067 48 = .ok (.baload, 1) := by decide +kernel
theorem dJ2_getChar_3b067_49 : decode cJ2_getChar_3b067 49 = .ok (.sipush 255, 3) := by decide +kernel
theorem dJ2_getChar_3b067_52 : decode cJ2_getChar_3b067 52 = .ok (.iand, 1) := by decide +kernel
theorem dJ2_getChar_3b067_53 : decode cJ2_getChar_3b067 53 = .ok (.getstatic 63, 3) := by decide +kernel
theorem dJ2_getChar_3b067_56 : decode cJ2_getChar_3b067 56 = .ok (.ishl, 1) := by decide +kernel
theorem dJ2_getChar_3b067_57 : decode cJ2_getChar_3b067 57 = .ok (.ior, 1) := by decide +kernel
theorem dJ2_getChar_3b067_58 : decode cJ2_getChar_3b067 58 = .ok (.i2c, 1) := by decide +kernel
theorem dJ2_getChar_3b067_59 : decode cJ2_getChar_3b067 59 = .ok (.ireturn, 1) := by decide +kernel
theorem dJ2_length_9d52b_0 : decode cJ2_length_9d52b 0 = .ok (.aload_n 0, 1) := by decide +kernel
theorem dJ2_length_9d52b_1 : decode cJ2_length_9d52b 1 = .ok (.arraylength, 1) := by decide +kernel
theorem dJ2_length_9d52b_2 : decode cJ2_length_9d52b 2 = .ok (.iconst 1, 1) := by decide +kernel
theorem dJ2_length_9d52b_3 : decode cJ2_length_9d52b 3 = .ok (.ishr, 1) := by decide +kernel
theorem dJ2_length_9d52b_4 : decode cJ2_length_9d52b 4 = .ok (.ireturn, 1) := by decide +kernel
theorem dJ2_charAt_3b067_0 : decode cJ2_charAt_3b067 0 = .ok (.iload_n 1, 1) := by decide +kernel
theorem dJ2_charAt_3b067_1 : decode cJ2_charAt_3b067 1 = .ok (.aload_n 0, 1) := by decide +kernel
theorem dJ2_charAt_3b067_2 : decode cJ2_charAt_3b067 2 = .ok (.invokestatic 67, 3) := by decide +kernel
theorem dJ2_charAt_3b067_5 : decode cJ2_charAt_3b067 5 = .ok (.aload_n 0, 1) := by decide +kernel
theorem dJ2_charAt_3b067_6 : decode cJ2_charAt_3b067 6 = .ok (.iload_n 1, 1) := by decide +kernel
theorem dJ2_charAt_3b067_7 : decode cJ2_charAt_3b067 7 = .ok (.invokestatic 71, 3) := by decide +kernel
theorem dJ2_charAt_3b067_10 : decode cJ2_charAt_3b067 10 = .ok (.ireturn, 1) := by decide +kernel
theorem dJ2_checkIndex_2214a_0 : decode cJ2_checkIndex_2214a 0 = .ok (.iload_n 0, 1) := by decide +kernel
theorem dJ2_checkIndex_2214a_1 : decode cJ2_checkIndex_2214a 1 = .ok (.aload_n 1, 1) := by decide +kernel
theorem dJ2_checkIndex_2214a_2 : decode cJ2_checkIndex_2214a 2 = .ok (.invokestatic 48, 3) := by decide +kernel
theorem dJ2_checkIndex_2214a_5 : decode cJ2_checkIndex_2214a 5 = .ok (.invokestatic 414, 3) := by decide +kernel
theorem dJ2_checkIndex_2214a_8 : decode cJ2_checkIndex_2214a 8 = .ok (.return_, 1) := by decide +kernel
theorem dJ3_checkIndex_8e157_0 : decode cJ3_checkIndex_8e157 0 = .ok (.iload_n 0, 1) := by decide +kernel
theorem dJ3_checkIndex_8e157_1 : decode cJ3_checkIndex_8e157 1 = .ok (.ifCond .lt 8, 3) := by decide +kernel
theorem dJ3_checkIndex_8e157_4 : decode cJ3_checkIndex_8e157 4 = .ok (.iload_n 0, 1) := by decide +kernel
theorem dJ3_checkIndex_8e157_5 : decode cJ3_checkIndex_8e157 5 = .ok (.iload_n 1, 1) := by decide +kernel
theorem dJ3_checkIndex_8e157_6 : decode cJ3_checkIndex_8e157 6 = .ok (.if_icmp .lt 10, 3) := by decide +kernel
theorem dJ3_checkIndex_8e157_9 : decode cJ3_checkIndex_8e157 9 = .ok (.aload_n 2, 1) := by decide +kernel
theorem dJ3_checkIndex_8e157_10 : decode cJ3_checkIndex_8e157 10 = .ok (.iload_n 0, 1) := by decide +kernel
theorem dJ3_checkIndex_8e157_11 : decode cJ3_checkIndex_8e157 11 = .ok (.iload_n 1, 1) := by decide +kernel
theorem dJ3_checkIndex_8e157_12 : decode cJ3_checkIndex_8e157 12 = .ok (.invokestatic 95, 3) := by decide +kernel
theorem dJ3_checkIndex_8e157_15 : decode cJ3_checkIndex_8e157 15 = .ok (.athrow, 1) := by decide +kernel
theorem dJ3_checkIndex_8e157_16 : decode cJ3_checkIndex_8e157 16 = .ok (.iload_n 0, 1) := by decide +kernel
theorem dJ3_checkIndex_8e157_17 : decode cJ3_checkIndex_8e157 17 = .ok (.ireturn, 1) := by decide +kernel
end
section
theorem dX9_init_0 : decode cX9_init 0 = .ok (.aload_n 0, 1) := by decide +kernel
theorem dX9_init_1 : decode cX9_init 1 = .ok (.invokespecial 1, 3) := by decide +kernel
theorem dX9_init_4 : decode cX9_init 4 = .ok (.aload_n 0, 1) := by decide +kernel
theorem dX9_init_5 : decode cX9_init 5 = .ok (.bipush 55, 2) := by decide +kernel
theorem dX9_init_7 : decode cX9_init 7 = .ok (.newarray .int, 2) := by decide +kernel
theorem dX9_init_9 : decode cX9_init 9 = .ok (.putfield 7, 3) := by decide +kernel
theorem dX9_init_12 : decode cX9_init 12 = .ok (.aload_n 0, 1) := by decide +kernel
theorem dX9_init_13 : decode cX9_init 13 = .ok (.bipush 55, 2) := by decide +kernel
theorem dX9_init_15 : decode cX9_init 15 = .ok (.newarray .int, 2) := by decide +kernel
theorem dX9_init_17 : decode cX9_init 17 = .ok (.putfield 13, 3) := by decide +kernel
theorem dX9_init_20 : decode cX9_init 20 = .ok (.aload_n 0, 1) := by decide +kernel
theorem dX9_init_21 : decode cX9_init 21 = .ok (.bipush 55, 2) := by decide +kernel
theorem dX9_init_23 : decode cX9_init 23 = .ok (.newarray .int, 2) := by decide +kernel
theorem dX9_init_25 : decode cX9_init 25 = .ok (.putfield 16, 3) := by decide +kernel
theorem dX9_init_28 : decode cX9_init 28 = .ok (.aload_n 0, 1) := by decide +kernel
theorem dX9_init_29 : decode cX9_init 29 = .ok (.bipush 55, 2) := by decide +kernel
theorem dX9_init_31 : decode cX9_init 31 = .ok (.newarray .int, 2) := by decide +kernel
theorem dX9_init_33 : decode cX9_init 33 = .ok (.putfield 19, 3) := by decide +kernel
theorem dX9_init_36 : decode cX9_init 36 = .ok (.aload_n 0, 1) := by decide +kernel
theorem dX9_init_37 : decode cX9_init 37 = .ok (.bipush 7, 2) := by decide +kernel
theorem dX9_init_39 : decode cX9_init 39 = .ok (.newarray .int, 2) := by decide +kernel
theorem dX9_init_41 : decode cX9_init 41 = .ok (.putfield 22, 3) := by decide +kernel
theorem dX9_init_44 : decode cX9_init 44 = .ok (.aload_n 0, 1) := by decide +kernel
theorem dX9_init_45 : decode cX9_init 45 = .ok (.iconst 3, 1) := by decide +kernel
theorem dX9_init_46 : decode cX9_init 46 = .ok (.newarray .int, 2) := by decide +kernel
theorem dX9_init_48 : decode cX9_init 48 = .ok (.putfield 25, 3) := by decide +kernel
theorem dX9_init_51 : decode cX9_init 51 = .ok (.aload_n 0, 1) := by decide +kernel
theorem dX9_init_52 : decode cX9_init 52 = .ok (.iconst 3, 1) := by decide +kernel
theorem dX9_init_53 : decode cX9_init 53 = .ok (.newarray .int, 2) := by decide +kernel
theorem dX9_init_55 : decode cX9_init 55 = .ok (.putfield 28, 3) := by decide +kernel
theorem dX9_init_58 : decode cX9_init 58 = .ok (.aload_n 0, 1) := by decide +kernel
theorem dX9_init_59 : decode cX9_init 59 = .ok (.bipush 120, 2) := by decide +kernel
theorem dX9_init_61 : decode cX9_init 61 = .ok (.newarray .int, 2) := by decide +kernel
theorem dX9_init_63 : decode cX9_init 63 = .ok (.putfield 31, 3) := by decide +kernel
theorem dX9_init_66 : decode cX9_init 66 = .ok (.aload_n 0, 1) := by decide +kernel
theorem dX9_init_67 : decode cX9_init 67 = .ok (.iconst 4, 1) := by decide +kernel
theorem dX9_init_68 : decode cX9_init 68 = .ok (.newarray .int, 2) := by decide +kernel
theorem dX9_init_70 : decode cX9_init 70 = .ok (.putfield 34, 3) := by decide +kernel
theorem dX9_init_73 : decode cX9_init 73 = .ok (.aload_n 0, 1) := by decide +kernel
theorem dX9_init_74 : decode cX9_init 74 = .ok (.iconst 4, 1) := by decide +kernel
theorem dX9_init_75 : decode cX9_init 75 = .ok (.newarray .int, 2) := by decide +kernel
theorem dX9_init_77 : decode cX9_init 77 = .ok (.putfield 37, 3) := by decide +kernel
theorem dX9_init_80 : decode cX9_init 80 = .ok (.aload_n 0, 1) := by decide +kernel
theorem dX9_init_81 : decode cX9_init 81 = .ok (.sipush 160, 3) := by decide +kernel
theorem dX9_init_84 : decode cX9_init 84 = .ok (.newarray .long, 2) := by decide +kernel
theorem dX9_init_86 : decode cX9_init 86 = .ok (.putfield 40, 3) := by decide +kernel
theorem dX9_init_89 : decode cX9_init 89 = .ok (.aload_n 0, 1) := by decide +kernel
theorem dX9_init_90 : decode cX9_init 90 = .ok (.bipush 40, 2) := by decide +kernel
theorem dX9_init_92 : decode cX9_init 92 = .ok (.newarray .long, 2) := by decide +kernel
theorem dX9_init_94 : decode cX9_init 94 = .ok (.putfield 44, 3) := by decide +kernel
theorem dX9_init_97 : decode cX9_init 97 = .ok (.iconst 0, 1) := by decide +kernel
theorem dX9_init_98 : decode cX9_init 98 = .ok (.istore_n 1, 1) := by decide +kernel
theorem dX9_init_99 : decode cX9_init 99 = .ok (.iload_n 1, 1) := by decide +kernel
theorem dX9_init_100 : decode cX9_init 100 = .ok (.iconst 3, 1) := by decide +kernel
theorem dX9_init_101 : decode cX9_init 101 = .ok (.if_icmp .ge 20, 3) := by decide +kernel
theorem dX9_init_104 : decode cX9_init 104 = .ok (.aload_n 0, 1) := by decide +kernel
theorem dX9_init_105 : decode cX9_init 105 = .ok (.getfield 7, 3) := by decide +kernel
theorem dX9_init_108 : decode cX9_init 108 = .ok (.iload_n 1, 1) := by decide +kernel
theorem dX9_init_109 : decode cX9_init 109 = .ok (.iconst 4, 1) := by decide +kernel
theorem dX9_init_110 : decode cX9_init 110 = .ok (.invokestatic 47, 3) := by decide +kernel
theorem dX9_init_113 : decode cX9_init 113 = .ok (.iconst (-1), 1) := by decide +kernel
theorem dX9_init_114 : decode cX9_init 114 = .ok (.iastore, 1) := by decide +kernel
theorem dX9_init_115 : decode cX9_init 115 = .ok (.iinc 1 1, 3) := by decide +kernel
theorem dX9_init_118 : decode cX9_init 118 = .ok (.goto (-19), 3) := by decide +kernel
theorem dX9_init_121 : decode cX9_init 121 = .ok (.return_, 1) := by decide +kernel
theorem dX9_in_0 : decode cX9_in 0 = .ok (.lload_n 0, 1) := by decide +kernel
theorem dX9_in_1 : decode cX9_in 1 = .ok (.lload_n 2, 1) := by decide +kernel
theorem dX9_in_2 : decode cX9_in 2 = .ok (.lcmp, 1) := by decide +kernel
theorem dX9_in_3 : decode cX9_in 3 = .ok (.ifCond .lt 14, 3) := by decide +kernel
theorem dX9_in_6 : decode cX9_in 6 = .ok (.lload_n 0, 1) := by decide +kernel
theorem dX9_in_7 : decode cX9_in 7 = .ok (.lload 4, 2) := by decide +kernel
theorem dX9_in_9 : decode cX9_in 9 = .ok (.lcmp, 1) := by decide +kernel
theorem dX9_in_10 : decode cX9_in 10 = .ok (.ifCond .gt 7, 3) := by decide +kernel
theorem dX9_in_13 : decode cX9_in 13 = .ok (.iconst 1, 1) := by decide +kernel
theorem dX9_in_14 : decode cX9_in 14 = .ok (.goto 4, 3) := by decide +kernel
theorem dX9_in_17 : decode cX9_in 17 = .ok (.iconst 0, 1) := by decide +kernel
theorem dX9_in_18 : decode cX9_in 18 = .ok (.ireturn, 1) := by decide +kernel
theorem dX9_finds_0 : decode cX9_finds 0 = .ok (.aload_n 0, 1) := by decide +kernel
theorem dX9_finds_1 : decode cX9_finds 1 = .ok (.getfield 22, 3) := by decide +kernel
theorem dX9_finds_4 : decode cX9_finds 4 = .ok (.ldc 51, 2) := by decide +kernel
theorem dX9_finds_6 : decode cX9_finds 6 = .ok (.iload_n 1, 1) := by decide +kernel
theorem dX9_finds_7 : decode cX9_finds 7 = .ok (.isub, 1) := by decide +kernel
theorem dX9_finds_8 : decode cX9_finds 8 = .ok (.dup2, 1) := by decide +kernel
theorem dX9_finds_9 : decode cX9_finds 9 = .ok (.iaload, 1) := by decide +kernel
theorem dX9_finds_10 : decode cX9_finds 10 = .ok (.iconst 1, 1) := by decide +kernel
theorem dX9_finds_11 : decode cX9_finds 11 = .ok (.iadd, 1) := by decide +kernel
theorem dX9_finds_12 : decode cX9_finds 12 = .ok (.iastore, 1) := by decide +kernel
theorem dX9_finds_13 : decode cX9_finds 13 = .ok (.iload_n 1, 1) := by decide +kernel
theorem dX9_finds_14 : decode cX9_finds 14 = .ok (.ireturn, 1) := by decide +kernel
theorem dX9_saves_0 : decode cX9_saves 0 = .ok (.iconst 0, 1) := by decide +kernel
theorem dX9_saves_1 : decode cX9_saves 1 = .ok (.istore_n 1, 1) := by decide +kernel
theorem dX9_saves_2 : decode cX9_saves 2 = .ok (.iload_n 1, 1) := by decide +kernel
theorem dX9_saves_3 : decode cX9_saves 3 = .ok (.bipush 55, 2) := by decide +kernel
theorem dX9_saves_5 : decode cX9_saves 5 = .ok (.if_icmp .ge 21, 3) := by decide +kernel
theorem dX9_saves_8 : decode cX9_saves 8 = .ok (.aload_n 0, 1) := by decide +kernel
theorem dX9_saves_9 : decode cX9_saves 9 = .ok (.getfield 16, 3) := by decide +kernel
theorem dX9_saves_12 : decode cX9_saves 12 = .ok (.iload_n 1, 1) := by decide +kernel
theorem dX9_saves_13 : decode cX9_saves 13 = .ok (.aload_n 0, 1) := by decide +kernel
theorem dX9_saves_14 : decode cX9_saves 14 = .ok (.getfield 7, 3) := by decide +kernel
theorem dX9_saves_17 : decode cX9_saves 17 = .ok (.iload_n 1, 1) := by decide +kernel
theorem dX9_saves_18 : decode cX9_saves 18 = .ok (.iaload, 1) := by decide +kernel
theorem dX9_saves_19 : decode cX9_saves 19 = .ok (.iastore, 1) := by decide +kernel
theorem dX9_saves_20 : decode cX9_saves 20 = .ok (.iinc 1 1, 3) := by decide +kernel
theorem dX9_saves_23 : decode cX9_saves 23 = .ok (.goto (-21), 3) := by decide +kernel
theorem dX9_saves_26 : decode cX9_saves 26 = .ok (.return_, 1) := by decide +kernel
theorem dX9_putsBack_0 : decode cX9_putsBack 0 = .ok (.iconst 0, 1) := by decide +kernel
theorem dX9_putsBack_1 : decode cX9_putsBack 1 = .ok (.istore_n 1, 1) := by decide +kernel
theorem dX9_putsBack_2 : decode cX9_putsBack 2 = .ok (.iload_n 1, 1) := by decide +kernel
theorem dX9_putsBack_3 : decode cX9_putsBack 3 = .ok (.bipush 55, 2) := by decide +kernel
theorem dX9_putsBack_5 : decode cX9_putsBack 5 = .ok (.if_icmp .ge 21, 3) := by decide +kernel
theorem dX9_putsBack_8 : decode cX9_putsBack 8 = .ok (.aload_n 0, 1) := by decide +kernel
theorem dX9_putsBack_9 : decode cX9_putsBack 9 = .ok (.getfield 7, 3) := by decide +kernel
theorem dX9_putsBack_12 : decode cX9_putsBack 12 = .ok (.iload_n 1, 1) := by decide +kernel
theorem dX9_putsBack_13 : decode cX9_putsBack 13 = .ok (.aload_n 0, 1) := by decide +kernel
theorem dX9_putsBack_14 : decode cX9_putsBack 14 = .ok (.getfield 16, 3) := by decide +kernel
theorem dX9_putsBack_17 : decode cX9_putsBack 17 = .ok (.iload_n 1, 1) := by decide +kernel
theorem dX9_putsBack_18 : decode cX9_putsBack 18 = .ok (.iaload, 1) := by decide +kernel
theorem dX9_putsBack_19 : decode cX9_putsBack 19 = .ok (.iastore, 1) := by decide +kernel
theorem dX9_putsBack_20 : decode cX9_putsBack 20 = .ok (.iinc 1 1, 3) := by decide +kernel
theorem dX9_putsBack_23 : decode cX9_putsBack 23 = .ok (.goto (-21), 3) := by decide +kernel
theorem dX9_putsBack_26 : decode cX9_putsBack 26 = .ok (.return_, 1) := by decide +kernel
theorem dX9_laysAside_0 : decode cX9_laysAside 0 = .ok (.iconst 0, 1) := by decide +kernel
theorem dX9_laysAside_1 : decode cX9_laysAside 1 = .ok (.istore_n 1, 1) := by decide +kernel
theorem dX9_laysAside_2 : decode cX9_laysAside 2 = .ok (.iload_n 1, 1) := by decide +kernel
theorem dX9_laysAside_3 : decode cX9_laysAside 3 = .ok (.bipush 55, 2) := by decide +kernel
theorem dX9_laysAside_5 : decode cX9_laysAside 5 = .ok (.if_icmp .ge 21, 3) := by decide +kernel
theorem dX9_laysAside_8 : decode cX9_laysAside 8 = .ok (.aload_n 0, 1) := by decide +kernel
theorem dX9_laysAside_9 : decode cX9_laysAside 9 = .ok (.getfield 19, 3) := by decide +kernel
theorem dX9_laysAside_12 : decode cX9_laysAside 12 = .ok (.iload_n 1, 1) := by decide +kernel
theorem dX9_laysAside_13 : decode cX9_laysAside 13 = .ok (.aload_n 0, 1) := by decide +kernel
theorem dX9_laysAside_14 : decode cX9_laysAside 14 = .ok (.getfield 7, 3) := by decide +kernel
theorem dX9_laysAside_17 : decode cX9_laysAside 17 = .ok (.iload_n 1, 1) := by decide +kernel
theorem dX9_laysAside_18 : decode cX9_laysAside 18 = .ok (.iaload, 1) := by decide +kernel
theorem dX9_laysAside_19 : decode cX9_laysAside 19 = .ok (.iastore, 1) := by decide +kernel
theorem dX9_laysAside_20 : decode cX9_laysAside 20 = .ok (.iinc 1 1, 3) := by decide +kernel
theorem dX9_laysAside_23 : decode cX9_laysAside 23 = .ok (.goto (-21), 3) := by decide +kernel
theorem dX9_laysAside_26 : decode cX9_laysAside 26 = .ok (.return_, 1) := by decide +kernel
theorem dX9_takesBack_0 : decode cX9_takesBack 0 = .ok (.iconst 0, 1) := by decide +kernel
theorem dX9_takesBack_1 : decode cX9_takesBack 1 = .ok (.istore_n 2, 1) := by decide +kernel
theorem dX9_takesBack_2 : decode cX9_takesBack 2 = .ok (.iload_n 2, 1) := by decide +kernel
theorem dX9_takesBack_3 : decode cX9_takesBack 3 = .ok (.bipush 55, 2) := by decide +kernel
theorem dX9_takesBack_5 : decode cX9_takesBack 5 = .ok (.if_icmp .ge 21, 3) := by decide +kernel
theorem dX9_takesBack_8 : decode cX9_takesBack 8 = .ok (.aload_n 0, 1) := by decide +kernel
theorem dX9_takesBack_9 : decode cX9_takesBack 9 = .ok (.getfield 7, 3) := by decide +kernel
theorem dX9_takesBack_12 : decode cX9_takesBack 12 = .ok (.iload_n 2, 1) := by decide +kernel
theorem dX9_takesBack_13 : decode cX9_takesBack 13 = .ok (.aload_n 0, 1) := by decide +kernel
theorem dX9_takesBack_14 : decode cX9_takesBack 14 = .ok (.getfield 19, 3) := by decide +kernel
theorem dX9_takesBack_17 : decode cX9_takesBack 17 = .ok (.iload_n 2, 1) := by decide +kernel
theorem dX9_takesBack_18 : decode cX9_takesBack 18 = .ok (.iaload, 1) := by decide +kernel
theorem dX9_takesBack_19 : decode cX9_takesBack 19 = .ok (.iastore, 1) := by decide +kernel
theorem dX9_takesBack_20 : decode cX9_takesBack 20 = .ok (.iinc 2 1, 3) := by decide +kernel
theorem dX9_takesBack_23 : decode cX9_takesBack 23 = .ok (.goto (-21), 3) := by decide +kernel
theorem dX9_takesBack_26 : decode cX9_takesBack 26 = .ok (.iload_n 1, 1) := by decide +kernel
theorem dX9_takesBack_27 : decode cX9_takesBack 27 = .ok (.ireturn, 1) := by decide +kernel
theorem dX9_becomes_0 : decode cX9_becomes 0 = .ok (.aload_n 0, 1) := by decide +kernel
theorem dX9_becomes_1 : decode cX9_becomes 1 = .ok (.getfield 7, 3) := by decide +kernel
theorem dX9_becomes_4 : decode cX9_becomes 4 = .ok (.iload_n 1, 1) := by decide +kernel
theorem dX9_becomes_5 : decode cX9_becomes 5 = .ok (.iaload, 1) := by decide +kernel
theorem dX9_becomes_6 : decode cX9_becomes 6 = .ok (.istore_n 3, 1) := by decide +kernel
theorem dX9_becomes_7 : decode cX9_becomes 7 = .ok (.aload_n 0, 1) := by decide +kernel
theorem dX9_becomes_8 : decode cX9_becomes 8 = .ok (.getfield 7, 3) := by decide +kernel
theorem dX9_becomes_11 : decode cX9_becomes 11 = .ok (.iload_n 1, 1) := by decide +kernel
theorem dX9_becomes_12 : decode cX9_becomes 12 = .ok (.iload_n 2, 1) := by decide +kernel
theorem dX9_becomes_13 : decode cX9_becomes 13 = .ok (.iastore, 1) := by decide +kernel
theorem dX9_becomes_14 : decode cX9_becomes 14 = .ok (.iload_n 3, 1) := by decide +kernel
theorem dX9_becomes_15 : decode cX9_becomes 15 = .ok (.ireturn, 1) := by decide +kernel
theorem dX9_isSeat_0 : decode cX9_isSeat 0 = .ok (.iload_n 0, 1) := by decide +kernel
theorem dX9_isSeat_1 : decode cX9_isSeat 1 = .ok (.i2l, 1) := by decide +kernel
theorem dX9_isSeat_2 : decode cX9_isSeat 2 = .ok (.lconst 0, 1) := by decide +kernel
theorem dX9_isSeat_3 : decode cX9_isSeat 3 = .ok (.ldc2_w 52, 3) := by decide +kernel
theorem dX9_isSeat_6 : decode cX9_isSeat 6 = .ok (.invokestatic 54, 3) := by decide +kernel
theorem dX9_isSeat_9 : decode cX9_isSeat 9 = .ok (.ireturn, 1) := by decide +kernel
theorem dX9_isChild_0 : decode cX9_isChild 0 = .ok (.iload_n 1, 1) := by decide +kernel
theorem dX9_isChild_1 : decode cX9_isChild 1 = .ok (.i2l, 1) := by decide +kernel
theorem dX9_isChild_2 : decode cX9_isChild 2 = .ok (.lconst 0, 1) := by decide +kernel
theorem dX9_isChild_3 : decode cX9_isChild 3 = .ok (.aload_n 0, 1) := by decide +kernel
theorem dX9_isChild_4 : decode cX9_isChild 4 = .ok (.getfield 7, 3) := by decide +kernel
theorem dX9_isChild_7 : decode cX9_isChild 7 = .ok (.iconst 0, 1) := by decide +kernel
theorem dX9_isChild_8 : decode cX9_isChild 8 = .ok (.iaload, 1) := by decide +kernel
theorem dX9_isChild_9 : decode cX9_isChild 9 = .ok (.iconst 1, 1) := by decide +kernel
theorem dX9_isChild_10 : decode cX9_isChild 10 = .ok (.isub, 1) := by decide +kernel
theorem dX9_isChild_11 : decode cX9_isChild 11 = .ok (.i2l, 1) := by decide +kernel
theorem dX9_isChild_12 : decode cX9_isChild 12 = .ok (.invokestatic 54, 3) := by decide +kernel
theorem dX9_isChild_15 : decode cX9_isChild 15 = .ok (.ireturn, 1) := by decide +kernel
theorem dX9_isKind_0 : decode cX9_isKind 0 = .ok (.iload_n 0, 1) := by decide +kernel
theorem dX9_isKind_1 : decode cX9_isKind 1 = .ok (.i2l, 1) := by decide +kernel
theorem dX9_isKind_2 : decode cX9_isKind 2 = .ok (.lconst 0, 1) := by decide +kernel
theorem dX9_isKind_3 : decode cX9_isKind 3 = .ok (.ldc2_w 58, 3) := by decide +kernel
theorem dX9_isKind_6 : decode cX9_isKind 6 = .ok (.invokestatic 54, 3) := by decide +kernel
theorem dX9_isKind_9 : decode cX9_isKind 9 = .ok (.ireturn, 1) := by decide +kernel
theorem dX9_spotOf_0 : decode cX9_spotOf 0 = .ok (.iconst 4, 1) := by decide +kernel
theorem dX9_spotOf_1 : decode cX9_spotOf 1 = .ok (.iconst 5, 1) := by decide +kernel
theorem dX9_spotOf_2 : decode cX9_spotOf 2 = .ok (.iload_n 0, 1) := by decide +kernel
theorem dX9_spotOf_3 : decode cX9_spotOf 3 = .ok (.imul, 1) := by decide +kernel
theorem dX9_spotOf_4 : decode cX9_spotOf 4 = .ok (.iadd, 1) := by decide +kernel
theorem dX9_spotOf_5 : decode cX9_spotOf 5 = .ok (.iload_n 1, 1) := by decide +kernel
theorem dX9_spotOf_6 : decode cX9_spotOf 6 = .ok (.iadd, 1) := by decide +kernel
theorem dX9_spotOf_7 : decode cX9_spotOf 7 = .ok (.ireturn, 1) := by decide +kernel
theorem dX9_its_0 : decode cX9_its 0 = .ok (.aload_n 0, 1) := by decide +kernel
theorem dX9_its_1 : decode cX9_its 1 = .ok (.getfield 7, 3) := by decide +kernel
theorem dX9_its_4 : decode cX9_its 4 = .ok (.iload_n 1, 1) := by decide +kernel
theorem dX9_its_5 : decode cX9_its 5 = .ok (.iload_n 2, 1) := by decide +kernel
theorem dX9_its_6 : decode cX9_its 6 = .ok (.invokestatic 47, 3) := by decide +kernel
theorem dX9_its_9 : decode cX9_its 9 = .ok (.iaload, 1) := by decide +kernel
theorem dX9_its_10 : decode cX9_its 10 = .ok (.ireturn, 1) := by decide +kernel
theorem dX9_placeOf_0 : decode cX9_placeOf 0 = .ok (.bipush 19, 2) := by decide +kernel
theorem dX9_placeOf_2 : decode cX9_placeOf 2 = .ok (.bipush 6, 2) := by decide +kernel
theorem dX9_placeOf_4 : decode cX9_placeOf 4 = .ok (.iload_n 0, 1) := by decide +kernel
theorem dX9_placeOf_5 : decode cX9_placeOf 5 = .ok (.imul, 1) := by decide +kernel
theorem dX9_placeOf_6 : decode cX9_placeOf 6 = .ok (.iadd, 1) := by decide +kernel
theorem dX9_placeOf_7 : decode cX9_placeOf 7 = .ok (.iload_n 1, 1) := by decide +kernel
theorem dX9_placeOf_8 : decode cX9_placeOf 8 = .ok (.iadd, 1) := by decide +kernel
theorem dX9_placeOf_9 : decode cX9_placeOf 9 = .ok (.ireturn, 1) := by decide +kernel
theorem dX9_told_0 : decode cX9_told 0 = .ok (.aload_n 0, 1) := by decide +kernel
theorem dX9_told_1 : decode cX9_told 1 = .ok (.getfield 7, 3) := by decide +kernel
theorem dX9_told_4 : decode cX9_told 4 = .ok (.iload_n 1, 1) := by decide +kernel
theorem dX9_told_5 : decode cX9_told 5 = .ok (.iload_n 2, 1) := by decide +kernel
theorem dX9_told_6 : decode cX9_told 6 = .ok (.invokestatic 60, 3) := by decide +kernel
theorem dX9_told_9 : decode cX9_told 9 = .ok (.iaload, 1) := by decide +kernel
theorem dX9_told_10 : decode cX9_told 10 = .ok (.ireturn, 1) := by decide +kernel
theorem dX9_seatedAt_0 : decode cX9_seatedAt 0 = .ok (.iconst (-1), 1) := by decide +kernel
theorem dX9_seatedAt_1 : decode cX9_seatedAt 1 = .ok (.istore_n 2, 1) := by decide +kernel
theorem dX9_seatedAt_2 : decode cX9_seatedAt 2 = .ok (.iconst 0, 1) := by decide +kernel
theorem dX9_seatedAt_3 : decode cX9_seatedAt 3 = .ok (.istore_n 3, 1) := by decide +kernel
theorem dX9_seatedAt_4 : decode cX9_seatedAt 4 = .ok (.iload_n 3, 1) := by decide +kernel
theorem dX9_seatedAt_5 : decode cX9_seatedAt 5 = .ok (.iconst 3, 1) := by decide +kernel
theorem dX9_seatedAt_6 : decode cX9_seatedAt 6 = .ok (.if_icmp .ge 25, 3) := by decide +kernel
theorem dX9_seatedAt_9 : decode cX9_seatedAt 9 = .ok (.aload_n 0, 1) := by decide +kernel
theorem dX9_seatedAt_10 : decode cX9_seatedAt 10 = .ok (.iload_n 3, 1) := by decide +kernel
theorem dX9_seatedAt_11 : decode cX9_seatedAt 11 = .ok (.iconst 4, 1) := by decide +kernel
theorem dX9_seatedAt_12 : decode cX9_seatedAt 12 = .ok (.invokevirtual 63, 3) := by decide +kernel
theorem dX9_seatedAt_15 : decode cX9_seatedAt 15 = .ok (.iload_n 1, 1) := by decide +kernel
theorem dX9_seatedAt_16 : decode cX9_seatedAt 16 = .ok (.if_icmp .ne 7, 3) := by decide +kernel
theorem dX9_seatedAt_19 : decode cX9_seatedAt 19 = .ok (.iload_n 3, 1) := by decide +kernel
theorem dX9_seatedAt_20 : decode cX9_seatedAt 20 = .ok (.goto 4, 3) := by decide +kernel
theorem dX9_seatedAt_23 : decode cX9_seatedAt 23 = .ok (.iload_n 2, 1) := by decide +kernel
theorem dX9_seatedAt_24 : decode cX9_seatedAt 24 = .ok (.istore_n 2, 1) := by decide +kernel
theorem dX9_seatedAt_25 : decode cX9_seatedAt 25 = .ok (.iinc 3 1, 3) := by decide +kernel
theorem dX9_seatedAt_28 : decode cX9_seatedAt 28 = .ok (.goto (-24), 3) := by decide +kernel
theorem dX9_seatedAt_31 : decode cX9_seatedAt 31 = .ok (.iload_n 2, 1) := by decide +kernel
theorem dX9_seatedAt_32 : decode cX9_seatedAt 32 = .ok (.ireturn, 1) := by decide +kernel
theorem dX9_isTaken_0 : decode cX9_isTaken 0 = .ok (.aload_n 0, 1) := by decide +kernel
theorem dX9_isTaken_1 : decode cX9_isTaken 1 = .ok (.iload_n 1, 1) := by decide +kernel
theorem dX9_isTaken_2 : decode cX9_isTaken 2 = .ok (.iconst 4, 1) := by decide +kernel
theorem dX9_isTaken_3 : decode cX9_isTaken 3 = .ok (.invokevirtual 63, 3) := by decide +kernel
theorem dX9_isTaken_6 : decode cX9_isTaken 6 = .ok (.ifCond .lt 7, 3) := by decide +kernel
theorem dX9_isTaken_9 : decode cX9_isTaken 9 = .ok (.iconst 1, 1) := by decide +kernel
theorem dX9_isTaken_10 : decode cX9_isTaken 10 = .ok (.goto 4, 3) := by decide +kernel
theorem dX9_isTaken_13 : decode cX9_isTaken 13 = .ok (.iconst 0, 1) := by decide +kernel
theorem dX9_isTaken_14 : decode cX9_isTaken 14 = .ok (.ireturn, 1) := by decide +kernel
theorem dX9_seat_0 : decode cX9_seat 0 = .ok (.iload_n 2, 1) := by decide +kernel
theorem dX9_seat_1 : decode cX9_seat 1 = .ok (.i2l, 1) := by decide +kernel
theorem dX9_seat_2 : decode cX9_seat 2 = .ok (.lconst 0, 1) := by decide +kernel
theorem dX9_seat_3 : decode cX9_seat 3 = .ok (.ldc2_w 52, 3) := by decide +kernel
theorem dX9_seat_6 : decode cX9_seat 6 = .ok (.invokestatic 54, 3) := by decide +kernel
theorem dX9_seat_9 : decode cX9_seat 9 = .ok (.ifCond .eq 38, 3) := by decide +kernel
theorem dX9_seat_12 : decode cX9_seat 12 = .ok (.iload_n 3, 1) := by decide +kernel
theorem dX9_seat_13 : decode cX9_seat 13 = .ok (.i2l, 1) := by decide +kernel
theorem dX9_seat_14 : decode cX9_seat 14 = .ok (.lconst 0, 1) := by decide +kernel
theorem dX9_seat_15 : decode cX9_seat 15 = .ok (.iload_n 2, 1) := by decide +kernel
theorem dX9_seat_16 : decode cX9_seat 16 = .ok (.ifCond .ne 9, 3) := by decide +kernel
theorem dX9_seat_19 : decode cX9_seat 19 = .ok (.ldc2_w 58, 3) := by decide +kernel
theorem dX9_seat_22 : decode cX9_seat 22 = .ok (.goto 15, 3) := by decide +kernel
theorem dX9_seat_25 : decode cX9_seat 25 = .ok (.iload_n 2, 1) := by decide +kernel
theorem dX9_seat_26 : decode cX9_seat 26 = .ok (.iconst 1, 1) := by decide +kernel
theorem dX9_seat_27 : decode cX9_seat 27 = .ok (.if_icmp .ne 9, 3) := by decide +kernel
theorem dX9_seat_30 : decode cX9_seat 30 = .ok (.ldc2_w 66, 3) := by decide +kernel
theorem dX9_seat_33 : decode cX9_seat 33 = .ok (.goto 4, 3) := by decide +kernel
theorem dX9_seat_36 : decode cX9_seat 36 = .ok (.lconst 1, 1) := by decide +kernel
theorem dX9_seat_37 : decode cX9_seat 37 = .ok (.invokestatic 54, 3) := by decide +kernel
theorem dX9_seat_40 : decode cX9_seat 40 = .ok (.ifCond .eq 7, 3) := by decide +kernel
theorem dX9_seat_43 : decode cX9_seat 43 = .ok (.iconst 1, 1) := by decide +kernel
theorem dX9_seat_44 : decode cX9_seat 44 = .ok (.goto 4, 3) := by decide +kernel
theorem dX9_seat_47 : decode cX9_seat 47 = .ok (.iconst 0, 1) := by decide +kernel
theorem dX9_seat_48 : decode cX9_seat 48 = .ok (.istore 4, 2) := by decide +kernel
theorem dX9_seat_50 : decode cX9_seat 50 = .ok (.iload_n 1, 1) := by decide +kernel
theorem dX9_seat_51 : decode cX9_seat 51 = .ok (.invokestatic 68, 3) := by decide +kernel
theorem dX9_seat_54 : decode cX9_seat 54 = .ok (.ifCond .eq 21, 3) := by decide +kernel
theorem dX9_seat_57 : decode cX9_seat 57 = .ok (.iload 4, 2) := by decide +kernel
theorem dX9_seat_59 : decode cX9_seat 59 = .ok (.ifCond .eq 16, 3) := by decide +kernel
theorem dX9_seat_62 : decode cX9_seat 62 = .ok (.aload_n 0, 1) := by decide +kernel
theorem dX9_seat_63 : decode cX9_seat 63 = .ok (.iload_n 1, 1) := by decide +kernel
theorem dX9_seat_64 : decode cX9_seat 64 = .ok (.iload_n 2, 1) := by decide +kernel
theorem dX9_seat_65 : decode cX9_seat 65 = .ok (.invokestatic 47, 3) := by decide +kernel
theorem dX9_seat_68 : decode cX9_seat 68 = .ok (.iload_n 3, 1) := by decide +kernel
theorem dX9_seat_69 : decode cX9_seat 69 = .ok (.invokevirtual 72, 3) := by decide +kernel
theorem dX9_seat_72 : decode cX9_seat 72 = .ok (.goto 9, 3) := by decide +kernel
theorem dX9_seat_75 : decode cX9_seat 75 = .ok (.aload_n 0, 1) := by decide +kernel
theorem dX9_seat_76 : decode cX9_seat 76 = .ok (.ldc 51, 2) := by decide +kernel
theorem dX9_seat_78 : decode cX9_seat 78 = .ok (.invokevirtual 75, 3) := by decide +kernel
theorem dX9_seat_81 : decode cX9_seat 81 = .ok (.ireturn, 1) := by decide +kernel
theorem dX9_seatOf_0 : decode cX9_seatOf 0 = .ok (.iload_n 1, 1) := by decide +kernel
theorem dX9_seatOf_1 : decode cX9_seatOf 1 = .ok (.invokestatic 68, 3) := by decide +kernel
theorem dX9_seatOf_4 : decode cX9_seatOf 4 = .ok (.ifCond .eq 24, 3) := by decide +kernel
theorem dX9_seatOf_7 : decode cX9_seatOf 7 = .ok (.iload_n 2, 1) := by decide +kernel
theorem dX9_seatOf_8 : decode cX9_seatOf 8 = .ok (.i2l, 1) := by decide +kernel
theorem dX9_seatOf_9 : decode cX9_seatOf 9 = .ok (.lconst 0, 1) := by decide +kernel
theorem dX9_seatOf_10 : decode cX9_seatOf 10 = .ok (.ldc2_w 79, 3) := by decide +kernel
theorem dX9_seatOf_13 : decode cX9_seatOf 13 = .ok (.invokestatic 54, 3) := by decide +kernel
theorem dX9_seatOf_16 : decode cX9_seatOf 16 = .ok (.ifCond .eq 12, 3) := by decide +kernel
theorem dX9_seatOf_19 : decode cX9_seatOf 19 = .ok (.aload_n 0, 1) := by decide +kernel
theorem dX9_seatOf_20 : decode cX9_seatOf 20 = .ok (.iload_n 1, 1) := by decide +kernel
theorem dX9_seatOf_21 : decode cX9_seatOf 21 = .ok (.iload_n 2, 1) := by decide +kernel
theorem dX9_seatOf_22 : decode cX9_seatOf 22 = .ok (.invokevirtual 63, 3) := by decide +kernel
theorem dX9_seatOf_25 : decode cX9_seatOf 25 = .ok (.goto 9, 3) := by decide +kernel
theorem dX9_seatOf_28 : decode cX9_seatOf 28 = .ok (.aload_n 0, 1) := by decide +kernel
theorem dX9_seatOf_29 : decode cX9_seatOf 29 = .ok (.ldc 51, 2) := by decide +kernel
theorem dX9_seatOf_31 : decode cX9_seatOf 31 = .ok (.invokevirtual 75, 3) := by decide +kernel
theorem dX9_seatOf_34 : decode cX9_seatOf 34 = .ok (.ireturn, 1) := by decide +kernel
theorem dX9_rain_0 : decode cX9_rain 0 = .ok (.iload_n 1, 1) := by decide +kernel
theorem dX9_rain_1 : decode cX9_rain 1 = .ok (.i2l, 1) := by decide +kernel
theorem dX9_rain_2 : decode cX9_rain 2 = .ok (.lconst 0, 1) := by decide +kernel
theorem dX9_rain_3 : decode cX9_rain 3 = .ok (.ldc2_w 66, 3) := by decide +kernel
theorem dX9_rain_6 : decode cX9_rain 6 = .ok (.invokestatic 54, 3) := by decide +kernel
theorem dX9_rain_9 : decode cX9_rain 9 = .ok (.ifCond .eq 12, 3) := by decide +kernel
theorem dX9_rain_12 : decode cX9_rain 12 = .ok (.aload_n 0, 1) := by decide +kernel
theorem dX9_rain_13 : decode cX9_rain 13 = .ok (.iconst 3, 1) := by decide +kernel
theorem dX9_rain_14 : decode cX9_rain 14 = .ok (.iload_n 1, 1) := by decide +kernel
theorem dX9_rain_15 : decode cX9_rain 15 = .ok (.invokevirtual 72, 3) := by decide +kernel
theorem dX9_rain_18 : decode cX9_rain 18 = .ok (.goto 9, 3) := by decide +kernel
theorem dX9_rain_21 : decode cX9_rain 21 = .ok (.aload_n 0, 1) := by decide +kernel
theorem dX9_rain_22 : decode cX9_rain 22 = .ok (.ldc 51, 2) := by decide +kernel
theorem dX9_rain_24 : decode cX9_rain 24 = .ok (.invokevirtual 75, 3) := by decide +kernel
theorem dX9_rain_27 : decode cX9_rain 27 = .ok (.ireturn, 1) := by decide +kernel
theorem dX9_adds_0 : decode cX9_adds 0 = .ok (.aload_n 0, 1) := by decide +kernel
theorem dX9_adds_1 : decode cX9_adds 1 = .ok (.getfield 7, 3) := by decide +kernel
theorem dX9_adds_4 : decode cX9_adds 4 = .ok (.iconst 0, 1) := by decide +kernel
theorem dX9_adds_5 : decode cX9_adds 5 = .ok (.iaload, 1) := by decide +kernel
theorem dX9_adds_6 : decode cX9_adds 6 = .ok (.istore_n 2, 1) := by decide +kernel
theorem dX9_adds_7 : decode cX9_adds 7 = .ok (.iconst 0, 1) := by decide +kernel
theorem dX9_adds_8 : decode cX9_adds 8 = .ok (.istore_n 3, 1) := by decide +kernel
theorem dX9_adds_9 : decode cX9_adds 9 = .ok (.iload_n 3, 1) := by decide +kernel
theorem dX9_adds_10 : decode cX9_adds 10 = .ok (.bipush 6, 2) := by decide +kernel
theorem dX9_adds_12 : decode cX9_adds 12 = .ok (.if_icmp .ge 20, 3) := by decide +kernel
theorem dX9_adds_15 : decode cX9_adds 15 = .ok (.aload_n 0, 1) := by decide +kernel
theorem dX9_adds_16 : decode cX9_adds 16 = .ok (.getfield 7, 3) := by decide +kernel
theorem dX9_adds_19 : decode cX9_adds 19 = .ok (.iload_n 2, 1) := by decide +kernel
theorem dX9_adds_20 : decode cX9_adds 20 = .ok (.iload_n 3, 1) := by decide +kernel
theorem dX9_adds_21 : decode cX9_adds 21 = .ok (.invokestatic 60, 3) := by decide +kernel
theorem dX9_adds_24 : decode cX9_adds 24 = .ok (.iconst 0, 1) := by decide +kernel
theorem dX9_adds_25 : decode cX9_adds 25 = .ok (.iastore, 1) := by decide +kernel
theorem dX9_adds_26 : decode cX9_adds 26 = .ok (.iinc 3 1, 3) := by decide +kernel
theorem dX9_adds_29 : decode cX9_adds 29 = .ok (.goto (-20), 3) := by decide +kernel
theorem dX9_adds_32 : decode cX9_adds 32 = .ok (.aload_n 0, 1) := by decide +kernel
theorem dX9_adds_33 : decode cX9_adds 33 = .ok (.getfield 7, 3) := by decide +kernel
theorem dX9_adds_36 : decode cX9_adds 36 = .ok (.iload_n 2, 1) := by decide +kernel
theorem dX9_adds_37 : decode cX9_adds 37 = .ok (.iconst 0, 1) := by decide +kernel
theorem dX9_adds_38 : decode cX9_adds 38 = .ok (.invokestatic 60, 3) := by decide +kernel
theorem dX9_adds_41 : decode cX9_adds 41 = .ok (.iload_n 1, 1) := by decide +kernel
theorem dX9_adds_42 : decode cX9_adds 42 = .ok (.iastore, 1) := by decide +kernel
theorem dX9_adds_43 : decode cX9_adds 43 = .ok (.aload_n 0, 1) := by decide +kernel
theorem dX9_adds_44 : decode cX9_adds 44 = .ok (.getfield 7, 3) := by decide +kernel
theorem dX9_adds_47 : decode cX9_adds 47 = .ok (.iload_n 2, 1) := by decide +kernel
theorem dX9_adds_48 : decode cX9_adds 48 = .ok (.iconst 1, 1) := by decide +kernel
theorem dX9_adds_49 : decode cX9_adds 49 = .ok (.invokestatic 60, 3) := by decide +kernel
theorem dX9_adds_52 : decode cX9_adds 52 = .ok (.bipush 30, 2) := by decide +kernel
theorem dX9_adds_54 : decode cX9_adds 54 = .ok (.iastore, 1) := by decide +kernel
theorem dX9_adds_55 : decode cX9_adds 55 = .ok (.aload_n 0, 1) := by decide +kernel
theorem dX9_adds_56 : decode cX9_adds 56 = .ok (.getfield 7, 3) := by decide +kernel
theorem dX9_adds_59 : decode cX9_adds 59 = .ok (.iload_n 2, 1) := by decide +kernel
theorem dX9_adds_60 : decode cX9_adds 60 = .ok (.iconst 2, 1) := by decide +kernel
theorem dX9_adds_61 : decode cX9_adds 61 = .ok (.invokestatic 60, 3) := by decide +kernel
theorem dX9_adds_64 : decode cX9_adds 64 = .ok (.iconst 5, 1) := by decide +kernel
theorem dX9_adds_65 : decode cX9_adds 65 = .ok (.iastore, 1) := by decide +kernel
theorem dX9_adds_66 : decode cX9_adds 66 = .ok (.aload_n 0, 1) := by decide +kernel
theorem dX9_adds_67 : decode cX9_adds 67 = .ok (.getfield 7, 3) := by decide +kernel
theorem dX9_adds_70 : decode cX9_adds 70 = .ok (.iconst 0, 1) := by decide +kernel
theorem dX9_adds_71 : decode cX9_adds 71 = .ok (.dup2, 1) := by decide +kernel
theorem dX9_adds_72 : decode cX9_adds 72 = .ok (.iaload, 1) := by decide +kernel
theorem dX9_adds_73 : decode cX9_adds 73 = .ok (.iconst 1, 1) := by decide +kernel
theorem dX9_adds_74 : decode cX9_adds 74 = .ok (.iadd, 1) := by decide +kernel
theorem dX9_adds_75 : decode cX9_adds 75 = .ok (.iastore, 1) := by decide +kernel
theorem dX9_adds_76 : decode cX9_adds 76 = .ok (.iload_n 2, 1) := by decide +kernel
theorem dX9_adds_77 : decode cX9_adds 77 = .ok (.ireturn, 1) := by decide +kernel
theorem dX9_child_0 : decode cX9_child 0 = .ok (.iload_n 1, 1) := by decide +kernel
theorem dX9_child_1 : decode cX9_child 1 = .ok (.invokestatic 81, 3) := by decide +kernel
theorem dX9_child_4 : decode cX9_child 4 = .ok (.ifCond .ne 10, 3) := by decide +kernel
theorem dX9_child_7 : decode cX9_child 7 = .ok (.aload_n 0, 1) := by decide +kernel
theorem dX9_child_8 : decode cX9_child 8 = .ok (.ldc 51, 2) := by decide +kernel
theorem dX9_child_10 : decode cX9_child 10 = .ok (.invokevirtual 75, 3) := by decide +kernel
theorem dX9_child_13 : decode cX9_child 13 = .ok (.ireturn, 1) := by decide +kernel
theorem dX9_child_14 : decode cX9_child 14 = .ok (.aload_n 0, 1) := by decide +kernel
theorem dX9_child_15 : decode cX9_child 15 = .ok (.getfield 7, 3) := by decide +kernel
theorem dX9_child_18 : decode cX9_child 18 = .ok (.iconst 0, 1) := by decide +kernel
theorem dX9_child_19 : decode cX9_child 19 = .ok (.iaload, 1) := by decide +kernel
theorem dX9_child_20 : decode cX9_child 20 = .ok (.bipush 6, 2) := by decide +kernel
theorem dX9_child_22 : decode cX9_child 22 = .ok (.if_icmp .ne 12, 3) := by decide +kernel
theorem dX9_child_25 : decode cX9_child 25 = .ok (.aload_n 0, 1) := by decide +kernel
theorem dX9_child_26 : decode cX9_child 26 = .ok (.ldc 84, 2) := by decide +kernel
theorem dX9_child_28 : decode cX9_child 28 = .ok (.invokevirtual 75, 3) := by decide +kernel
theorem dX9_child_31 : decode cX9_child 31 = .ok (.goto 8, 3) := by decide +kernel
theorem dX9_child_34 : decode cX9_child 34 = .ok (.aload_n 0, 1) := by decide +kernel
theorem dX9_child_35 : decode cX9_child 35 = .ok (.iload_n 1, 1) := by decide +kernel
theorem dX9_child_36 : decode cX9_child 36 = .ok (.invokevirtual 85, 3) := by decide +kernel
theorem dX9_child_39 : decode cX9_child 39 = .ok (.ireturn, 1) := by decide +kernel
theorem dX9_isNear_0 : decode cX9_isNear 0 = .ok (.iload_n 1, 1) := by decide +kernel
theorem dX9_isNear_1 : decode cX9_isNear 1 = .ok (.iconst 1, 1) := by decide +kernel
theorem dX9_isNear_2 : decode cX9_isNear 2 = .ok (.if_icmp .ne 27, 3) := by decide +kernel
theorem dX9_isNear_5 : decode cX9_isNear 5 = .ok (.aload_n 0, 1) := by decide +kernel
theorem dX9_isNear_6 : decode cX9_isNear 6 = .ok (.iconst 0, 1) := by decide +kernel
theorem dX9_isNear_7 : decode cX9_isNear 7 = .ok (.invokevirtual 88, 3) := by decide +kernel
theorem dX9_isNear_10 : decode cX9_isNear 10 = .ok (.ifCond .ne 11, 3) := by decide +kernel
theorem dX9_isNear_13 : decode cX9_isNear 13 = .ok (.aload_n 0, 1) := by decide +kernel
theorem dX9_isNear_14 : decode cX9_isNear 14 = .ok (.iconst 2, 1) := by decide +kernel
theorem dX9_isNear_15 : decode cX9_isNear 15 = .ok (.invokevirtual 88, 3) := by decide +kernel
theorem dX9_isNear_18 : decode cX9_isNear 18 = .ok (.ifCond .eq 7, 3) := by decide +kernel
theorem dX9_isNear_21 : decode cX9_isNear 21 = .ok (.iconst 1, 1) := by decide +kernel
theorem dX9_isNear_22 : decode cX9_isNear 22 = .ok (.goto 12, 3) := by decide +kernel
theorem dX9_isNear_25 : decode cX9_isNear 25 = .ok (.iconst 0, 1) := by decide +kernel
theorem dX9_isNear_26 : decode cX9_isNear 26 = .ok (.goto 8, 3) := by decide +kernel
theorem dX9_isNear_29 : decode cX9_isNear 29 = .ok (.aload_n 0, 1) := by decide +kernel
theorem dX9_isNear_30 : decode cX9_isNear 30 = .ok (.iconst 1, 1) := by decide +kernel
theorem dX9_isNear_31 : decode cX9_isNear 31 = .ok (.invokevirtual 88, 3) := by decide +kernel
theorem dX9_isNear_34 : decode cX9_isNear 34 = .ok (.ireturn, 1) := by decide +kernel
theorem dX9_frets_0 : decode cX9_frets 0 = .ok (.aload_n 0, 1) := by decide +kernel
theorem dX9_frets_1 : decode cX9_frets 1 = .ok (.iload_n 1, 1) := by decide +kernel
theorem dX9_frets_2 : decode cX9_frets 2 = .ok (.invokevirtual 91, 3) := by decide +kernel
theorem dX9_frets_5 : decode cX9_frets 5 = .ok (.istore_n 2, 1) := by decide +kernel
theorem dX9_frets_6 : decode cX9_frets 6 = .ok (.aload_n 0, 1) := by decide +kernel
theorem dX9_frets_7 : decode cX9_frets 7 = .ok (.getfield 7, 3) := by decide +kernel
theorem dX9_frets_10 : decode cX9_frets 10 = .ok (.iconst 1, 1) := by decide +kernel
theorem dX9_frets_11 : decode cX9_frets 11 = .ok (.iaload, 1) := by decide +kernel
theorem dX9_frets_12 : decode cX9_frets 12 = .ok (.iconst 3, 1) := by decide +kernel
theorem dX9_frets_13 : decode cX9_frets 13 = .ok (.irem, 1) := by decide +kernel
theorem dX9_frets_14 : decode cX9_frets 14 = .ok (.ifCond .ne 7, 3) := by decide +kernel
theorem dX9_frets_17 : decode cX9_frets 17 = .ok (.iconst 1, 1) := by decide +kernel
theorem dX9_frets_18 : decode cX9_frets 18 = .ok (.goto 4, 3) := by decide +kernel
theorem dX9_frets_21 : decode cX9_frets 21 = .ok (.iconst 0, 1) := by decide +kernel
theorem dX9_frets_22 : decode cX9_frets 22 = .ok (.istore_n 3, 1) := by decide +kernel
theorem dX9_frets_23 : decode cX9_frets 23 = .ok (.aload_n 0, 1) := by decide +kernel
theorem dX9_frets_24 : decode cX9_frets 24 = .ok (.iload_n 1, 1) := by decide +kernel
theorem dX9_frets_25 : decode cX9_frets 25 = .ok (.iconst 5, 1) := by decide +kernel
theorem dX9_frets_26 : decode cX9_frets 26 = .ok (.invokevirtual 94, 3) := by decide +kernel
theorem dX9_frets_29 : decode cX9_frets 29 = .ok (.bipush 6, 2) := by decide +kernel
theorem dX9_frets_31 : decode cX9_frets 31 = .ok (.if_icmp .le 9, 3) := by decide +kernel
theorem dX9_frets_34 : decode cX9_frets 34 = .ok (.iload_n 3, 1) := by decide +kernel
theorem dX9_frets_35 : decode cX9_frets 35 = .ok (.iconst 1, 1) := by decide +kernel
theorem dX9_frets_36 : decode cX9_frets 36 = .ok (.iadd, 1) := by decide +kernel
theorem dX9_frets_37 : decode cX9_frets 37 = .ok (.goto 4, 3) := by decide +kernel
theorem dX9_frets_40 : decode cX9_frets 40 = .ok (.iload_n 3, 1) := by decide +kernel
theorem dX9_frets_41 : decode cX9_frets 41 = .ok (.istore 4, 2) := by decide +kernel
theorem dX9_frets_43 : decode cX9_frets 43 = .ok (.aload_n 0, 1) := by decide +kernel
theorem dX9_frets_44 : decode cX9_frets 44 = .ok (.iload_n 1, 1) := by decide +kernel
theorem dX9_frets_45 : decode cX9_frets 45 = .ok (.iconst 0, 1) := by decide +kernel
theorem dX9_frets_46 : decode cX9_frets 46 = .ok (.invokevirtual 94, 3) := by decide +kernel
theorem dX9_frets_49 : decode cX9_frets 49 = .ok (.tableswitch 59 1 4 #[31, 59, 34, 54], 31) := by decide +kernel
theorem dX9_frets_80 : decode cX9_frets 80 = .ok (.iload 4, 2) := by decide +kernel
theorem dX9_frets_82 : decode cX9_frets 82 = .ok (.ireturn, 1) := by decide +kernel
theorem dX9_frets_83 : decode cX9_frets 83 = .ok (.iload_n 2, 1) := by decide +kernel
theorem dX9_frets_84 : decode cX9_frets 84 = .ok (.ifCond .lt 11, 3) := by decide +kernel
theorem dX9_frets_87 : decode cX9_frets 87 = .ok (.aload_n 0, 1) := by decide +kernel
theorem dX9_frets_88 : decode cX9_frets 88 = .ok (.iload_n 2, 1) := by decide +kernel
theorem dX9_frets_89 : decode cX9_frets 89 = .ok (.invokevirtual 97, 3) := by decide +kernel
theorem dX9_frets_92 : decode cX9_frets 92 = .ok (.ifCond .ne 9, 3) := by decide +kernel
theorem dX9_frets_95 : decode cX9_frets 95 = .ok (.iload_n 3, 1) := by decide +kernel
theorem dX9_frets_96 : decode cX9_frets 96 = .ok (.iconst 1, 1) := by decide +kernel
theorem dX9_frets_97 : decode cX9_frets 97 = .ok (.iadd, 1) := by decide +kernel
theorem dX9_frets_98 : decode cX9_frets 98 = .ok (.goto 4, 3) := by decide +kernel
theorem dX9_frets_101 : decode cX9_frets 101 = .ok (.iload_n 3, 1) := by decide +kernel
theorem dX9_frets_102 : decode cX9_frets 102 = .ok (.ireturn, 1) := by decide +kernel
theorem dX9_frets_103 : decode cX9_frets 103 = .ok (.iconst 2, 1) := by decide +kernel
theorem dX9_frets_104 : decode cX9_frets 104 = .ok (.iload 4, 2) := by decide +kernel
theorem dX9_frets_106 : decode cX9_frets 106 = .ok (.imul, 1) := by decide +kernel
theorem dX9_frets_107 : decode cX9_frets 107 = .ok (.ireturn, 1) := by decide +kernel
theorem dX9_frets_108 : decode cX9_frets 108 = .ok (.iload_n 3, 1) := by decide +kernel
theorem dX9_frets_109 : decode cX9_frets 109 = .ok (.ireturn, 1) := by decide +kernel
theorem dX9_of_0 : decode cX9_of 0 = .ok (.aload_n 0, 1) := by decide +kernel
theorem dX9_of_1 : decode cX9_of 1 = .ok (.iload_n 1, 1) := by decide +kernel
theorem dX9_of_2 : decode cX9_of 2 = .ok (.invokevirtual 100, 3) := by decide +kernel
theorem dX9_of_5 : decode cX9_of 5 = .ok (.ifCond .eq 15, 3) := by decide +kernel
theorem dX9_of_8 : decode cX9_of 8 = .ok (.iload_n 2, 1) := by decide +kernel
theorem dX9_of_9 : decode cX9_of 9 = .ok (.i2l, 1) := by decide +kernel
theorem dX9_of_10 : decode cX9_of 10 = .ok (.lconst 0, 1) := by decide +kernel
theorem dX9_of_11 : decode cX9_of 11 = .ok (.ldc2_w 103, 3) := by decide +kernel
theorem dX9_of_14 : decode cX9_of 14 = .ok (.invokestatic 54, 3) := by decide +kernel
theorem dX9_of_17 : decode cX9_of 17 = .ok (.ifCond .ne 10, 3) := by decide +kernel
theorem dX9_of_20 : decode cX9_of 20 = .ok (.aload_n 0, 1) := by decide +kernel
theorem dX9_of_21 : decode cX9_of 21 = .ok (.ldc 51, 2) := by decide +kernel
theorem dX9_of_23 : decode cX9_of 23 = .ok (.invokevirtual 75, 3) := by decide +kernel
theorem dX9_of_26 : decode cX9_of 26 = .ok (.ireturn, 1) := by decide +kernel
theorem dX9_of_27 : decode cX9_of 27 = .ok (.iload_n 2, 1) := by decide +kernel
theorem dX9_of_28 : decode cX9_of 28 = .ok (.iconst 5, 1) := by decide +kernel
theorem dX9_of_29 : decode cX9_of 29 = .ok (.if_icmp .gt 12, 3) := by decide +kernel
theorem dX9_of_32 : decode cX9_of 32 = .ok (.aload_n 0, 1) := by decide +kernel
theorem dX9_of_33 : decode cX9_of 33 = .ok (.iload_n 1, 1) := by decide +kernel
theorem dX9_of_34 : decode cX9_of 34 = .ok (.iload_n 2, 1) := by decide +kernel
theorem dX9_of_35 : decode cX9_of 35 = .ok (.invokevirtual 94, 3) := by decide +kernel
theorem dX9_of_38 : decode cX9_of 38 = .ok (.goto 22, 3) := by decide +kernel
theorem dX9_of_41 : decode cX9_of 41 = .ok (.iload_n 2, 1) := by decide +kernel
theorem dX9_of_42 : decode cX9_of 42 = .ok (.bipush 6, 2) := by decide +kernel
theorem dX9_of_44 : decode cX9_of 44 = .ok (.if_icmp .ne 11, 3) := by decide +kernel
theorem dX9_of_47 : decode cX9_of 47 = .ok (.aload_n 0, 1) := by decide +kernel
theorem dX9_of_48 : decode cX9_of 48 = .ok (.iload_n 1, 1) := by decide +kernel
theorem dX9_of_49 : decode cX9_of 49 = .ok (.invokevirtual 91, 3) := by decide +kernel
theorem dX9_of_52 : decode cX9_of 52 = .ok (.goto 8, 3) := by decide +kernel
theorem dX9_of_55 : decode cX9_of 55 = .ok (.aload_n 0, 1) := by decide +kernel
theorem dX9_of_56 : decode cX9_of 56 = .ok (.iload_n 1, 1) := by decide +kernel
theorem dX9_of_57 : decode cX9_of 57 = .ok (.invokevirtual 105, 3) := by decide +kernel
theorem dX9_of_60 : decode cX9_of 60 = .ok (.ireturn, 1) := by decide +kernel
theorem dX9_set_0 : decode cX9_set 0 = .ok (.iload_n 2, 1) := by decide +kernel
theorem dX9_set_1 : decode cX9_set 1 = .ok (.i2l, 1) := by decide +kernel
theorem dX9_set_2 : decode cX9_set 2 = .ok (.lconst 1, 1) := by decide +kernel
theorem dX9_set_3 : decode cX9_set 3 = .ok (.ldc2_w 79, 3) := by decide +kernel
theorem dX9_set_6 : decode cX9_set 6 = .ok (.invokestatic 54, 3) := by decide +kernel
theorem dX9_set_9 : decode cX9_set 9 = .ok (.ifCond .eq 39, 3) := by decide +kernel
theorem dX9_set_12 : decode cX9_set 12 = .ok (.iload_n 3, 1) := by decide +kernel
theorem dX9_set_13 : decode cX9_set 13 = .ok (.i2l, 1) := by decide +kernel
theorem dX9_set_14 : decode cX9_set 14 = .ok (.lconst 0, 1) := by decide +kernel
theorem dX9_set_15 : decode cX9_set 15 = .ok (.iload_n 2, 1) := by decide +kernel
theorem dX9_set_16 : decode cX9_set 16 = .ok (.iconst 1, 1) := by decide +kernel
theorem dX9_set_17 : decode cX9_set 17 = .ok (.if_icmp .ne 9, 3) := by decide +kernel
theorem dX9_set_20 : decode cX9_set 20 = .ok (.ldc2_w 108, 3) := by decide +kernel
theorem dX9_set_23 : decode cX9_set 23 = .ok (.goto 15, 3) := by decide +kernel
theorem dX9_set_26 : decode cX9_set 26 = .ok (.iload_n 2, 1) := by decide +kernel
theorem dX9_set_27 : decode cX9_set 27 = .ok (.iconst 3, 1) := by decide +kernel
theorem dX9_set_28 : decode cX9_set 28 = .ok (.if_icmp .ne 7, 3) := by decide +kernel
theorem dX9_set_31 : decode cX9_set 31 = .ok (.lconst 1, 1) := by decide +kernel
theorem dX9_set_32 : decode cX9_set 32 = .ok (.goto 6, 3) := by decide +kernel
theorem dX9_set_35 : decode cX9_set 35 = .ok (.ldc2_w 66, 3) := by decide +kernel
theorem dX9_set_38 : decode cX9_set 38 = .ok (.invokestatic 54, 3) := by decide +kernel
theorem dX9_set_41 : decode cX9_set 41 = .ok (.ifCond .eq 7, 3) := by decide +kernel
theorem dX9_set_44 : decode cX9_set 44 = .ok (.iconst 1, 1) := by decide +kernel
theorem dX9_set_45 : decode cX9_set 45 = .ok (.goto 4, 3) := by decide +kernel
theorem dX9_set_48 : decode cX9_set 48 = .ok (.iconst 0, 1) := by decide +kernel
theorem dX9_set_49 : decode cX9_set 49 = .ok (.istore 4, 2) := by decide +kernel
theorem dX9_set_51 : decode cX9_set 51 = .ok (.aload_n 0, 1) := by decide +kernel
theorem dX9_set_52 : decode cX9_set 52 = .ok (.iload_n 1, 1) := by decide +kernel
theorem dX9_set_53 : decode cX9_set 53 = .ok (.invokevirtual 100, 3) := by decide +kernel
theorem dX9_set_56 : decode cX9_set 56 = .ok (.ifCond .eq 21, 3) := by decide +kernel
theorem dX9_set_59 : decode cX9_set 59 = .ok (.iload 4, 2) := by decide +kernel
theorem dX9_set_61 : decode cX9_set 61 = .ok (.ifCond .eq 16, 3) := by decide +kernel
theorem dX9_set_64 : decode cX9_set 64 = .ok (.aload_n 0, 1) := by decide +kernel
theorem dX9_set_65 : decode cX9_set 65 = .ok (.iload_n 1, 1) := by decide +kernel
theorem dX9_set_66 : decode cX9_set 66 = .ok (.iload_n 2, 1) := by decide +kernel
theorem dX9_set_67 : decode cX9_set 67 = .ok (.invokestatic 60, 3) := by decide +kernel
theorem dX9_set_70 : decode cX9_set 70 = .ok (.iload_n 3, 1) := by decide +kernel
theorem dX9_set_71 : decode cX9_set 71 = .ok (.invokevirtual 72, 3) := by decide +kernel
theorem dX9_set_74 : decode cX9_set 74 = .ok (.goto 9, 3) := by decide +kernel
theorem dX9_set_77 : decode cX9_set 77 = .ok (.aload_n 0, 1) := by decide +kernel
theorem dX9_set_78 : decode cX9_set 78 = .ok (.ldc 51, 2) := by decide +kernel
theorem dX9_set_80 : decode cX9_set 80 = .ok (.invokevirtual 75, 3) := by decide +kernel
theorem dX9_set_83 : decode cX9_set 83 = .ok (.ireturn, 1) := by decide +kernel
theorem dX9_turn_0 : decode cX9_turn 0 = .ok (.aload_n 0, 1) := by decide +kernel
theorem dX9_turn_1 : decode cX9_turn 1 = .ok (.iload_n 1, 1) := by decide +kernel
theorem dX9_turn_2 : decode cX9_turn 2 = .ok (.invokevirtual 100, 3) := by decide +kernel
theorem dX9_turn_5 : decode cX9_turn 5 = .ok (.ifCond .eq 23, 3) := by decide +kernel
theorem dX9_turn_8 : decode cX9_turn 8 = .ok (.iload_n 2, 1) := by decide +kernel
theorem dX9_turn_9 : decode cX9_turn 9 = .ok (.invokestatic 81, 3) := by decide +kernel
theorem dX9_turn_12 : decode cX9_turn 12 = .ok (.ifCond .eq 16, 3) := by decide +kernel
theorem dX9_turn_15 : decode cX9_turn 15 = .ok (.aload_n 0, 1) := by decide +kernel
theorem dX9_turn_16 : decode cX9_turn 16 = .ok (.iload_n 1, 1) := by decide +kernel
theorem dX9_turn_17 : decode cX9_turn 17 = .ok (.iconst 0, 1) := by decide +kernel
theorem dX9_turn_18 : decode cX9_turn 18 = .ok (.invokestatic 60, 3) := by decide +kernel
theorem dX9_turn_21 : decode cX9_turn 21 = .ok (.iload_n 2, 1) := by decide +kernel
theorem dX9_turn_22 : decode cX9_turn 22 = .ok (.invokevirtual 72, 3) := by decide +kernel
theorem dX9_turn_25 : decode cX9_turn 25 = .ok (.goto 9, 3) := by decide +kernel
theorem dX9_turn_28 : decode cX9_turn 28 = .ok (.aload_n 0, 1) := by decide +kernel
theorem dX9_turn_29 : decode cX9_turn 29 = .ok (.ldc 51, 2) := by decide +kernel
theorem dX9_turn_31 : decode cX9_turn 31 = .ok (.invokevirtual 75, 3) := by decide +kernel
theorem dX9_turn_34 : decode cX9_turn 34 = .ok (.ireturn, 1) := by decide +kernel
theorem dX9_isUnder_0 : decode cX9_isUnder 0 = .ok (.iload_n 1, 1) := by decide +kernel
theorem dX9_isUnder_1 : decode cX9_isUnder 1 = .ok (.ifCond .eq 20, 3) := by decide +kernel
theorem dX9_isUnder_4 : decode cX9_isUnder 4 = .ok (.iload_n 0, 1) := by decide +kernel
theorem dX9_isUnder_5 : decode cX9_isUnder 5 = .ok (.iload_n 1, 1) := by decide +kernel
theorem dX9_isUnder_6 : decode cX9_isUnder 6 = .ok (.if_icmp .eq 15, 3) := by decide +kernel
theorem dX9_isUnder_9 : decode cX9_isUnder 9 = .ok (.iload_n 0, 1) := by decide +kernel
theorem dX9_isUnder_10 : decode cX9_isUnder 10 = .ok (.iconst 3, 1) := by decide +kernel
theorem dX9_isUnder_11 : decode cX9_isUnder 11 = .ok (.if_icmp .le 14, 3) := by decide +kernel
theorem dX9_isUnder_14 : decode cX9_isUnder 14 = .ok (.iload_n 0, 1) := by decide +kernel
theorem dX9_isUnder_15 : decode cX9_isUnder 15 = .ok (.iconst 3, 1) := by decide +kernel
theorem dX9_isUnder_16 : decode cX9_isUnder 16 = .ok (.isub, 1) := by decide +kernel
theorem dX9_isUnder_17 : decode cX9_isUnder 17 = .ok (.iload_n 1, 1) := by decide +kernel
theorem dX9_isUnder_18 : decode cX9_isUnder 18 = .ok (.if_icmp .ne 7, 3) := by decide +kernel
theorem dX9_isUnder_21 : decode cX9_isUnder 21 = .ok (.iconst 1, 1) := by decide +kernel
theorem dX9_isUnder_22 : decode cX9_isUnder 22 = .ok (.goto 4, 3) := by decide +kernel
theorem dX9_isUnder_25 : decode cX9_isUnder 25 = .ok (.iconst 0, 1) := by decide +kernel
theorem dX9_isUnder_26 : decode cX9_isUnder 26 = .ok (.ireturn, 1) := by decide +kernel
theorem dX9_as_0 : decode cX9_as 0 = .ok (.aload_n 0, 1) := by decide +kernel
theorem dX9_as_1 : decode cX9_as 1 = .ok (.iload_n 1, 1) := by decide +kernel
theorem dX9_as_2 : decode cX9_as 2 = .ok (.invokevirtual 100, 3) := by decide +kernel
theorem dX9_as_5 : decode cX9_as 5 = .ok (.ifCond .eq 10, 3) := by decide +kernel
theorem dX9_as_8 : decode cX9_as 8 = .ok (.iload_n 2, 1) := by decide +kernel
theorem dX9_as_9 : decode cX9_as 9 = .ok (.invokestatic 81, 3) := by decide +kernel
theorem dX9_as_12 : decode cX9_as 12 = .ok (.ifCond .ne 10, 3) := by decide +kernel
theorem dX9_as_15 : decode cX9_as 15 = .ok (.aload_n 0, 1) := by decide +kernel
theorem dX9_as_16 : decode cX9_as 16 = .ok (.ldc 51, 2) := by decide +kernel
theorem dX9_as_18 : decode cX9_as 18 = .ok (.invokevirtual 75, 3) := by decide +kernel
theorem dX9_as_21 : decode cX9_as 21 = .ok (.ireturn, 1) := by decide +kernel
theorem dX9_as_22 : decode cX9_as 22 = .ok (.aload_n 0, 1) := by decide +kernel
theorem dX9_as_23 : decode cX9_as 23 = .ok (.iload_n 1, 1) := by decide +kernel
theorem dX9_as_24 : decode cX9_as 24 = .ok (.iconst 0, 1) := by decide +kernel
theorem dX9_as_25 : decode cX9_as 25 = .ok (.invokevirtual 94, 3) := by decide +kernel
theorem dX9_as_28 : decode cX9_as 28 = .ok (.iload_n 2, 1) := by decide +kernel
theorem dX9_as_29 : decode cX9_as 29 = .ok (.invokestatic 110, 3) := by decide +kernel
theorem dX9_as_32 : decode cX9_as 32 = .ok (.ifCond .eq 12, 3) := by decide +kernel
theorem dX9_as_35 : decode cX9_as 35 = .ok (.aload_n 0, 1) := by decide +kernel
theorem dX9_as_36 : decode cX9_as 36 = .ok (.iload_n 1, 1) := by decide +kernel
theorem dX9_as_37 : decode cX9_as 37 = .ok (.iconst 2, 1) := by decide +kernel
theorem dX9_as_38 : decode cX9_as 38 = .ok (.invokevirtual 94, 3) := by decide +kernel
theorem dX9_as_41 : decode cX9_as 41 = .ok (.goto 9, 3) := by decide +kernel
theorem dX9_as_44 : decode cX9_as 44 = .ok (.aload_n 0, 1) := by decide +kernel
theorem dX9_as_45 : decode cX9_as 45 = .ok (.ldc 114, 2) := by decide +kernel
theorem dX9_as_47 : decode cX9_as 47 = .ok (.invokevirtual 75, 3) := by decide +kernel
theorem dX9_as_50 : decode cX9_as 50 = .ok (.ireturn, 1) := by decide +kernel
theorem dX9_takes_0 : decode cX9_takes 0 = .ok (.bipush 10, 2) := by decide +kernel
theorem dX9_takes_2 : decode cX9_takes 2 = .ok (.iconst 3, 1) := by decide +kernel
theorem dX9_takes_3 : decode cX9_takes 3 = .ok (.aload_n 0, 1) := by decide +kernel
theorem dX9_takes_4 : decode cX9_takes 4 = .ok (.iload_n 1, 1) := by decide +kernel
theorem dX9_takes_5 : decode cX9_takes 5 = .ok (.iconst 4, 1) := by decide +kernel
theorem dX9_takes_6 : decode cX9_takes 6 = .ok (.invokevirtual 94, 3) := by decide +kernel
theorem dX9_takes_9 : decode cX9_takes 9 = .ok (.imul, 1) := by decide +kernel
theorem dX9_takes_10 : decode cX9_takes 10 = .ok (.iadd, 1) := by decide +kernel
theorem dX9_takes_11 : decode cX9_takes 11 = .ok (.istore_n 3, 1) := by decide +kernel
theorem dX9_takes_12 : decode cX9_takes 12 = .ok (.aload_n 0, 1) := by decide +kernel
theorem dX9_takes_13 : decode cX9_takes 13 = .ok (.iload_n 1, 1) := by decide +kernel
theorem dX9_takes_14 : decode cX9_takes 14 = .ok (.iconst 0, 1) := by decide +kernel
theorem dX9_takes_15 : decode cX9_takes 15 = .ok (.invokevirtual 94, 3) := by decide +kernel
theorem dX9_takes_18 : decode cX9_takes 18 = .ok (.tableswitch 91 1 5 #[34, 36, 38, 56, 74], 34) := by decide +kernel
theorem dX9_takes_52 : decode cX9_takes 52 = .ok (.iload_n 3, 1) := by decide +kernel
theorem dX9_takes_53 : decode cX9_takes 53 = .ok (.ireturn, 1) := by decide +kernel
theorem dX9_takes_54 : decode cX9_takes 54 = .ok (.iconst 5, 1) := by decide +kernel
theorem dX9_takes_55 : decode cX9_takes 55 = .ok (.ireturn, 1) := by decide +kernel
theorem dX9_takes_56 : decode cX9_takes 56 = .ok (.aload_n 0, 1) := by decide +kernel
theorem dX9_takes_57 : decode cX9_takes 57 = .ok (.iload_n 2, 1) := by decide +kernel
theorem dX9_takes_58 : decode cX9_takes 58 = .ok (.iconst 2, 1) := by decide +kernel
theorem dX9_takes_59 : decode cX9_takes 59 = .ok (.invokevirtual 63, 3) := by decide +kernel
theorem dX9_takes_62 : decode cX9_takes 62 = .ok (.iconst 1, 1) := by decide +kernel
theorem dX9_takes_63 : decode cX9_takes 63 = .ok (.if_icmp .ne 8, 3) := by decide +kernel
theorem dX9_takes_66 : decode cX9_takes 66 = .ok (.bipush 10, 2) := by decide +kernel
theorem dX9_takes_68 : decode cX9_takes 68 = .ok (.goto 5, 3) := by decide +kernel
theorem dX9_takes_71 : decode cX9_takes 71 = .ok (.bipush 15, 2) := by decide +kernel
theorem dX9_takes_73 : decode cX9_takes 73 = .ok (.ireturn, 1) := by decide +kernel
theorem dX9_takes_74 : decode cX9_takes 74 = .ok (.aload_n 0, 1) := by decide +kernel
theorem dX9_takes_75 : decode cX9_takes 75 = .ok (.iload_n 1, 1) := by decide +kernel
theorem dX9_takes_76 : decode cX9_takes 76 = .ok (.iconst 2, 1) := by decide +kernel
theorem dX9_takes_77 : decode cX9_takes 77 = .ok (.invokevirtual 94, 3) := by decide +kernel
theorem dX9_takes_80 : decode cX9_takes 80 = .ok (.iconst 3, 1) := by decide +kernel
theorem dX9_takes_81 : decode cX9_takes 81 = .ok (.if_icmp .ge 9, 3) := by decide +kernel
theorem dX9_takes_84 : decode cX9_takes 84 = .ok (.iconst 2, 1) := by decide +kernel
theorem dX9_takes_85 : decode cX9_takes 85 = .ok (.iload_n 3, 1) := by decide +kernel
theorem dX9_takes_86 : decode cX9_takes 86 = .ok (.imul, 1) := by decide +kernel
theorem dX9_takes_87 : decode cX9_takes 87 = .ok (.goto 4, 3) := by decide +kernel
theorem dX9_takes_90 : decode cX9_takes 90 = .ok (.iload_n 3, 1) := by decide +kernel
theorem dX9_takes_91 : decode cX9_takes 91 = .ok (.ireturn, 1) := by decide +kernel
theorem dX9_takes_92 : decode cX9_takes 92 = .ok (.aload_n 0, 1) := by decide +kernel
theorem dX9_takes_93 : decode cX9_takes 93 = .ok (.iload_n 1, 1) := by decide +kernel
theorem dX9_takes_94 : decode cX9_takes 94 = .ok (.iconst 2, 1) := by decide +kernel
theorem dX9_takes_95 : decode cX9_takes 95 = .ok (.invokevirtual 94, 3) := by decide +kernel
theorem dX9_takes_98 : decode cX9_takes 98 = .ok (.bipush 7, 2) := by decide +kernel
theorem dX9_takes_100 : decode cX9_takes 100 = .ok (.if_icmp .lt 7, 3) := by decide +kernel
theorem dX9_takes_103 : decode cX9_takes 103 = .ok (.iconst 0, 1) := by decide +kernel
theorem dX9_takes_104 : decode cX9_takes 104 = .ok (.goto 4, 3) := by decide +kernel
theorem dX9_takes_107 : decode cX9_takes 107 = .ok (.iconst 5, 1) := by decide +kernel
theorem dX9_takes_108 : decode cX9_takes 108 = .ok (.ireturn, 1) := by decide +kernel
theorem dX9_takes_109 : decode cX9_takes 109 = .ok (.bipush 10, 2) := by decide +kernel
theorem dX9_takes_111 : decode cX9_takes 111 = .ok (.ireturn, 1) := by decide +kernel
theorem dX9_secondsOf_0 : decode cX9_secondsOf 0 = .ok (.aload_n 0, 1) := by decide +kernel
theorem dX9_secondsOf_1 : decode cX9_secondsOf 1 = .ok (.iconst 0, 1) := by decide +kernel
theorem dX9_secondsOf_2 : decode cX9_secondsOf 2 = .ok (.invokevirtual 88, 3) := by decide +kernel
theorem dX9_secondsOf_5 : decode cX9_secondsOf 5 = .ok (.ifCond .eq 8, 3) := by decide +kernel
theorem dX9_secondsOf_8 : decode cX9_secondsOf 8 = .ok (.bipush 8, 2) := by decide +kernel
theorem dX9_secondsOf_10 : decode cX9_secondsOf 10 = .ok (.goto 4, 3) := by decide +kernel
theorem dX9_secondsOf_13 : decode cX9_secondsOf 13 = .ok (.iconst 0, 1) := by decide +kernel
theorem dX9_secondsOf_14 : decode cX9_secondsOf 14 = .ok (.aload_n 0, 1) := by decide +kernel
theorem dX9_secondsOf_15 : decode cX9_secondsOf 15 = .ok (.iconst 2, 1) := by decide +kernel
theorem dX9_secondsOf_16 : decode cX9_secondsOf 16 = .ok (.invokevirtual 88, 3) := by decide +kernel
theorem dX9_secondsOf_19 : decode cX9_secondsOf 19 = .ok (.ifCond .eq 8, 3) := by decide +kernel
theorem dX9_secondsOf_22 : decode cX9_secondsOf 22 = .ok (.bipush 8, 2) := by decide +kernel
theorem dX9_secondsOf_24 : decode cX9_secondsOf 24 = .ok (.goto 4, 3) := by decide +kernel
theorem dX9_secondsOf_27 : decode cX9_secondsOf 27 = .ok (.iconst 0, 1) := by decide +kernel
theorem dX9_secondsOf_28 : decode cX9_secondsOf 28 = .ok (.iadd, 1) := by decide +kernel
theorem dX9_secondsOf_29 : decode cX9_secondsOf 29 = .ok (.istore_n 3, 1) := by decide +kernel
theorem dX9_secondsOf_30 : decode cX9_secondsOf 30 = .ok (.iload_n 2, 1) := by decide +kernel
theorem dX9_secondsOf_31 : decode cX9_secondsOf 31 = .ok (.iconst 1, 1) := by decide +kernel
theorem dX9_secondsOf_32 : decode cX9_secondsOf 32 = .ok (.if_icmp .ne 7, 3) := by decide +kernel
theorem dX9_secondsOf_35 : decode cX9_secondsOf 35 = .ok (.iload_n 3, 1) := by decide +kernel
theorem dX9_secondsOf_36 : decode cX9_secondsOf 36 = .ok (.goto 16, 3) := by decide +kernel
theorem dX9_secondsOf_39 : decode cX9_secondsOf 39 = .ok (.aload_n 0, 1) := by decide +kernel
theorem dX9_secondsOf_40 : decode cX9_secondsOf 40 = .ok (.iconst 1, 1) := by decide +kernel
theorem dX9_secondsOf_41 : decode cX9_secondsOf 41 = .ok (.invokevirtual 88, 3) := by decide +kernel
theorem dX9_secondsOf_44 : decode cX9_secondsOf 44 = .ok (.ifCond .eq 7, 3) := by decide +kernel
theorem dX9_secondsOf_47 : decode cX9_secondsOf 47 = .ok (.iconst 3, 1) := by decide +kernel
theorem dX9_secondsOf_48 : decode cX9_secondsOf 48 = .ok (.goto 4, 3) := by decide +kernel
theorem dX9_secondsOf_51 : decode cX9_secondsOf 51 = .ok (.iconst 0, 1) := by decide +kernel
theorem dX9_secondsOf_52 : decode cX9_secondsOf 52 = .ok (.istore 4, 2) := by decide +kernel
theorem dX9_secondsOf_54 : decode cX9_secondsOf 54 = .ok (.aload_n 0, 1) := by decide +kernel
theorem dX9_secondsOf_55 : decode cX9_secondsOf 55 = .ok (.iload_n 1, 1) := by decide +kernel
theorem dX9_secondsOf_56 : decode cX9_secondsOf 56 = .ok (.iload_n 2, 1) := by decide +kernel
theorem dX9_secondsOf_57 : decode cX9_secondsOf 57 = .ok (.invokevirtual 115, 3) := by decide +kernel
theorem dX9_secondsOf_60 : decode cX9_secondsOf 60 = .ok (.iconst 5, 1) := by decide +kernel
theorem dX9_secondsOf_61 : decode cX9_secondsOf 61 = .ok (.aload_n 0, 1) := by decide +kernel
theorem dX9_secondsOf_62 : decode cX9_secondsOf 62 = .ok (.iload_n 2, 1) := by decide +kernel
theorem dX9_secondsOf_63 : decode cX9_secondsOf 63 = .ok (.iconst 0, 1) := by decide +kernel
theorem dX9_secondsOf_64 : decode cX9_secondsOf 64 = .ok (.invokevirtual 63, 3) := by decide +kernel
theorem dX9_secondsOf_67 : decode cX9_secondsOf 67 = .ok (.imul, 1) := by decide +kernel
theorem dX9_secondsOf_68 : decode cX9_secondsOf 68 = .ok (.iadd, 1) := by decide +kernel
theorem dX9_secondsOf_69 : decode cX9_secondsOf 69 = .ok (.iconst 2, 1) := by decide +kernel
theorem dX9_secondsOf_70 : decode cX9_secondsOf 70 = .ok (.aload_n 0, 1) := by decide +kernel
theorem dX9_secondsOf_71 : decode cX9_secondsOf 71 = .ok (.iload_n 2, 1) := by decide +kernel
theorem dX9_secondsOf_72 : decode cX9_secondsOf 72 = .ok (.iconst 1, 1) := by decide +kernel
theorem dX9_secondsOf_73 : decode cX9_secondsOf 73 = .ok (.invokevirtual 63, 3) := by decide +kernel
theorem dX9_secondsOf_76 : decode cX9_secondsOf 76 = .ok (.imul, 1) := by decide +kernel
theorem dX9_secondsOf_77 : decode cX9_secondsOf 77 = .ok (.iadd, 1) := by decide +kernel
theorem dX9_secondsOf_78 : decode cX9_secondsOf 78 = .ok (.iconst 4, 1) := by decide +kernel
theorem dX9_secondsOf_79 : decode cX9_secondsOf 79 = .ok (.aload_n 0, 1) := by decide +kernel
theorem dX9_secondsOf_80 : decode cX9_secondsOf 80 = .ok (.iload_n 1, 1) := by decide +kernel
theorem dX9_secondsOf_81 : decode cX9_secondsOf 81 = .ok (.iconst 3, 1) := by decide +kernel
theorem dX9_secondsOf_82 : decode cX9_secondsOf 82 = .ok (.invokevirtual 94, 3) := by decide +kernel
theorem dX9_secondsOf_85 : decode cX9_secondsOf 85 = .ok (.imul, 1) := by decide +kernel
theorem dX9_secondsOf_86 : decode cX9_secondsOf 86 = .ok (.iadd, 1) := by decide +kernel
theorem dX9_secondsOf_87 : decode cX9_secondsOf 87 = .ok (.aload_n 0, 1) := by decide +kernel
theorem dX9_secondsOf_88 : decode cX9_secondsOf 88 = .ok (.getfield 7, 3) := by decide +kernel
theorem dX9_secondsOf_91 : decode cX9_secondsOf 91 = .ok (.iconst 3, 1) := by decide +kernel
theorem dX9_secondsOf_92 : decode cX9_secondsOf 92 = .ok (.iaload, 1) := by decide +kernel
theorem dX9_secondsOf_93 : decode cX9_secondsOf 93 = .ok (.iadd, 1) := by decide +kernel
theorem dX9_secondsOf_94 : decode cX9_secondsOf 94 = .ok (.iload 4, 2) := by decide +kernel
theorem dX9_secondsOf_96 : decode cX9_secondsOf 96 = .ok (.iadd, 1) := by decide +kernel
theorem dX9_secondsOf_97 : decode cX9_secondsOf 97 = .ok (.ireturn, 1) := by decide +kernel
theorem dX9_snugOf_0 : decode cX9_snugOf 0 = .ok (.bipush 9, 2) := by decide +kernel
theorem dX9_snugOf_2 : decode cX9_snugOf 2 = .ok (.aload_n 0, 1) := by decide +kernel
theorem dX9_snugOf_3 : decode cX9_snugOf 3 = .ok (.iload_n 2, 1) := by decide +kernel
theorem dX9_snugOf_4 : decode cX9_snugOf 4 = .ok (.iconst 0, 1) := by decide +kernel
theorem dX9_snugOf_5 : decode cX9_snugOf 5 = .ok (.invokevirtual 63, 3) := by decide +kernel
theorem dX9_snugOf_8 : decode cX9_snugOf 8 = .ok (.isub, 1) := by decide +kernel
theorem dX9_snugOf_9 : decode cX9_snugOf 9 = .ok (.istore_n 3, 1) := by decide +kernel
theorem dX9_snugOf_10 : decode cX9_snugOf 10 = .ok (.aload_n 0, 1) := by decide +kernel
theorem dX9_snugOf_11 : decode cX9_snugOf 11 = .ok (.iload_n 1, 1) := by decide +kernel
theorem dX9_snugOf_12 : decode cX9_snugOf 12 = .ok (.iconst 0, 1) := by decide +kernel
theorem dX9_snugOf_13 : decode cX9_snugOf 13 = .ok (.invokevirtual 94, 3) := by decide +kernel
theorem dX9_snugOf_16 : decode cX9_snugOf 16 = .ok (.tableswitch 103 1 5 #[36, 50, 65, 36, 86], 36) := by decide +kernel
theorem dX9_snugOf_52 : decode cX9_snugOf 52 = .ok (.iload_n 3, 1) := by decide +kernel
theorem dX9_snugOf_53 : decode cX9_snugOf 53 = .ok (.aload_n 0, 1) := by decide +kernel
theorem dX9_snugOf_54 : decode cX9_snugOf 54 = .ok (.iload_n 1, 1) := by decide +kernel
theorem dX9_snugOf_55 : decode cX9_snugOf 55 = .ok (.iconst 4, 1) := by decide +kernel
theorem dX9_snugOf_56 : decode cX9_snugOf 56 = .ok (.invokevirtual 94, 3) := by decide +kernel
theorem dX9_snugOf_59 : decode cX9_snugOf 59 = .ok (.iconst 2, 1) := by decide +kernel
theorem dX9_snugOf_60 : decode cX9_snugOf 60 = .ok (.idiv, 1) := by decide +kernel
theorem dX9_snugOf_61 : decode cX9_snugOf 61 = .ok (.isub, 1) := by decide +kernel
theorem dX9_snugOf_62 : decode cX9_snugOf 62 = .ok (.istore_n 3, 1) := by decide +kernel
theorem dX9_snugOf_63 : decode cX9_snugOf 63 = .ok (.goto 56, 3) := by decide +kernel
theorem dX9_snugOf_66 : decode cX9_snugOf 66 = .ok (.iload_n 3, 1) := by decide +kernel
theorem dX9_snugOf_67 : decode cX9_snugOf 67 = .ok (.aload_n 0, 1) := by decide +kernel
theorem dX9_snugOf_68 : decode cX9_snugOf 68 = .ok (.iload_n 1, 1) := by decide +kernel
theorem dX9_snugOf_69 : decode cX9_snugOf 69 = .ok (.iconst 1, 1) := by decide +kernel
theorem dX9_snugOf_70 : decode cX9_snugOf 70 = .ok (.invokevirtual 94, 3) := by decide +kernel
theorem dX9_snugOf_73 : decode cX9_snugOf 73 = .ok (.bipush 40, 2) := by decide +kernel
theorem dX9_snugOf_75 : decode cX9_snugOf 75 = .ok (.idiv, 1) := by decide +kernel
theorem dX9_snugOf_76 : decode cX9_snugOf 76 = .ok (.isub, 1) := by decide +kernel
theorem dX9_snugOf_77 : decode cX9_snugOf 77 = .ok (.istore_n 3, 1) := by decide +kernel
theorem dX9_snugOf_78 : decode cX9_snugOf 78 = .ok (.goto 41, 3) := by decide +kernel
theorem dX9_snugOf_81 : decode cX9_snugOf 81 = .ok (.iload_n 3, 1) := by decide +kernel
theorem dX9_snugOf_82 : decode cX9_snugOf 82 = .ok (.aload_n 0, 1) := by decide +kernel
theorem dX9_snugOf_83 : decode cX9_snugOf 83 = .ok (.iload_n 2, 1) := by decide +kernel
theorem dX9_snugOf_84 : decode cX9_snugOf 84 = .ok (.iconst 2, 1) := by decide +kernel
theorem dX9_snugOf_85 : decode cX9_snugOf 85 = .ok (.invokevirtual 63, 3) := by decide +kernel
theorem dX9_snugOf_88 : decode cX9_snugOf 88 = .ok (.iconst 1, 1) := by decide +kernel
theorem dX9_snugOf_89 : decode cX9_snugOf 89 = .ok (.if_icmp .ne 7, 3) := by decide +kernel
theorem dX9_snugOf_92 : decode cX9_snugOf 92 = .ok (.iconst 0, 1) := by decide +kernel
theorem dX9_snugOf_93 : decode cX9_snugOf 93 = .ok (.goto 4, 3) := by decide +kernel
theorem dX9_snugOf_96 : decode cX9_snugOf 96 = .ok (.iconst 4, 1) := by decide +kernel
theorem dX9_snugOf_97 : decode cX9_snugOf 97 = .ok (.isub, 1) := by decide +kernel
theorem dX9_snugOf_98 : decode cX9_snugOf 98 = .ok (.istore_n 3, 1) := by decide +kernel
theorem dX9_snugOf_99 : decode cX9_snugOf 99 = .ok (.goto 20, 3) := by decide +kernel
theorem dX9_snugOf_102 : decode cX9_snugOf 102 = .ok (.iload_n 3, 1) := by decide +kernel
theorem dX9_snugOf_103 : decode cX9_snugOf 103 = .ok (.aload_n 0, 1) := by decide +kernel
theorem dX9_snugOf_104 : decode cX9_snugOf 104 = .ok (.iload_n 1, 1) := by decide +kernel
theorem dX9_snugOf_105 : decode cX9_snugOf 105 = .ok (.iconst 1, 1) := by decide +kernel
theorem dX9_snugOf_106 : decode cX9_snugOf 106 = .ok (.invokevirtual 94, 3) := by decide +kernel
theorem dX9_snugOf_109 : decode cX9_snugOf 109 = .ok (.bipush 40, 2) := by decide +kernel
theorem dX9_snugOf_111 : decode cX9_snugOf 111 = .ok (.idiv, 1) := by decide +kernel
theorem dX9_snugOf_112 : decode cX9_snugOf 112 = .ok (.iconst 1, 1) := by decide +kernel
theorem dX9_snugOf_113 : decode cX9_snugOf 113 = .ok (.iadd, 1) := by decide +kernel
theorem dX9_snugOf_114 : decode cX9_snugOf 114 = .ok (.isub, 1) := by decide +kernel
theorem dX9_snugOf_115 : decode cX9_snugOf 115 = .ok (.istore_n 3, 1) := by decide +kernel
theorem dX9_snugOf_116 : decode cX9_snugOf 116 = .ok (.goto 3, 3) := by decide +kernel
theorem dX9_snugOf_119 : decode cX9_snugOf 119 = .ok (.iload_n 3, 1) := by decide +kernel
theorem dX9_snugOf_120 : decode cX9_snugOf 120 = .ok (.iconst 3, 1) := by decide +kernel
theorem dX9_snugOf_121 : decode cX9_snugOf 121 = .ok (.aload_n 0, 1) := by decide +kernel
theorem dX9_snugOf_122 : decode cX9_snugOf 122 = .ok (.iload_n 1, 1) := by decide +kernel
theorem dX9_snugOf_123 : decode cX9_snugOf 123 = .ok (.iconst 3, 1) := by decide +kernel
theorem dX9_snugOf_124 : decode cX9_snugOf 124 = .ok (.invokevirtual 94, 3) := by decide +kernel
theorem dX9_snugOf_127 : decode cX9_snugOf 127 = .ok (.imul, 1) := by decide +kernel
theorem dX9_snugOf_128 : decode cX9_snugOf 128 = .ok (.isub, 1) := by decide +kernel
theorem dX9_snugOf_129 : decode cX9_snugOf 129 = .ok (.istore_n 3, 1) := by decide +kernel
theorem dX9_snugOf_130 : decode cX9_snugOf 130 = .ok (.iload_n 3, 1) := by decide +kernel
theorem dX9_snugOf_131 : decode cX9_snugOf 131 = .ok (.ifCond .ge 7, 3) := by decide +kernel
theorem dX9_snugOf_134 : decode cX9_snugOf 134 = .ok (.iconst 0, 1) := by decide +kernel
theorem dX9_snugOf_135 : decode cX9_snugOf 135 = .ok (.goto 4, 3) := by decide +kernel
theorem dX9_snugOf_138 : decode cX9_snugOf 138 = .ok (.iload_n 3, 1) := by decide +kernel
theorem dX9_snugOf_139 : decode cX9_snugOf 139 = .ok (.ireturn, 1) := by decide +kernel
theorem dX9_seconds_0 : decode cX9_seconds 0 = .ok (.aload_n 0, 1) := by decide +kernel
theorem dX9_seconds_1 : decode cX9_seconds 1 = .ok (.iload_n 1, 1) := by decide +kernel
theorem dX9_seconds_2 : decode cX9_seconds 2 = .ok (.invokevirtual 100, 3) := by decide +kernel
theorem dX9_seconds_5 : decode cX9_seconds 5 = .ok (.ifCond .eq 19, 3) := by decide +kernel
theorem dX9_seconds_8 : decode cX9_seconds 8 = .ok (.iload_n 2, 1) := by decide +kernel
theorem dX9_seconds_9 : decode cX9_seconds 9 = .ok (.invokestatic 68, 3) := by decide +kernel
theorem dX9_seconds_12 : decode cX9_seconds 12 = .ok (.ifCond .eq 12, 3) := by decide +kernel
theorem dX9_seconds_15 : decode cX9_seconds 15 = .ok (.aload_n 0, 1) := by decide +kernel
theorem dX9_seconds_16 : decode cX9_seconds 16 = .ok (.iload_n 1, 1) := by decide +kernel
theorem dX9_seconds_17 : decode cX9_seconds 17 = .ok (.iload_n 2, 1) := by decide +kernel
theorem dX9_seconds_18 : decode cX9_seconds 18 = .ok (.invokevirtual 118, 3) := by decide +kernel
theorem dX9_seconds_21 : decode cX9_seconds 21 = .ok (.goto 9, 3) := by decide +kernel
theorem dX9_seconds_24 : decode cX9_seconds 24 = .ok (.aload_n 0, 1) := by decide +kernel
theorem dX9_seconds_25 : decode cX9_seconds 25 = .ok (.ldc 51, 2) := by decide +kernel
theorem dX9_seconds_27 : decode cX9_seconds 27 = .ok (.invokevirtual 75, 3) := by decide +kernel
theorem dX9_seconds_30 : decode cX9_seconds 30 = .ok (.ireturn, 1) := by decide +kernel
theorem dX9_snug_0 : decode cX9_snug 0 = .ok (.aload_n 0, 1) := by decide +kernel
theorem dX9_snug_1 : decode cX9_snug 1 = .ok (.iload_n 1, 1) := by decide +kernel
theorem dX9_snug_2 : decode cX9_snug 2 = .ok (.invokevirtual 100, 3) := by decide +kernel
theorem dX9_snug_5 : decode cX9_snug 5 = .ok (.ifCond .eq 19, 3) := by decide +kernel
theorem dX9_snug_8 : decode cX9_snug 8 = .ok (.iload_n 2, 1) := by decide +kernel
theorem dX9_snug_9 : decode cX9_snug 9 = .ok (.invokestatic 68, 3) := by decide +kernel
theorem dX9_snug_12 : decode cX9_snug 12 = .ok (.ifCond .eq 12, 3) := by decide +kernel
theorem dX9_snug_15 : decode cX9_snug 15 = .ok (.aload_n 0, 1) := by decide +kernel
theorem dX9_snug_16 : decode cX9_snug 16 = .ok (.iload_n 1, 1) := by decide +kernel
theorem dX9_snug_17 : decode cX9_snug 17 = .ok (.iload_n 2, 1) := by decide +kernel
theorem dX9_snug_18 : decode cX9_snug 18 = .ok (.invokevirtual 121, 3) := by decide +kernel
theorem dX9_snug_21 : decode cX9_snug 21 = .ok (.goto 9, 3) := by decide +kernel
theorem dX9_snug_24 : decode cX9_snug 24 = .ok (.aload_n 0, 1) := by decide +kernel
theorem dX9_snug_25 : decode cX9_snug 25 = .ok (.ldc 51, 2) := by decide +kernel
theorem dX9_snug_27 : decode cX9_snug 27 = .ok (.invokevirtual 75, 3) := by decide +kernel
theorem dX9_snug_30 : decode cX9_snug 30 = .ok (.ireturn, 1) := by decide +kernel
theorem dX9_heldTo_0 : decode cX9_heldTo 0 = .ok (.iload_n 0, 1) := by decide +kernel
theorem dX9_heldTo_1 : decode cX9_heldTo 1 = .ok (.iload_n 1, 1) := by decide +kernel
theorem dX9_heldTo_2 : decode cX9_heldTo 2 = .ok (.if_icmp .le 7, 3) := by decide +kernel
theorem dX9_heldTo_5 : decode cX9_heldTo 5 = .ok (.iload_n 1, 1) := by decide +kernel
theorem dX9_heldTo_6 : decode cX9_heldTo 6 = .ok (.goto 4, 3) := by decide +kernel
theorem dX9_heldTo_9 : decode cX9_heldTo 9 = .ok (.iload_n 0, 1) := by decide +kernel
theorem dX9_heldTo_10 : decode cX9_heldTo 10 = .ok (.ireturn, 1) := by decide +kernel
theorem dX9_clicks_0 : decode cX9_clicks 0 = .ok (.aload_n 0, 1) := by decide +kernel
theorem dX9_clicks_1 : decode cX9_clicks 1 = .ok (.iload_n 1, 1) := by decide +kernel
theorem dX9_clicks_2 : decode cX9_clicks 2 = .ok (.iload_n 2, 1) := by decide +kernel
theorem dX9_clicks_3 : decode cX9_clicks 3 = .ok (.invokevirtual 118, 3) := by decide +kernel
theorem dX9_clicks_6 : decode cX9_clicks 6 = .ok (.istore_n 3, 1) := by decide +kernel
theorem dX9_clicks_7 : decode cX9_clicks 7 = .ok (.aload_n 0, 1) := by decide +kernel
theorem dX9_clicks_8 : decode cX9_clicks 8 = .ok (.getfield 7, 3) := by decide +kernel
theorem dX9_clicks_11 : decode cX9_clicks 11 = .ok (.iconst 2, 1) := by decide +kernel
theorem dX9_clicks_12 : decode cX9_clicks 12 = .ok (.aload_n 0, 1) := by decide +kernel
theorem dX9_clicks_13 : decode cX9_clicks 13 = .ok (.getfield 7, 3) := by decide +kernel
theorem dX9_clicks_16 : decode cX9_clicks 16 = .ok (.iconst 2, 1) := by decide +kernel
theorem dX9_clicks_17 : decode cX9_clicks 17 = .ok (.iaload, 1) := by decide +kernel
theorem dX9_clicks_18 : decode cX9_clicks 18 = .ok (.iload_n 3, 1) := by decide +kernel
theorem dX9_clicks_19 : decode cX9_clicks 19 = .ok (.iadd, 1) := by decide +kernel
theorem dX9_clicks_20 : decode cX9_clicks 20 = .ok (.ldc 124, 2) := by decide +kernel
theorem dX9_clicks_22 : decode cX9_clicks 22 = .ok (.invokestatic 125, 3) := by decide +kernel
theorem dX9_clicks_25 : decode cX9_clicks 25 = .ok (.iastore, 1) := by decide +kernel
theorem dX9_clicks_26 : decode cX9_clicks 26 = .ok (.aload_n 0, 1) := by decide +kernel
theorem dX9_clicks_27 : decode cX9_clicks 27 = .ok (.getfield 7, 3) := by decide +kernel
theorem dX9_clicks_30 : decode cX9_clicks 30 = .ok (.iload_n 1, 1) := by decide +kernel
theorem dX9_clicks_31 : decode cX9_clicks 31 = .ok (.iconst 5, 1) := by decide +kernel
theorem dX9_clicks_32 : decode cX9_clicks 32 = .ok (.invokestatic 60, 3) := by decide +kernel
theorem dX9_clicks_35 : decode cX9_clicks 35 = .ok (.aload_n 0, 1) := by decide +kernel
theorem dX9_clicks_36 : decode cX9_clicks 36 = .ok (.iload_n 1, 1) := by decide +kernel
theorem dX9_clicks_37 : decode cX9_clicks 37 = .ok (.iload_n 2, 1) := by decide +kernel
theorem dX9_clicks_38 : decode cX9_clicks 38 = .ok (.invokevirtual 121, 3) := by decide +kernel
theorem dX9_clicks_41 : decode cX9_clicks 41 = .ok (.iastore, 1) := by decide +kernel
theorem dX9_clicks_42 : decode cX9_clicks 42 = .ok (.aload_n 0, 1) := by decide +kernel
theorem dX9_clicks_43 : decode cX9_clicks 43 = .ok (.getfield 7, 3) := by decide +kernel
theorem dX9_clicks_46 : decode cX9_clicks 46 = .ok (.iload_n 2, 1) := by decide +kernel
theorem dX9_clicks_47 : decode cX9_clicks 47 = .ok (.iconst 3, 1) := by decide +kernel
theorem dX9_clicks_48 : decode cX9_clicks 48 = .ok (.invokestatic 47, 3) := by decide +kernel
theorem dX9_clicks_51 : decode cX9_clicks 51 = .ok (.aload_n 0, 1) := by decide +kernel
theorem dX9_clicks_52 : decode cX9_clicks 52 = .ok (.iload_n 2, 1) := by decide +kernel
theorem dX9_clicks_53 : decode cX9_clicks 53 = .ok (.iconst 3, 1) := by decide +kernel
theorem dX9_clicks_54 : decode cX9_clicks 54 = .ok (.invokevirtual 63, 3) := by decide +kernel
theorem dX9_clicks_57 : decode cX9_clicks 57 = .ok (.iconst 1, 1) := by decide +kernel
theorem dX9_clicks_58 : decode cX9_clicks 58 = .ok (.iadd, 1) := by decide +kernel
theorem dX9_clicks_59 : decode cX9_clicks 59 = .ok (.sipush 9999, 3) := by decide +kernel
theorem dX9_clicks_62 : decode cX9_clicks 62 = .ok (.invokestatic 125, 3) := by decide +kernel
theorem dX9_clicks_65 : decode cX9_clicks 65 = .ok (.iastore, 1) := by decide +kernel
theorem dX9_clicks_66 : decode cX9_clicks 66 = .ok (.aload_n 0, 1) := by decide +kernel
theorem dX9_clicks_67 : decode cX9_clicks 67 = .ok (.getfield 7, 3) := by decide +kernel
theorem dX9_clicks_70 : decode cX9_clicks 70 = .ok (.iload_n 2, 1) := by decide +kernel
theorem dX9_clicks_71 : decode cX9_clicks 71 = .ok (.iconst 4, 1) := by decide +kernel
theorem dX9_clicks_72 : decode cX9_clicks 72 = .ok (.invokestatic 47, 3) := by decide +kernel
theorem dX9_clicks_75 : decode cX9_clicks 75 = .ok (.iload_n 1, 1) := by decide +kernel
theorem dX9_clicks_76 : decode cX9_clicks 76 = .ok (.iastore, 1) := by decide +kernel
theorem dX9_clicks_77 : decode cX9_clicks 77 = .ok (.aload_n 0, 1) := by decide +kernel
theorem dX9_clicks_78 : decode cX9_clicks 78 = .ok (.iload_n 1, 1) := by decide +kernel
theorem dX9_clicks_79 : decode cX9_clicks 79 = .ok (.iconst 0, 1) := by decide +kernel
theorem dX9_clicks_80 : decode cX9_clicks 80 = .ok (.invokevirtual 94, 3) := by decide +kernel
theorem dX9_clicks_83 : decode cX9_clicks 83 = .ok (.iconst 1, 1) := by decide +kernel
theorem dX9_clicks_84 : decode cX9_clicks 84 = .ok (.invokestatic 110, 3) := by decide +kernel
theorem dX9_clicks_87 : decode cX9_clicks 87 = .ok (.ifCond .eq 26, 3) := by decide +kernel
theorem dX9_clicks_90 : decode cX9_clicks 90 = .ok (.aload_n 0, 1) := by decide +kernel
theorem dX9_clicks_91 : decode cX9_clicks 91 = .ok (.getfield 7, 3) := by decide +kernel
theorem dX9_clicks_94 : decode cX9_clicks 94 = .ok (.iload_n 1, 1) := by decide +kernel
theorem dX9_clicks_95 : decode cX9_clicks 95 = .ok (.iconst 4, 1) := by decide +kernel
theorem dX9_clicks_96 : decode cX9_clicks 96 = .ok (.invokestatic 60, 3) := by decide +kernel
theorem dX9_clicks_99 : decode cX9_clicks 99 = .ok (.aload_n 0, 1) := by decide +kernel
theorem dX9_clicks_100 : decode cX9_clicks 100 = .ok (.iload_n 1, 1) := by decide +kernel
theorem dX9_clicks_101 : decode cX9_clicks 101 = .ok (.iconst 4, 1) := by decide +kernel
theorem dX9_clicks_102 : decode cX9_clicks 102 = .ok (.invokevirtual 94, 3) := by decide +kernel
theorem dX9_clicks_105 : decode cX9_clicks 105 = .ok (.iconst 1, 1) := by decide +kernel
theorem dX9_clicks_106 : decode cX9_clicks 106 = .ok (.iadd, 1) := by decide +kernel
theorem dX9_clicks_107 : decode cX9_clicks 107 = .ok (.bipush 9, 2) := by decide +kernel
theorem dX9_clicks_109 : decode cX9_clicks 109 = .ok (.invokestatic 125, 3) := by decide +kernel
theorem dX9_clicks_112 : decode cX9_clicks 112 = .ok (.iastore, 1) := by decide +kernel
theorem dX9_clicks_113 : decode cX9_clicks 113 = .ok (.iload_n 3, 1) := by decide +kernel
theorem dX9_clicks_114 : decode cX9_clicks 114 = .ok (.ireturn, 1) := by decide +kernel
theorem dX9_click_0 : decode cX9_click 0 = .ok (.aload_n 0, 1) := by decide +kernel
theorem dX9_click_1 : decode cX9_click 1 = .ok (.iload_n 1, 1) := by decide +kernel
theorem dX9_click_2 : decode cX9_click 2 = .ok (.invokevirtual 100, 3) := by decide +kernel
theorem dX9_click_5 : decode cX9_click 5 = .ok (.ifCond .eq 10, 3) := by decide +kernel
theorem dX9_click_8 : decode cX9_click 8 = .ok (.iload_n 2, 1) := by decide +kernel
theorem dX9_click_9 : decode cX9_click 9 = .ok (.invokestatic 68, 3) := by decide +kernel
theorem dX9_click_12 : decode cX9_click 12 = .ok (.ifCond .ne 10, 3) := by decide +kernel
theorem dX9_click_15 : decode cX9_click 15 = .ok (.aload_n 0, 1) := by decide +kernel
theorem dX9_click_16 : decode cX9_click 16 = .ok (.ldc 51, 2) := by decide +kernel
theorem dX9_click_18 : decode cX9_click 18 = .ok (.invokevirtual 75, 3) := by decide +kernel
theorem dX9_click_21 : decode cX9_click 21 = .ok (.ireturn, 1) := by decide +kernel
theorem dX9_click_22 : decode cX9_click 22 = .ok (.aload_n 0, 1) := by decide +kernel
theorem dX9_click_23 : decode cX9_click 23 = .ok (.iload_n 1, 1) := by decide +kernel
theorem dX9_click_24 : decode cX9_click 24 = .ok (.invokevirtual 91, 3) := by decide +kernel
theorem dX9_click_27 : decode cX9_click 27 = .ok (.ifCond .ge 11, 3) := by decide +kernel
theorem dX9_click_30 : decode cX9_click 30 = .ok (.aload_n 0, 1) := by decide +kernel
theorem dX9_click_31 : decode cX9_click 31 = .ok (.iload_n 2, 1) := by decide +kernel
theorem dX9_click_32 : decode cX9_click 32 = .ok (.invokevirtual 88, 3) := by decide +kernel
theorem dX9_click_35 : decode cX9_click 35 = .ok (.ifCond .eq 10, 3) := by decide +kernel
theorem dX9_click_38 : decode cX9_click 38 = .ok (.aload_n 0, 1) := by decide +kernel
theorem dX9_click_39 : decode cX9_click 39 = .ok (.ldc 128, 2) := by decide +kernel
theorem dX9_click_41 : decode cX9_click 41 = .ok (.invokevirtual 75, 3) := by decide +kernel
theorem dX9_click_44 : decode cX9_click 44 = .ok (.ireturn, 1) := by decide +kernel
theorem dX9_click_45 : decode cX9_click 45 = .ok (.aload_n 0, 1) := by decide +kernel
theorem dX9_click_46 : decode cX9_click 46 = .ok (.iload_n 1, 1) := by decide +kernel
theorem dX9_click_47 : decode cX9_click 47 = .ok (.iload_n 2, 1) := by decide +kernel
theorem dX9_click_48 : decode cX9_click 48 = .ok (.invokevirtual 129, 3) := by decide +kernel
theorem dX9_click_51 : decode cX9_click 51 = .ok (.istore_n 3, 1) := by decide +kernel
theorem dX9_click_52 : decode cX9_click 52 = .ok (.aload_n 0, 1) := by decide +kernel
theorem dX9_click_53 : decode cX9_click 53 = .ok (.iload_n 1, 1) := by decide +kernel
theorem dX9_click_54 : decode cX9_click 54 = .ok (.iconst 5, 1) := by decide +kernel
theorem dX9_click_55 : decode cX9_click 55 = .ok (.invokevirtual 94, 3) := by decide +kernel
theorem dX9_click_58 : decode cX9_click 58 = .ok (.ireturn, 1) := by decide +kernel
theorem dX9_goesOut_0 : decode cX9_goesOut 0 = .ok (.aload_n 0, 1) := by decide +kernel
theorem dX9_goesOut_1 : decode cX9_goesOut 1 = .ok (.getfield 7, 3) := by decide +kernel
theorem dX9_goesOut_4 : decode cX9_goesOut 4 = .ok (.aload_n 0, 1) := by decide +kernel
theorem dX9_goesOut_5 : decode cX9_goesOut 5 = .ok (.iload_n 1, 1) := by decide +kernel
theorem dX9_goesOut_6 : decode cX9_goesOut 6 = .ok (.iconst 4, 1) := by decide +kernel
theorem dX9_goesOut_7 : decode cX9_goesOut 7 = .ok (.invokevirtual 63, 3) := by decide +kernel
theorem dX9_goesOut_10 : decode cX9_goesOut 10 = .ok (.iconst 5, 1) := by decide +kernel
theorem dX9_goesOut_11 : decode cX9_goesOut 11 = .ok (.invokestatic 60, 3) := by decide +kernel
theorem dX9_goesOut_14 : decode cX9_goesOut 14 = .ok (.iconst 0, 1) := by decide +kernel
theorem dX9_goesOut_15 : decode cX9_goesOut 15 = .ok (.iastore, 1) := by decide +kernel
theorem dX9_goesOut_16 : decode cX9_goesOut 16 = .ok (.aload_n 0, 1) := by decide +kernel
theorem dX9_goesOut_17 : decode cX9_goesOut 17 = .ok (.getfield 7, 3) := by decide +kernel
theorem dX9_goesOut_20 : decode cX9_goesOut 20 = .ok (.iload_n 1, 1) := by decide +kernel
theorem dX9_goesOut_21 : decode cX9_goesOut 21 = .ok (.iconst 4, 1) := by decide +kernel
theorem dX9_goesOut_22 : decode cX9_goesOut 22 = .ok (.invokestatic 47, 3) := by decide +kernel
theorem dX9_goesOut_25 : decode cX9_goesOut 25 = .ok (.iconst (-1), 1) := by decide +kernel
theorem dX9_goesOut_26 : decode cX9_goesOut 26 = .ok (.iastore, 1) := by decide +kernel
theorem dX9_goesOut_27 : decode cX9_goesOut 27 = .ok (.return_, 1) := by decide +kernel
theorem dX9_letOut_0 : decode cX9_letOut 0 = .ok (.aload_n 0, 1) := by decide +kernel
theorem dX9_letOut_1 : decode cX9_letOut 1 = .ok (.iload_n 1, 1) := by decide +kernel
theorem dX9_letOut_2 : decode cX9_letOut 2 = .ok (.invokevirtual 100, 3) := by decide +kernel
theorem dX9_letOut_5 : decode cX9_letOut 5 = .ok (.ifCond .ne 10, 3) := by decide +kernel
theorem dX9_letOut_8 : decode cX9_letOut 8 = .ok (.aload_n 0, 1) := by decide +kernel
theorem dX9_letOut_9 : decode cX9_letOut 9 = .ok (.ldc 51, 2) := by decide +kernel
theorem dX9_letOut_11 : decode cX9_letOut 11 = .ok (.invokevirtual 75, 3) := by decide +kernel
theorem dX9_letOut_14 : decode cX9_letOut 14 = .ok (.ireturn, 1) := by decide +kernel
theorem dX9_letOut_15 : decode cX9_letOut 15 = .ok (.aload_n 0, 1) := by decide +kernel
theorem dX9_letOut_16 : decode cX9_letOut 16 = .ok (.iload_n 1, 1) := by decide +kernel
theorem dX9_letOut_17 : decode cX9_letOut 17 = .ok (.invokevirtual 91, 3) := by decide +kernel
theorem dX9_letOut_20 : decode cX9_letOut 20 = .ok (.istore_n 2, 1) := by decide +kernel
theorem dX9_letOut_21 : decode cX9_letOut 21 = .ok (.iload_n 2, 1) := by decide +kernel
theorem dX9_letOut_22 : decode cX9_letOut 22 = .ok (.ifCond .ge 10, 3) := by decide +kernel
theorem dX9_letOut_25 : decode cX9_letOut 25 = .ok (.aload_n 0, 1) := by decide +kernel
theorem dX9_letOut_26 : decode cX9_letOut 26 = .ok (.ldc 128, 2) := by decide +kernel
theorem dX9_letOut_28 : decode cX9_letOut 28 = .ok (.invokevirtual 75, 3) := by decide +kernel
theorem dX9_letOut_31 : decode cX9_letOut 31 = .ok (.ireturn, 1) := by decide +kernel
theorem dX9_letOut_32 : decode cX9_letOut 32 = .ok (.aload_n 0, 1) := by decide +kernel
theorem dX9_letOut_33 : decode cX9_letOut 33 = .ok (.iload_n 2, 1) := by decide +kernel
theorem dX9_letOut_34 : decode cX9_letOut 34 = .ok (.invokevirtual 132, 3) := by decide +kernel
theorem dX9_letOut_37 : decode cX9_letOut 37 = .ok (.iload_n 2, 1) := by decide +kernel
theorem dX9_letOut_38 : decode cX9_letOut 38 = .ok (.ireturn, 1) := by decide +kernel
theorem dX9_bribed_0 : decode cX9_bribed 0 = .ok (.aload_n 0, 1) := by decide +kernel
theorem dX9_bribed_1 : decode cX9_bribed 1 = .ok (.iload_n 1, 1) := by decide +kernel
theorem dX9_bribed_2 : decode cX9_bribed 2 = .ok (.invokevirtual 91, 3) := by decide +kernel
theorem dX9_bribed_5 : decode cX9_bribed 5 = .ok (.istore_n 2, 1) := by decide +kernel
theorem dX9_bribed_6 : decode cX9_bribed 6 = .ok (.aload_n 0, 1) := by decide +kernel
theorem dX9_bribed_7 : decode cX9_bribed 7 = .ok (.getfield 7, 3) := by decide +kernel
theorem dX9_bribed_10 : decode cX9_bribed 10 = .ok (.iload_n 1, 1) := by decide +kernel
theorem dX9_bribed_11 : decode cX9_bribed 11 = .ok (.iconst 2, 1) := by decide +kernel
theorem dX9_bribed_12 : decode cX9_bribed 12 = .ok (.invokestatic 60, 3) := by decide +kernel
theorem dX9_bribed_15 : decode cX9_bribed 15 = .ok (.aload_n 0, 1) := by decide +kernel
theorem dX9_bribed_16 : decode cX9_bribed 16 = .ok (.iload_n 1, 1) := by decide +kernel
theorem dX9_bribed_17 : decode cX9_bribed 17 = .ok (.iconst 2, 1) := by decide +kernel
theorem dX9_bribed_18 : decode cX9_bribed 18 = .ok (.invokevirtual 94, 3) := by decide +kernel
theorem dX9_bribed_21 : decode cX9_bribed 21 = .ok (.iconst 3, 1) := by decide +kernel
theorem dX9_bribed_22 : decode cX9_bribed 22 = .ok (.iadd, 1) := by decide +kernel
theorem dX9_bribed_23 : decode cX9_bribed 23 = .ok (.bipush 9, 2) := by decide +kernel
theorem dX9_bribed_25 : decode cX9_bribed 25 = .ok (.invokestatic 125, 3) := by decide +kernel
theorem dX9_bribed_28 : decode cX9_bribed 28 = .ok (.iastore, 1) := by decide +kernel
theorem dX9_bribed_29 : decode cX9_bribed 29 = .ok (.iload_n 2, 1) := by decide +kernel
theorem dX9_bribed_30 : decode cX9_bribed 30 = .ok (.ifCond .lt 26, 3) := by decide +kernel
theorem dX9_bribed_33 : decode cX9_bribed 33 = .ok (.aload_n 0, 1) := by decide +kernel
theorem dX9_bribed_34 : decode cX9_bribed 34 = .ok (.getfield 7, 3) := by decide +kernel
theorem dX9_bribed_37 : decode cX9_bribed 37 = .ok (.iload_n 2, 1) := by decide +kernel
theorem dX9_bribed_38 : decode cX9_bribed 38 = .ok (.iconst 1, 1) := by decide +kernel
theorem dX9_bribed_39 : decode cX9_bribed 39 = .ok (.invokestatic 47, 3) := by decide +kernel
theorem dX9_bribed_42 : decode cX9_bribed 42 = .ok (.aload_n 0, 1) := by decide +kernel
theorem dX9_bribed_43 : decode cX9_bribed 43 = .ok (.iload_n 2, 1) := by decide +kernel
theorem dX9_bribed_44 : decode cX9_bribed 44 = .ok (.iconst 1, 1) := by decide +kernel
theorem dX9_bribed_45 : decode cX9_bribed 45 = .ok (.invokevirtual 63, 3) := by decide +kernel
theorem dX9_bribed_48 : decode cX9_bribed 48 = .ok (.iconst 1, 1) := by decide +kernel
theorem dX9_bribed_49 : decode cX9_bribed 49 = .ok (.iadd, 1) := by decide +kernel
theorem dX9_bribed_50 : decode cX9_bribed 50 = .ok (.bipush 9, 2) := by decide +kernel
theorem dX9_bribed_52 : decode cX9_bribed 52 = .ok (.invokestatic 125, 3) := by decide +kernel
theorem dX9_bribed_55 : decode cX9_bribed 55 = .ok (.iastore, 1) := by decide +kernel
theorem dX9_bribed_56 : decode cX9_bribed 56 = .ok (.return_, 1) := by decide +kernel
theorem dX9_bribe_0 : decode cX9_bribe 0 = .ok (.aload_n 0, 1) := by decide +kernel
theorem dX9_bribe_1 : decode cX9_bribe 1 = .ok (.iload_n 1, 1) := by decide +kernel
theorem dX9_bribe_2 : decode cX9_bribe 2 = .ok (.invokevirtual 100, 3) := by decide +kernel
theorem dX9_bribe_5 : decode cX9_bribe 5 = .ok (.ifCond .ne 10, 3) := by decide +kernel
theorem dX9_bribe_8 : decode cX9_bribe 8 = .ok (.aload_n 0, 1) := by decide +kernel
theorem dX9_bribe_9 : decode cX9_bribe 9 = .ok (.ldc 51, 2) := by decide +kernel
theorem dX9_bribe_11 : decode cX9_bribe 11 = .ok (.invokevirtual 75, 3) := by decide +kernel
theorem dX9_bribe_14 : decode cX9_bribe 14 = .ok (.ireturn, 1) := by decide +kernel
theorem dX9_bribe_15 : decode cX9_bribe 15 = .ok (.aload_n 0, 1) := by decide +kernel
theorem dX9_bribe_16 : decode cX9_bribe 16 = .ok (.iload_n 1, 1) := by decide +kernel
theorem dX9_bribe_17 : decode cX9_bribe 17 = .ok (.invokevirtual 136, 3) := by decide +kernel
theorem dX9_bribe_20 : decode cX9_bribe 20 = .ok (.aload_n 0, 1) := by decide +kernel
theorem dX9_bribe_21 : decode cX9_bribe 21 = .ok (.iload_n 1, 1) := by decide +kernel
theorem dX9_bribe_22 : decode cX9_bribe 22 = .ok (.iconst 2, 1) := by decide +kernel
theorem dX9_bribe_23 : decode cX9_bribe 23 = .ok (.invokevirtual 94, 3) := by decide +kernel
theorem dX9_bribe_26 : decode cX9_bribe 26 = .ok (.ireturn, 1) := by decide +kernel
theorem dX9_minute_0 : decode cX9_minute 0 = .ok (.iconst 0, 1) := by decide +kernel
theorem dX9_minute_1 : decode cX9_minute 1 = .ok (.istore_n 1, 1) := by decide +kernel
theorem dX9_minute_2 : decode cX9_minute 2 = .ok (.iload_n 1, 1) := by decide +kernel
theorem dX9_minute_3 : decode cX9_minute 3 = .ok (.iconst 3, 1) := by decide +kernel
theorem dX9_minute_4 : decode cX9_minute 4 = .ok (.if_icmp .ge 56, 3) := by decide +kernel
theorem dX9_minute_7 : decode cX9_minute 7 = .ok (.aload_n 0, 1) := by decide +kernel
theorem dX9_minute_8 : decode cX9_minute 8 = .ok (.iload_n 1, 1) := by decide +kernel
theorem dX9_minute_9 : decode cX9_minute 9 = .ok (.invokevirtual 88, 3) := by decide +kernel
theorem dX9_minute_12 : decode cX9_minute 12 = .ok (.ifCond .eq 42, 3) := by decide +kernel
theorem dX9_minute_15 : decode cX9_minute 15 = .ok (.aload_n 0, 1) := by decide +kernel
theorem dX9_minute_16 : decode cX9_minute 16 = .ok (.iload_n 1, 1) := by decide +kernel
theorem dX9_minute_17 : decode cX9_minute 17 = .ok (.iconst 4, 1) := by decide +kernel
theorem dX9_minute_18 : decode cX9_minute 18 = .ok (.invokevirtual 63, 3) := by decide +kernel
theorem dX9_minute_21 : decode cX9_minute 21 = .ok (.istore_n 2, 1) := by decide +kernel
theorem dX9_minute_22 : decode cX9_minute 22 = .ok (.aload_n 0, 1) := by decide +kernel
theorem dX9_minute_23 : decode cX9_minute 23 = .ok (.iload_n 2, 1) := by decide +kernel
theorem dX9_minute_24 : decode cX9_minute 24 = .ok (.iconst 2, 1) := by decide +kernel
theorem dX9_minute_25 : decode cX9_minute 25 = .ok (.invokevirtual 94, 3) := by decide +kernel
theorem dX9_minute_28 : decode cX9_minute 28 = .ok (.aload_n 0, 1) := by decide +kernel
theorem dX9_minute_29 : decode cX9_minute 29 = .ok (.iload_n 2, 1) := by decide +kernel
theorem dX9_minute_30 : decode cX9_minute 30 = .ok (.invokevirtual 105, 3) := by decide +kernel
theorem dX9_minute_33 : decode cX9_minute 33 = .ok (.isub, 1) := by decide +kernel
theorem dX9_minute_34 : decode cX9_minute 34 = .ok (.istore_n 3, 1) := by decide +kernel
theorem dX9_minute_35 : decode cX9_minute 35 = .ok (.aload_n 0, 1) := by decide +kernel
theorem dX9_minute_36 : decode cX9_minute 36 = .ok (.getfield 7, 3) := by decide +kernel
theorem dX9_minute_39 : decode cX9_minute 39 = .ok (.iload_n 2, 1) := by decide +kernel
theorem dX9_minute_40 : decode cX9_minute 40 = .ok (.iconst 2, 1) := by decide +kernel
theorem dX9_minute_41 : decode cX9_minute 41 = .ok (.invokestatic 60, 3) := by decide +kernel
theorem dX9_minute_44 : decode cX9_minute 44 = .ok (.iload_n 3, 1) := by decide +kernel
theorem dX9_minute_45 : decode cX9_minute 45 = .ok (.ifCond .ge 7, 3) := by decide +kernel
theorem dX9_minute_48 : decode cX9_minute 48 = .ok (.iconst 0, 1) := by decide +kernel
theorem dX9_minute_49 : decode cX9_minute 49 = .ok (.goto 4, 3) := by decide +kernel
theorem dX9_minute_52 : decode cX9_minute 52 = .ok (.iload_n 3, 1) := by decide +kernel
theorem dX9_minute_53 : decode cX9_minute 53 = .ok (.iastore, 1) := by decide +kernel
theorem dX9_minute_54 : decode cX9_minute 54 = .ok (.iinc 1 1, 3) := by decide +kernel
theorem dX9_minute_57 : decode cX9_minute 57 = .ok (.goto (-55), 3) := by decide +kernel
theorem dX9_minute_60 : decode cX9_minute 60 = .ok (.iconst 0, 1) := by decide +kernel
theorem dX9_minute_61 : decode cX9_minute 61 = .ok (.istore_n 1, 1) := by decide +kernel
theorem dX9_minute_62 : decode cX9_minute 62 = .ok (.iload_n 1, 1) := by decide +kernel
theorem dX9_minute_63 : decode cX9_minute 63 = .ok (.iconst 3, 1) := by decide +kernel
theorem dX9_minute_64 : decode cX9_minute 64 = .ok (.if_icmp .ge 80, 3) := by decide +kernel
theorem dX9_minute_67 : decode cX9_minute 67 = .ok (.aload_n 0, 1) := by decide +kernel
theorem dX9_minute_68 : decode cX9_minute 68 = .ok (.iload_n 1, 1) := by decide +kernel
theorem dX9_minute_69 : decode cX9_minute 69 = .ok (.invokevirtual 88, 3) := by decide +kernel
theorem dX9_minute_72 : decode cX9_minute 72 = .ok (.ifCond .eq 66, 3) := by decide +kernel
theorem dX9_minute_75 : decode cX9_minute 75 = .ok (.aload_n 0, 1) := by decide +kernel
theorem dX9_minute_76 : decode cX9_minute 76 = .ok (.aload_n 0, 1) := by decide +kernel
theorem dX9_minute_77 : decode cX9_minute 77 = .ok (.iload_n 1, 1) := by decide +kernel
theorem dX9_minute_78 : decode cX9_minute 78 = .ok (.iconst 4, 1) := by decide +kernel
theorem dX9_minute_79 : decode cX9_minute 79 = .ok (.invokevirtual 63, 3) := by decide +kernel
theorem dX9_minute_82 : decode cX9_minute 82 = .ok (.iconst 2, 1) := by decide +kernel
theorem dX9_minute_83 : decode cX9_minute 83 = .ok (.invokevirtual 94, 3) := by decide +kernel
theorem dX9_minute_86 : decode cX9_minute 86 = .ok (.iconst 2, 1) := by decide +kernel
theorem dX9_minute_87 : decode cX9_minute 87 = .ok (.if_icmp .ge 51, 3) := by decide +kernel
theorem dX9_minute_90 : decode cX9_minute 90 = .ok (.aload_n 0, 1) := by decide +kernel
theorem dX9_minute_91 : decode cX9_minute 91 = .ok (.iload_n 1, 1) := by decide +kernel
theorem dX9_minute_92 : decode cX9_minute 92 = .ok (.iconst 4, 1) := by decide +kernel
theorem dX9_minute_93 : decode cX9_minute 93 = .ok (.invokevirtual 63, 3) := by decide +kernel
theorem dX9_minute_96 : decode cX9_minute 96 = .ok (.iconst 5, 1) := by decide +kernel
theorem dX9_minute_97 : decode cX9_minute 97 = .ok (.invokestatic 60, 3) := by decide +kernel
theorem dX9_minute_100 : decode cX9_minute 100 = .ok (.istore_n 2, 1) := by decide +kernel
theorem dX9_minute_101 : decode cX9_minute 101 = .ok (.aload_n 0, 1) := by decide +kernel
theorem dX9_minute_102 : decode cX9_minute 102 = .ok (.getfield 7, 3) := by decide +kernel
theorem dX9_minute_105 : decode cX9_minute 105 = .ok (.iload_n 2, 1) := by decide +kernel
theorem dX9_minute_106 : decode cX9_minute 106 = .ok (.dup2, 1) := by decide +kernel
theorem dX9_minute_107 : decode cX9_minute 107 = .ok (.iaload, 1) := by decide +kernel
theorem dX9_minute_108 : decode cX9_minute 108 = .ok (.aload_n 0, 1) := by decide +kernel
theorem dX9_minute_109 : decode cX9_minute 109 = .ok (.getfield 7, 3) := by decide +kernel
theorem dX9_minute_112 : decode cX9_minute 112 = .ok (.iload_n 2, 1) := by decide +kernel
theorem dX9_minute_113 : decode cX9_minute 113 = .ok (.iaload, 1) := by decide +kernel
theorem dX9_minute_114 : decode cX9_minute 114 = .ok (.ifCond .le 7, 3) := by decide +kernel
theorem dX9_minute_117 : decode cX9_minute 117 = .ok (.iconst 1, 1) := by decide +kernel
theorem dX9_minute_118 : decode cX9_minute 118 = .ok (.goto 4, 3) := by decide +kernel
theorem dX9_minute_121 : decode cX9_minute 121 = .ok (.iconst 0, 1) := by decide +kernel
theorem dX9_minute_122 : decode cX9_minute 122 = .ok (.isub, 1) := by decide +kernel
theorem dX9_minute_123 : decode cX9_minute 123 = .ok (.iastore, 1) := by decide +kernel
theorem dX9_minute_124 : decode cX9_minute 124 = .ok (.aload_n 0, 1) := by decide +kernel
theorem dX9_minute_125 : decode cX9_minute 125 = .ok (.getfield 7, 3) := by decide +kernel
theorem dX9_minute_128 : decode cX9_minute 128 = .ok (.iload_n 2, 1) := by decide +kernel
theorem dX9_minute_129 : decode cX9_minute 129 = .ok (.iaload, 1) := by decide +kernel
theorem dX9_minute_130 : decode cX9_minute 130 = .ok (.ifCond .ne 8, 3) := by decide +kernel
theorem dX9_minute_133 : decode cX9_minute 133 = .ok (.aload_n 0, 1) := by decide +kernel
theorem dX9_minute_134 : decode cX9_minute 134 = .ok (.iload_n 1, 1) := by decide +kernel
theorem dX9_minute_135 : decode cX9_minute 135 = .ok (.invokevirtual 132, 3) := by decide +kernel
theorem dX9_minute_138 : decode cX9_minute 138 = .ok (.iinc 1 1, 3) := by decide +kernel
theorem dX9_minute_141 : decode cX9_minute 141 = .ok (.goto (-79), 3) := by decide +kernel
theorem dX9_minute_144 : decode cX9_minute 144 = .ok (.aload_n 0, 1) := by decide +kernel
theorem dX9_minute_145 : decode cX9_minute 145 = .ok (.getfield 7, 3) := by decide +kernel
theorem dX9_minute_148 : decode cX9_minute 148 = .ok (.iconst 1, 1) := by decide +kernel
theorem dX9_minute_149 : decode cX9_minute 149 = .ok (.dup2, 1) := by decide +kernel
theorem dX9_minute_150 : decode cX9_minute 150 = .ok (.iaload, 1) := by decide +kernel
theorem dX9_minute_151 : decode cX9_minute 151 = .ok (.iconst 1, 1) := by decide +kernel
theorem dX9_minute_152 : decode cX9_minute 152 = .ok (.iadd, 1) := by decide +kernel
theorem dX9_minute_153 : decode cX9_minute 153 = .ok (.iastore, 1) := by decide +kernel
theorem dX9_minute_154 : decode cX9_minute 154 = .ok (.return_, 1) := by decide +kernel
theorem dX9_minutesGo_0 : decode cX9_minutesGo 0 = .ok (.iconst 0, 1) := by decide +kernel
theorem dX9_minutesGo_1 : decode cX9_minutesGo 1 = .ok (.istore_n 2, 1) := by decide +kernel
theorem dX9_minutesGo_2 : decode cX9_minutesGo 2 = .ok (.iload_n 2, 1) := by decide +kernel
theorem dX9_minutesGo_3 : decode cX9_minutesGo 3 = .ok (.iload_n 1, 1) := by decide +kernel
theorem dX9_minutesGo_4 : decode cX9_minutesGo 4 = .ok (.if_icmp .ge 13, 3) := by decide +kernel
theorem dX9_minutesGo_7 : decode cX9_minutesGo 7 = .ok (.aload_n 0, 1) := by decide +kernel
theorem dX9_minutesGo_8 : decode cX9_minutesGo 8 = .ok (.invokevirtual 139, 3) := by decide +kernel
theorem dX9_minutesGo_11 : decode cX9_minutesGo 11 = .ok (.iinc 2 1, 3) := by decide +kernel
theorem dX9_minutesGo_14 : decode cX9_minutesGo 14 = .ok (.goto (-12), 3) := by decide +kernel
theorem dX9_minutesGo_17 : decode cX9_minutesGo 17 = .ok (.return_, 1) := by decide +kernel
theorem dX9_seated_0 : decode cX9_seated 0 = .ok (.iconst 0, 1) := by decide +kernel
theorem dX9_seated_1 : decode cX9_seated 1 = .ok (.istore_n 1, 1) := by decide +kernel
theorem dX9_seated_2 : decode cX9_seated 2 = .ok (.iconst 0, 1) := by decide +kernel
theorem dX9_seated_3 : decode cX9_seated 3 = .ok (.istore_n 2, 1) := by decide +kernel
theorem dX9_seated_4 : decode cX9_seated 4 = .ok (.iload_n 2, 1) := by decide +kernel
theorem dX9_seated_5 : decode cX9_seated 5 = .ok (.iconst 3, 1) := by decide +kernel
theorem dX9_seated_6 : decode cX9_seated 6 = .ok (.if_icmp .ge 32, 3) := by decide +kernel
theorem dX9_seated_9 : decode cX9_seated 9 = .ok (.iload_n 1, 1) := by decide +kernel
theorem dX9_seated_10 : decode cX9_seated 10 = .ok (.aload_n 0, 1) := by decide +kernel
theorem dX9_seated_11 : decode cX9_seated 11 = .ok (.iload_n 2, 1) := by decide +kernel
theorem dX9_seated_12 : decode cX9_seated 12 = .ok (.invokevirtual 88, 3) := by decide +kernel
theorem dX9_seated_15 : decode cX9_seated 15 = .ok (.ifCond .eq 14, 3) := by decide +kernel
theorem dX9_seated_18 : decode cX9_seated 18 = .ok (.iconst 1, 1) := by decide +kernel
theorem dX9_seated_19 : decode cX9_seated 19 = .ok (.aload_n 0, 1) := by decide +kernel
theorem dX9_seated_20 : decode cX9_seated 20 = .ok (.iload_n 2, 1) := by decide +kernel
theorem dX9_seated_21 : decode cX9_seated 21 = .ok (.iconst 4, 1) := by decide +kernel
theorem dX9_seated_22 : decode cX9_seated 22 = .ok (.invokevirtual 63, 3) := by decide +kernel
theorem dX9_seated_25 : decode cX9_seated 25 = .ok (.ishl, 1) := by decide +kernel
theorem dX9_seated_26 : decode cX9_seated 26 = .ok (.goto 4, 3) := by decide +kernel
theorem dX9_seated_29 : decode cX9_seated 29 = .ok (.iconst 0, 1) := by decide +kernel
theorem dX9_seated_30 : decode cX9_seated 30 = .ok (.ior, 1) := by decide +kernel
theorem dX9_seated_31 : decode cX9_seated 31 = .ok (.istore_n 1, 1) := by decide +kernel
theorem dX9_seated_32 : decode cX9_seated 32 = .ok (.iinc 2 1, 3) := by decide +kernel
theorem dX9_seated_35 : decode cX9_seated 35 = .ok (.goto (-31), 3) := by decide +kernel
theorem dX9_seated_38 : decode cX9_seated 38 = .ok (.iload_n 1, 1) := by decide +kernel
theorem dX9_seated_39 : decode cX9_seated 39 = .ok (.ireturn, 1) := by decide +kernel
theorem dX9_drive_0 : decode cX9_drive 0 = .ok (.iload_n 1, 1) := by decide +kernel
theorem dX9_drive_1 : decode cX9_drive 1 = .ok (.i2l, 1) := by decide +kernel
theorem dX9_drive_2 : decode cX9_drive 2 = .ok (.lconst 1, 1) := by decide +kernel
theorem dX9_drive_3 : decode cX9_drive 3 = .ok (.ldc2_w 142, 3) := by decide +kernel
theorem dX9_drive_6 : decode cX9_drive 6 = .ok (.invokestatic 54, 3) := by decide +kernel
theorem dX9_drive_9 : decode cX9_drive 9 = .ok (.ifCond .ne 10, 3) := by decide +kernel
theorem dX9_drive_12 : decode cX9_drive 12 = .ok (.aload_n 0, 1) := by decide +kernel
theorem dX9_drive_13 : decode cX9_drive 13 = .ok (.ldc 51, 2) := by decide +kernel
theorem dX9_drive_15 : decode cX9_drive 15 = .ok (.invokevirtual 75, 3) := by decide +kernel
theorem dX9_drive_18 : decode cX9_drive 18 = .ok (.ireturn, 1) := by decide +kernel
theorem dX9_drive_19 : decode cX9_drive 19 = .ok (.aload_n 0, 1) := by decide +kernel
theorem dX9_drive_20 : decode cX9_drive 20 = .ok (.getfield 7, 3) := by decide +kernel
theorem dX9_drive_23 : decode cX9_drive 23 = .ok (.iconst 1, 1) := by decide +kernel
theorem dX9_drive_24 : decode cX9_drive 24 = .ok (.iaload, 1) := by decide +kernel
theorem dX9_drive_25 : decode cX9_drive 25 = .ok (.iload_n 1, 1) := by decide +kernel
theorem dX9_drive_26 : decode cX9_drive 26 = .ok (.iadd, 1) := by decide +kernel
theorem dX9_drive_27 : decode cX9_drive 27 = .ok (.sipush 9999, 3) := by decide +kernel
theorem dX9_drive_30 : decode cX9_drive 30 = .ok (.if_icmp .le 10, 3) := by decide +kernel
theorem dX9_drive_33 : decode cX9_drive 33 = .ok (.aload_n 0, 1) := by decide +kernel
theorem dX9_drive_34 : decode cX9_drive 34 = .ok (.ldc 128, 2) := by decide +kernel
theorem dX9_drive_36 : decode cX9_drive 36 = .ok (.invokevirtual 75, 3) := by decide +kernel
theorem dX9_drive_39 : decode cX9_drive 39 = .ok (.ireturn, 1) := by decide +kernel
theorem dX9_drive_40 : decode cX9_drive 40 = .ok (.aload_n 0, 1) := by decide +kernel
theorem dX9_drive_41 : decode cX9_drive 41 = .ok (.iload_n 1, 1) := by decide +kernel
theorem dX9_drive_42 : decode cX9_drive 42 = .ok (.invokevirtual 144, 3) := by decide +kernel
theorem dX9_drive_45 : decode cX9_drive 45 = .ok (.aload_n 0, 1) := by decide +kernel
theorem dX9_drive_46 : decode cX9_drive 46 = .ok (.invokevirtual 147, 3) := by decide +kernel
theorem dX9_drive_49 : decode cX9_drive 49 = .ok (.ireturn, 1) := by decide +kernel
theorem dX9_together_0 : decode cX9_together 0 = .ok (.iconst 0, 1) := by decide +kernel
theorem dX9_together_1 : decode cX9_together 1 = .ok (.istore_n 2, 1) := by decide +kernel
theorem dX9_together_2 : decode cX9_together 2 = .ok (.iconst 0, 1) := by decide +kernel
theorem dX9_together_3 : decode cX9_together 3 = .ok (.istore_n 3, 1) := by decide +kernel
theorem dX9_together_4 : decode cX9_together 4 = .ok (.iload_n 3, 1) := by decide +kernel
theorem dX9_together_5 : decode cX9_together 5 = .ok (.aload_n 0, 1) := by decide +kernel
theorem dX9_together_6 : decode cX9_together 6 = .ok (.getfield 7, 3) := by decide +kernel
theorem dX9_together_9 : decode cX9_together 9 = .ok (.iconst 0, 1) := by decide +kernel
theorem dX9_together_10 : decode cX9_together 10 = .ok (.iaload, 1) := by decide +kernel
theorem dX9_together_11 : decode cX9_together 11 = .ok (.if_icmp .ge 18, 3) := by decide +kernel
theorem dX9_together_14 : decode cX9_together 14 = .ok (.iload_n 2, 1) := by decide +kernel
theorem dX9_together_15 : decode cX9_together 15 = .ok (.aload_n 0, 1) := by decide +kernel
theorem dX9_together_16 : decode cX9_together 16 = .ok (.iload_n 3, 1) := by decide +kernel
theorem dX9_together_17 : decode cX9_together 17 = .ok (.iload_n 1, 1) := by decide +kernel
theorem dX9_together_18 : decode cX9_together 18 = .ok (.invokevirtual 94, 3) := by decide +kernel
theorem dX9_together_21 : decode cX9_together 21 = .ok (.iadd, 1) := by decide +kernel
theorem dX9_together_22 : decode cX9_together 22 = .ok (.istore_n 2, 1) := by decide +kernel
theorem dX9_together_23 : decode cX9_together 23 = .ok (.iinc 3 1, 3) := by decide +kernel
theorem dX9_together_26 : decode cX9_together 26 = .ok (.goto (-22), 3) := by decide +kernel
theorem dX9_together_29 : decode cX9_together 29 = .ok (.iload_n 2, 1) := by decide +kernel
theorem dX9_together_30 : decode cX9_together 30 = .ok (.ireturn, 1) := by decide +kernel
theorem dX9_now_0 : decode cX9_now 0 = .ok (.iload_n 1, 1) := by decide +kernel
theorem dX9_now_1 : decode cX9_now 1 = .ok (.tableswitch 65 0 5 #[39, 39, 39, 48, 53, 59], 39) := by decide +kernel
theorem dX9_now_40 : decode cX9_now 40 = .ok (.aload_n 0, 1) := by decide +kernel
theorem dX9_now_41 : decode cX9_now 41 = .ok (.getfield 7, 3) := by decide +kernel
theorem dX9_now_44 : decode cX9_now 44 = .ok (.iconst 1, 1) := by decide +kernel
theorem dX9_now_45 : decode cX9_now 45 = .ok (.iload_n 1, 1) := by decide +kernel
theorem dX9_now_46 : decode cX9_now 46 = .ok (.iadd, 1) := by decide +kernel
theorem dX9_now_47 : decode cX9_now 47 = .ok (.iaload, 1) := by decide +kernel
theorem dX9_now_48 : decode cX9_now 48 = .ok (.ireturn, 1) := by decide +kernel
theorem dX9_now_49 : decode cX9_now 49 = .ok (.aload_n 0, 1) := by decide +kernel
theorem dX9_now_50 : decode cX9_now 50 = .ok (.invokevirtual 147, 3) := by decide +kernel
theorem dX9_now_53 : decode cX9_now 53 = .ok (.ireturn, 1) := by decide +kernel
theorem dX9_now_54 : decode cX9_now 54 = .ok (.aload_n 0, 1) := by decide +kernel
theorem dX9_now_55 : decode cX9_now 55 = .ok (.iconst 2, 1) := by decide +kernel
theorem dX9_now_56 : decode cX9_now 56 = .ok (.invokevirtual 151, 3) := by decide +kernel
theorem dX9_now_59 : decode cX9_now 59 = .ok (.ireturn, 1) := by decide +kernel
theorem dX9_now_60 : decode cX9_now 60 = .ok (.aload_n 0, 1) := by decide +kernel
theorem dX9_now_61 : decode cX9_now 61 = .ok (.iconst 5, 1) := by decide +kernel
theorem dX9_now_62 : decode cX9_now 62 = .ok (.invokevirtual 151, 3) := by decide +kernel
theorem dX9_now_65 : decode cX9_now 65 = .ok (.ireturn, 1) := by decide +kernel
theorem dX9_now_66 : decode cX9_now 66 = .ok (.aload_n 0, 1) := by decide +kernel
theorem dX9_now_67 : decode cX9_now 67 = .ok (.ldc 51, 2) := by decide +kernel
theorem dX9_now_69 : decode cX9_now 69 = .ok (.invokevirtual 75, 3) := by decide +kernel
theorem dX9_now_72 : decode cX9_now 72 = .ok (.ireturn, 1) := by decide +kernel
theorem dX9_on_0 : decode cX9_on 0 = .ok (.aload_n 0, 1) := by decide +kernel
theorem dX9_on_1 : decode cX9_on 1 = .ok (.iload_n 1, 1) := by decide +kernel
theorem dX9_on_2 : decode cX9_on 2 = .ok (.invokevirtual 100, 3) := by decide +kernel
theorem dX9_on_5 : decode cX9_on 5 = .ok (.ifCond .eq 25, 3) := by decide +kernel
theorem dX9_on_8 : decode cX9_on 8 = .ok (.iload_n 2, 1) := by decide +kernel
theorem dX9_on_9 : decode cX9_on 9 = .ok (.i2l, 1) := by decide +kernel
theorem dX9_on_10 : decode cX9_on 10 = .ok (.lconst 0, 1) := by decide +kernel
theorem dX9_on_11 : decode cX9_on 11 = .ok (.ldc2_w 142, 3) := by decide +kernel
theorem dX9_on_14 : decode cX9_on 14 = .ok (.invokestatic 54, 3) := by decide +kernel
theorem dX9_on_17 : decode cX9_on 17 = .ok (.ifCond .eq 13, 3) := by decide +kernel
theorem dX9_on_20 : decode cX9_on 20 = .ok (.iload_n 3, 1) := by decide +kernel
theorem dX9_on_21 : decode cX9_on 21 = .ok (.i2l, 1) := by decide +kernel
theorem dX9_on_22 : decode cX9_on 22 = .ok (.lconst 0, 1) := by decide +kernel
theorem dX9_on_23 : decode cX9_on 23 = .ok (.lconst 1, 1) := by decide +kernel
theorem dX9_on_24 : decode cX9_on 24 = .ok (.invokestatic 54, 3) := by decide +kernel
theorem dX9_on_27 : decode cX9_on 27 = .ok (.ifCond .ne 10, 3) := by decide +kernel
theorem dX9_on_30 : decode cX9_on 30 = .ok (.aload_n 0, 1) := by decide +kernel
theorem dX9_on_31 : decode cX9_on 31 = .ok (.ldc 51, 2) := by decide +kernel
theorem dX9_on_33 : decode cX9_on 33 = .ok (.invokevirtual 75, 3) := by decide +kernel
theorem dX9_on_36 : decode cX9_on 36 = .ok (.ireturn, 1) := by decide +kernel
theorem dX9_on_37 : decode cX9_on 37 = .ok (.aload_n 0, 1) := by decide +kernel
theorem dX9_on_38 : decode cX9_on 38 = .ok (.invokevirtual 154, 3) := by decide +kernel
theorem dX9_on_41 : decode cX9_on 41 = .ok (.aload_n 0, 1) := by decide +kernel
theorem dX9_on_42 : decode cX9_on 42 = .ok (.iload_n 2, 1) := by decide +kernel
theorem dX9_on_43 : decode cX9_on 43 = .ok (.invokevirtual 144, 3) := by decide +kernel
theorem dX9_on_46 : decode cX9_on 46 = .ok (.aload_n 0, 1) := by decide +kernel
theorem dX9_on_47 : decode cX9_on 47 = .ok (.aload_n 0, 1) := by decide +kernel
theorem dX9_on_48 : decode cX9_on 48 = .ok (.iload_n 1, 1) := by decide +kernel
theorem dX9_on_49 : decode cX9_on 49 = .ok (.iload_n 3, 1) := by decide +kernel
theorem dX9_on_50 : decode cX9_on 50 = .ok (.ifCond .ne 7, 3) := by decide +kernel
theorem dX9_on_53 : decode cX9_on 53 = .ok (.iconst 2, 1) := by decide +kernel
theorem dX9_on_54 : decode cX9_on 54 = .ok (.goto 4, 3) := by decide +kernel
theorem dX9_on_57 : decode cX9_on 57 = .ok (.iconst 5, 1) := by decide +kernel
theorem dX9_on_58 : decode cX9_on 58 = .ok (.invokevirtual 94, 3) := by decide +kernel
theorem dX9_on_61 : decode cX9_on 61 = .ok (.invokevirtual 157, 3) := by decide +kernel
theorem dX9_on_64 : decode cX9_on 64 = .ok (.ireturn, 1) := by decide +kernel
theorem dX9_outIn_0 : decode cX9_outIn 0 = .ok (.aload_n 0, 1) := by decide +kernel
theorem dX9_outIn_1 : decode cX9_outIn 1 = .ok (.invokevirtual 154, 3) := by decide +kernel
theorem dX9_outIn_4 : decode cX9_outIn 4 = .ok (.iconst 0, 1) := by decide +kernel
theorem dX9_outIn_5 : decode cX9_outIn 5 = .ok (.istore_n 3, 1) := by decide +kernel
theorem dX9_outIn_6 : decode cX9_outIn 6 = .ok (.iload_n 3, 1) := by decide +kernel
theorem dX9_outIn_7 : decode cX9_outIn 7 = .ok (.iload_n 2, 1) := by decide +kernel
theorem dX9_outIn_8 : decode cX9_outIn 8 = .ok (.if_icmp .ge 21, 3) := by decide +kernel
theorem dX9_outIn_11 : decode cX9_outIn 11 = .ok (.aload_n 0, 1) := by decide +kernel
theorem dX9_outIn_12 : decode cX9_outIn 12 = .ok (.iload_n 1, 1) := by decide +kernel
theorem dX9_outIn_13 : decode cX9_outIn 13 = .ok (.invokevirtual 91, 3) := by decide +kernel
theorem dX9_outIn_16 : decode cX9_outIn 16 = .ok (.ifCond .lt 13, 3) := by decide +kernel
theorem dX9_outIn_19 : decode cX9_outIn 19 = .ok (.aload_n 0, 1) := by decide +kernel
theorem dX9_outIn_20 : decode cX9_outIn 20 = .ok (.invokevirtual 139, 3) := by decide +kernel
theorem dX9_outIn_23 : decode cX9_outIn 23 = .ok (.iinc 3 1, 3) := by decide +kernel
theorem dX9_outIn_26 : decode cX9_outIn 26 = .ok (.goto (-20), 3) := by decide +kernel
theorem dX9_outIn_29 : decode cX9_outIn 29 = .ok (.aload_n 0, 1) := by decide +kernel
theorem dX9_outIn_30 : decode cX9_outIn 30 = .ok (.aload_n 0, 1) := by decide +kernel
theorem dX9_outIn_31 : decode cX9_outIn 31 = .ok (.iload_n 1, 1) := by decide +kernel
theorem dX9_outIn_32 : decode cX9_outIn 32 = .ok (.invokevirtual 91, 3) := by decide +kernel
theorem dX9_outIn_35 : decode cX9_outIn 35 = .ok (.ifCond .lt 9, 3) := by decide +kernel
theorem dX9_outIn_38 : decode cX9_outIn 38 = .ok (.iload_n 2, 1) := by decide +kernel
theorem dX9_outIn_39 : decode cX9_outIn 39 = .ok (.iconst 1, 1) := by decide +kernel
theorem dX9_outIn_40 : decode cX9_outIn 40 = .ok (.iadd, 1) := by decide +kernel
theorem dX9_outIn_41 : decode cX9_outIn 41 = .ok (.goto 4, 3) := by decide +kernel
theorem dX9_outIn_44 : decode cX9_outIn 44 = .ok (.iload_n 3, 1) := by decide +kernel
theorem dX9_outIn_45 : decode cX9_outIn 45 = .ok (.invokevirtual 157, 3) := by decide +kernel
theorem dX9_outIn_48 : decode cX9_outIn 48 = .ok (.ireturn, 1) := by decide +kernel
theorem dX9_out_0 : decode cX9_out 0 = .ok (.aload_n 0, 1) := by decide +kernel
theorem dX9_out_1 : decode cX9_out 1 = .ok (.iload_n 1, 1) := by decide +kernel
theorem dX9_out_2 : decode cX9_out 2 = .ok (.invokevirtual 100, 3) := by decide +kernel
theorem dX9_out_5 : decode cX9_out 5 = .ok (.ifCond .ne 10, 3) := by decide +kernel
theorem dX9_out_8 : decode cX9_out 8 = .ok (.aload_n 0, 1) := by decide +kernel
theorem dX9_out_9 : decode cX9_out 9 = .ok (.ldc 51, 2) := by decide +kernel
theorem dX9_out_11 : decode cX9_out 11 = .ok (.invokevirtual 75, 3) := by decide +kernel
theorem dX9_out_14 : decode cX9_out 14 = .ok (.ireturn, 1) := by decide +kernel
theorem dX9_out_15 : decode cX9_out 15 = .ok (.aload_n 0, 1) := by decide +kernel
theorem dX9_out_16 : decode cX9_out 16 = .ok (.iload_n 1, 1) := by decide +kernel
theorem dX9_out_17 : decode cX9_out 17 = .ok (.invokevirtual 91, 3) := by decide +kernel
theorem dX9_out_20 : decode cX9_out 20 = .ok (.ifCond .ge 10, 3) := by decide +kernel
theorem dX9_out_23 : decode cX9_out 23 = .ok (.aload_n 0, 1) := by decide +kernel
theorem dX9_out_24 : decode cX9_out 24 = .ok (.ldc 128, 2) := by decide +kernel
theorem dX9_out_26 : decode cX9_out 26 = .ok (.invokevirtual 75, 3) := by decide +kernel
theorem dX9_out_29 : decode cX9_out 29 = .ok (.ireturn, 1) := by decide +kernel
theorem dX9_out_30 : decode cX9_out 30 = .ok (.aload_n 0, 1) := by decide +kernel
theorem dX9_out_31 : decode cX9_out 31 = .ok (.iload_n 1, 1) := by decide +kernel
theorem dX9_out_32 : decode cX9_out 32 = .ok (.bipush 60, 2) := by decide +kernel
theorem dX9_out_34 : decode cX9_out 34 = .ok (.invokevirtual 160, 3) := by decide +kernel
theorem dX9_out_37 : decode cX9_out 37 = .ok (.istore_n 2, 1) := by decide +kernel
theorem dX9_out_38 : decode cX9_out 38 = .ok (.iload_n 2, 1) := by decide +kernel
theorem dX9_out_39 : decode cX9_out 39 = .ok (.bipush 60, 2) := by decide +kernel
theorem dX9_out_41 : decode cX9_out 41 = .ok (.if_icmp .le 12, 3) := by decide +kernel
theorem dX9_out_44 : decode cX9_out 44 = .ok (.aload_n 0, 1) := by decide +kernel
theorem dX9_out_45 : decode cX9_out 45 = .ok (.ldc 163, 2) := by decide +kernel
theorem dX9_out_47 : decode cX9_out 47 = .ok (.invokevirtual 75, 3) := by decide +kernel
theorem dX9_out_50 : decode cX9_out 50 = .ok (.goto 4, 3) := by decide +kernel
theorem dX9_out_53 : decode cX9_out 53 = .ok (.iload_n 2, 1) := by decide +kernel
theorem dX9_out_54 : decode cX9_out 54 = .ok (.ireturn, 1) := by decide +kernel
theorem dX9_firstOut_0 : decode cX9_firstOut 0 = .ok (.bipush 61, 2) := by decide +kernel
theorem dX9_firstOut_2 : decode cX9_firstOut 2 = .ok (.istore_n 1, 1) := by decide +kernel
theorem dX9_firstOut_3 : decode cX9_firstOut 3 = .ok (.iconst 0, 1) := by decide +kernel
theorem dX9_firstOut_4 : decode cX9_firstOut 4 = .ok (.istore_n 2, 1) := by decide +kernel
theorem dX9_firstOut_5 : decode cX9_firstOut 5 = .ok (.iload_n 2, 1) := by decide +kernel
theorem dX9_firstOut_6 : decode cX9_firstOut 6 = .ok (.aload_n 0, 1) := by decide +kernel
theorem dX9_firstOut_7 : decode cX9_firstOut 7 = .ok (.getfield 7, 3) := by decide +kernel
theorem dX9_firstOut_10 : decode cX9_firstOut 10 = .ok (.iconst 0, 1) := by decide +kernel
theorem dX9_firstOut_11 : decode cX9_firstOut 11 = .ok (.iaload, 1) := by decide +kernel
theorem dX9_firstOut_12 : decode cX9_firstOut 12 = .ok (.if_icmp .ge 40, 3) := by decide +kernel
theorem dX9_firstOut_15 : decode cX9_firstOut 15 = .ok (.aload_n 0, 1) := by decide +kernel
theorem dX9_firstOut_16 : decode cX9_firstOut 16 = .ok (.iload_n 2, 1) := by decide +kernel
theorem dX9_firstOut_17 : decode cX9_firstOut 17 = .ok (.invokevirtual 91, 3) := by decide +kernel
theorem dX9_firstOut_20 : decode cX9_firstOut 20 = .ok (.ifCond .lt 13, 3) := by decide +kernel
theorem dX9_firstOut_23 : decode cX9_firstOut 23 = .ok (.aload_n 0, 1) := by decide +kernel
theorem dX9_firstOut_24 : decode cX9_firstOut 24 = .ok (.iload_n 2, 1) := by decide +kernel
theorem dX9_firstOut_25 : decode cX9_firstOut 25 = .ok (.bipush 60, 2) := by decide +kernel
theorem dX9_firstOut_27 : decode cX9_firstOut 27 = .ok (.invokevirtual 160, 3) := by decide +kernel
theorem dX9_firstOut_30 : decode cX9_firstOut 30 = .ok (.goto 4, 3) := by decide +kernel
theorem dX9_firstOut_33 : decode cX9_firstOut 33 = .ok (.iload_n 1, 1) := by decide +kernel
theorem dX9_firstOut_34 : decode cX9_firstOut 34 = .ok (.istore_n 3, 1) := by decide +kernel
theorem dX9_firstOut_35 : decode cX9_firstOut 35 = .ok (.iload_n 3, 1) := by decide +kernel
theorem dX9_firstOut_36 : decode cX9_firstOut 36 = .ok (.iload_n 1, 1) := by decide +kernel
theorem dX9_firstOut_37 : decode cX9_firstOut 37 = .ok (.if_icmp .ge 7, 3) := by decide +kernel
theorem dX9_firstOut_40 : decode cX9_firstOut 40 = .ok (.iload_n 3, 1) := by decide +kernel
theorem dX9_firstOut_41 : decode cX9_firstOut 41 = .ok (.goto 4, 3) := by decide +kernel
theorem dX9_firstOut_44 : decode cX9_firstOut 44 = .ok (.iload_n 1, 1) := by decide +kernel
theorem dX9_firstOut_45 : decode cX9_firstOut 45 = .ok (.istore_n 1, 1) := by decide +kernel
theorem dX9_firstOut_46 : decode cX9_firstOut 46 = .ok (.iinc 2 1, 3) := by decide +kernel
theorem dX9_firstOut_49 : decode cX9_firstOut 49 = .ok (.goto (-44), 3) := by decide +kernel
theorem dX9_firstOut_52 : decode cX9_firstOut 52 = .ok (.iload_n 1, 1) := by decide +kernel
theorem dX9_firstOut_53 : decode cX9_firstOut 53 = .ok (.bipush 60, 2) := by decide +kernel
theorem dX9_firstOut_55 : decode cX9_firstOut 55 = .ok (.if_icmp .le 12, 3) := by decide +kernel
theorem dX9_firstOut_58 : decode cX9_firstOut 58 = .ok (.aload_n 0, 1) := by decide +kernel
theorem dX9_firstOut_59 : decode cX9_firstOut 59 = .ok (.ldc 163, 2) := by decide +kernel
theorem dX9_firstOut_61 : decode cX9_firstOut 61 = .ok (.invokevirtual 75, 3) := by decide +kernel
theorem dX9_firstOut_64 : decode cX9_firstOut 64 = .ok (.goto 4, 3) := by decide +kernel
theorem dX9_firstOut_67 : decode cX9_firstOut 67 = .ok (.iload_n 1, 1) := by decide +kernel
theorem dX9_firstOut_68 : decode cX9_firstOut 68 = .ok (.ireturn, 1) := by decide +kernel
theorem dX9_wrongSeeker_0 : decode cX9_wrongSeeker 0 = .ok (.aload_n 0, 1) := by decide +kernel
theorem dX9_wrongSeeker_1 : decode cX9_wrongSeeker 1 = .ok (.iconst 0, 1) := by decide +kernel
theorem dX9_wrongSeeker_2 : decode cX9_wrongSeeker 2 = .ok (.invokevirtual 88, 3) := by decide +kernel
theorem dX9_wrongSeeker_5 : decode cX9_wrongSeeker 5 = .ok (.ifCond .eq 23, 3) := by decide +kernel
theorem dX9_wrongSeeker_8 : decode cX9_wrongSeeker 8 = .ok (.aload_n 0, 1) := by decide +kernel
theorem dX9_wrongSeeker_9 : decode cX9_wrongSeeker 9 = .ok (.iconst 1, 1) := by decide +kernel
theorem dX9_wrongSeeker_10 : decode cX9_wrongSeeker 10 = .ok (.invokevirtual 88, 3) := by decide +kernel
theorem dX9_wrongSeeker_13 : decode cX9_wrongSeeker 13 = .ok (.ifCond .eq 15, 3) := by decide +kernel
theorem dX9_wrongSeeker_16 : decode cX9_wrongSeeker 16 = .ok (.aload_n 0, 1) := by decide +kernel
theorem dX9_wrongSeeker_17 : decode cX9_wrongSeeker 17 = .ok (.iconst 2, 1) := by decide +kernel
theorem dX9_wrongSeeker_18 : decode cX9_wrongSeeker 18 = .ok (.invokevirtual 88, 3) := by decide +kernel
theorem dX9_wrongSeeker_21 : decode cX9_wrongSeeker 21 = .ok (.ifCond .eq 7, 3) := by decide +kernel
theorem dX9_wrongSeeker_24 : decode cX9_wrongSeeker 24 = .ok (.iconst 1, 1) := by decide +kernel
theorem dX9_wrongSeeker_25 : decode cX9_wrongSeeker 25 = .ok (.goto 4, 3) := by decide +kernel
theorem dX9_wrongSeeker_28 : decode cX9_wrongSeeker 28 = .ok (.iconst 0, 1) := by decide +kernel
theorem dX9_wrongSeeker_29 : decode cX9_wrongSeeker 29 = .ok (.istore_n 2, 1) := by decide +kernel
theorem dX9_wrongSeeker_30 : decode cX9_wrongSeeker 30 = .ok (.aload_n 0, 1) := by decide +kernel
theorem dX9_wrongSeeker_31 : decode cX9_wrongSeeker 31 = .ok (.iload_n 1, 1) := by decide +kernel
theorem dX9_wrongSeeker_32 : decode cX9_wrongSeeker 32 = .ok (.invokevirtual 100, 3) := by decide +kernel
theorem dX9_wrongSeeker_35 : decode cX9_wrongSeeker 35 = .ok (.ifCond .ne 8, 3) := by decide +kernel
theorem dX9_wrongSeeker_38 : decode cX9_wrongSeeker 38 = .ok (.ldc 51, 2) := by decide +kernel
theorem dX9_wrongSeeker_40 : decode cX9_wrongSeeker 40 = .ok (.goto 26, 3) := by decide +kernel
theorem dX9_wrongSeeker_43 : decode cX9_wrongSeeker 43 = .ok (.aload_n 0, 1) := by decide +kernel
theorem dX9_wrongSeeker_44 : decode cX9_wrongSeeker 44 = .ok (.iload_n 1, 1) := by decide +kernel
theorem dX9_wrongSeeker_45 : decode cX9_wrongSeeker 45 = .ok (.invokevirtual 91, 3) := by decide +kernel
theorem dX9_wrongSeeker_48 : decode cX9_wrongSeeker 48 = .ok (.ifCond .lt 8, 3) := by decide +kernel
theorem dX9_wrongSeeker_51 : decode cX9_wrongSeeker 51 = .ok (.ldc 128, 2) := by decide +kernel
theorem dX9_wrongSeeker_53 : decode cX9_wrongSeeker 53 = .ok (.goto 13, 3) := by decide +kernel
theorem dX9_wrongSeeker_56 : decode cX9_wrongSeeker 56 = .ok (.iload_n 2, 1) := by decide +kernel
theorem dX9_wrongSeeker_57 : decode cX9_wrongSeeker 57 = .ok (.ifCond .eq 8, 3) := by decide +kernel
theorem dX9_wrongSeeker_60 : decode cX9_wrongSeeker 60 = .ok (.ldc 163, 2) := by decide +kernel
theorem dX9_wrongSeeker_62 : decode cX9_wrongSeeker 62 = .ok (.goto 4, 3) := by decide +kernel
theorem dX9_wrongSeeker_65 : decode cX9_wrongSeeker 65 = .ok (.iconst 0, 1) := by decide +kernel
theorem dX9_wrongSeeker_66 : decode cX9_wrongSeeker 66 = .ok (.ireturn, 1) := by decide +kernel
theorem dX9_quick_0 : decode cX9_quick 0 = .ok (.aload_n 0, 1) := by decide +kernel
theorem dX9_quick_1 : decode cX9_quick 1 = .ok (.iload_n 1, 1) := by decide +kernel
theorem dX9_quick_2 : decode cX9_quick 2 = .ok (.invokevirtual 164, 3) := by decide +kernel
theorem dX9_quick_5 : decode cX9_quick 5 = .ok (.istore_n 2, 1) := by decide +kernel
theorem dX9_quick_6 : decode cX9_quick 6 = .ok (.iload_n 2, 1) := by decide +kernel
theorem dX9_quick_7 : decode cX9_quick 7 = .ok (.ifCond .eq 9, 3) := by decide +kernel
theorem dX9_quick_10 : decode cX9_quick 10 = .ok (.aload_n 0, 1) := by decide +kernel
theorem dX9_quick_11 : decode cX9_quick 11 = .ok (.iload_n 2, 1) := by decide +kernel
theorem dX9_quick_12 : decode cX9_quick 12 = .ok (.invokevirtual 75, 3) := by decide +kernel
theorem dX9_quick_15 : decode cX9_quick 15 = .ok (.ireturn, 1) := by decide +kernel
theorem dX9_quick_16 : decode cX9_quick 16 = .ok (.iconst (-1), 1) := by decide +kernel
theorem dX9_quick_17 : decode cX9_quick 17 = .ok (.istore_n 3, 1) := by decide +kernel
theorem dX9_quick_18 : decode cX9_quick 18 = .ok (.iconst 0, 1) := by decide +kernel
theorem dX9_quick_19 : decode cX9_quick 19 = .ok (.istore 4, 2) := by decide +kernel
theorem dX9_quick_21 : decode cX9_quick 21 = .ok (.iload 4, 2) := by decide +kernel
theorem dX9_quick_23 : decode cX9_quick 23 = .ok (.iconst 3, 1) := by decide +kernel
theorem dX9_quick_24 : decode cX9_quick 24 = .ok (.if_icmp .ge 45, 3) := by decide +kernel
theorem dX9_quick_27 : decode cX9_quick 27 = .ok (.aload_n 0, 1) := by decide +kernel
theorem dX9_quick_28 : decode cX9_quick 28 = .ok (.iload 4, 2) := by decide +kernel
theorem dX9_quick_30 : decode cX9_quick 30 = .ok (.invokevirtual 88, 3) := by decide +kernel
theorem dX9_quick_33 : decode cX9_quick 33 = .ok (.ifCond .ne 28, 3) := by decide +kernel
theorem dX9_quick_36 : decode cX9_quick 36 = .ok (.iload_n 3, 1) := by decide +kernel
theorem dX9_quick_37 : decode cX9_quick 37 = .ok (.ifCond .lt 19, 3) := by decide +kernel
theorem dX9_quick_40 : decode cX9_quick 40 = .ok (.aload_n 0, 1) := by decide +kernel
theorem dX9_quick_41 : decode cX9_quick 41 = .ok (.iload_n 1, 1) := by decide +kernel
theorem dX9_quick_42 : decode cX9_quick 42 = .ok (.iload 4, 2) := by decide +kernel
theorem dX9_quick_44 : decode cX9_quick 44 = .ok (.invokevirtual 118, 3) := by decide +kernel
theorem dX9_quick_47 : decode cX9_quick 47 = .ok (.aload_n 0, 1) := by decide +kernel
theorem dX9_quick_48 : decode cX9_quick 48 = .ok (.iload_n 1, 1) := by decide +kernel
theorem dX9_quick_49 : decode cX9_quick 49 = .ok (.iload_n 3, 1) := by decide +kernel
theorem dX9_quick_50 : decode cX9_quick 50 = .ok (.invokevirtual 118, 3) := by decide +kernel
theorem dX9_quick_53 : decode cX9_quick 53 = .ok (.if_icmp .ge 8, 3) := by decide +kernel
theorem dX9_quick_56 : decode cX9_quick 56 = .ok (.iload 4, 2) := by decide +kernel
theorem dX9_quick_58 : decode cX9_quick 58 = .ok (.goto 4, 3) := by decide +kernel
theorem dX9_quick_61 : decode cX9_quick 61 = .ok (.iload_n 3, 1) := by decide +kernel
theorem dX9_quick_62 : decode cX9_quick 62 = .ok (.istore_n 3, 1) := by decide +kernel
theorem dX9_quick_63 : decode cX9_quick 63 = .ok (.iinc 4 1, 3) := by decide +kernel
theorem dX9_quick_66 : decode cX9_quick 66 = .ok (.goto (-45), 3) := by decide +kernel
theorem dX9_quick_69 : decode cX9_quick 69 = .ok (.iload_n 3, 1) := by decide +kernel
theorem dX9_quick_70 : decode cX9_quick 70 = .ok (.ireturn, 1) := by decide +kernel
theorem dX9_safe_0 : decode cX9_safe 0 = .ok (.aload_n 0, 1) := by decide +kernel
theorem dX9_safe_1 : decode cX9_safe 1 = .ok (.iload_n 1, 1) := by decide +kernel
theorem dX9_safe_2 : decode cX9_safe 2 = .ok (.invokevirtual 164, 3) := by decide +kernel
theorem dX9_safe_5 : decode cX9_safe 5 = .ok (.istore_n 2, 1) := by decide +kernel
theorem dX9_safe_6 : decode cX9_safe 6 = .ok (.iload_n 2, 1) := by decide +kernel
theorem dX9_safe_7 : decode cX9_safe 7 = .ok (.ifCond .eq 9, 3) := by decide +kernel
theorem dX9_safe_10 : decode cX9_safe 10 = .ok (.aload_n 0, 1) := by decide +kernel
theorem dX9_safe_11 : decode cX9_safe 11 = .ok (.iload_n 2, 1) := by decide +kernel
theorem dX9_safe_12 : decode cX9_safe 12 = .ok (.invokevirtual 75, 3) := by decide +kernel
theorem dX9_safe_15 : decode cX9_safe 15 = .ok (.ireturn, 1) := by decide +kernel
theorem dX9_safe_16 : decode cX9_safe 16 = .ok (.iconst (-1), 1) := by decide +kernel
theorem dX9_safe_17 : decode cX9_safe 17 = .ok (.istore_n 3, 1) := by decide +kernel
theorem dX9_safe_18 : decode cX9_safe 18 = .ok (.iconst 0, 1) := by decide +kernel
theorem dX9_safe_19 : decode cX9_safe 19 = .ok (.istore 4, 2) := by decide +kernel
theorem dX9_safe_21 : decode cX9_safe 21 = .ok (.iload 4, 2) := by decide +kernel
theorem dX9_safe_23 : decode cX9_safe 23 = .ok (.iconst 3, 1) := by decide +kernel
theorem dX9_safe_24 : decode cX9_safe 24 = .ok (.if_icmp .ge 45, 3) := by decide +kernel
theorem dX9_safe_27 : decode cX9_safe 27 = .ok (.aload_n 0, 1) := by decide +kernel
theorem dX9_safe_28 : decode cX9_safe 28 = .ok (.iload 4, 2) := by decide +kernel
theorem dX9_safe_30 : decode cX9_safe 30 = .ok (.invokevirtual 88, 3) := by decide +kernel
theorem dX9_safe_33 : decode cX9_safe 33 = .ok (.ifCond .ne 28, 3) := by decide +kernel
theorem dX9_safe_36 : decode cX9_safe 36 = .ok (.iload_n 3, 1) := by decide +kernel
theorem dX9_safe_37 : decode cX9_safe 37 = .ok (.ifCond .lt 19, 3) := by decide +kernel
theorem dX9_safe_40 : decode cX9_safe 40 = .ok (.aload_n 0, 1) := by decide +kernel
theorem dX9_safe_41 : decode cX9_safe 41 = .ok (.iload_n 1, 1) := by decide +kernel
theorem dX9_safe_42 : decode cX9_safe 42 = .ok (.iload 4, 2) := by decide +kernel
theorem dX9_safe_44 : decode cX9_safe 44 = .ok (.invokevirtual 121, 3) := by decide +kernel
theorem dX9_safe_47 : decode cX9_safe 47 = .ok (.aload_n 0, 1) := by decide +kernel
theorem dX9_safe_48 : decode cX9_safe 48 = .ok (.iload_n 1, 1) := by decide +kernel
theorem dX9_safe_49 : decode cX9_safe 49 = .ok (.iload_n 3, 1) := by decide +kernel
theorem dX9_safe_50 : decode cX9_safe 50 = .ok (.invokevirtual 121, 3) := by decide +kernel
theorem dX9_safe_53 : decode cX9_safe 53 = .ok (.if_icmp .le 8, 3) := by decide +kernel
theorem dX9_safe_56 : decode cX9_safe 56 = .ok (.iload 4, 2) := by decide +kernel
theorem dX9_safe_58 : decode cX9_safe 58 = .ok (.goto 4, 3) := by decide +kernel
theorem dX9_safe_61 : decode cX9_safe 61 = .ok (.iload_n 3, 1) := by decide +kernel
theorem dX9_safe_62 : decode cX9_safe 62 = .ok (.istore_n 3, 1) := by decide +kernel
theorem dX9_safe_63 : decode cX9_safe 63 = .ok (.iinc 4 1, 3) := by decide +kernel
theorem dX9_safe_66 : decode cX9_safe 66 = .ok (.goto (-45), 3) := by decide +kernel
theorem dX9_safe_69 : decode cX9_safe 69 = .ok (.iload_n 3, 1) := by decide +kernel
theorem dX9_safe_70 : decode cX9_safe 70 = .ok (.ireturn, 1) := by decide +kernel
theorem dX9_ones_0 : decode cX9_ones 0 = .ok (.iconst 0, 1) := by decide +kernel
theorem dX9_ones_1 : decode cX9_ones 1 = .ok (.istore_n 1, 1) := by decide +kernel
theorem dX9_ones_2 : decode cX9_ones 2 = .ok (.iload_n 0, 1) := by decide +kernel
theorem dX9_ones_3 : decode cX9_ones 3 = .ok (.istore_n 2, 1) := by decide +kernel
theorem dX9_ones_4 : decode cX9_ones 4 = .ok (.iload_n 2, 1) := by decide +kernel
theorem dX9_ones_5 : decode cX9_ones 5 = .ok (.ifCond .eq 15, 3) := by decide +kernel
theorem dX9_ones_8 : decode cX9_ones 8 = .ok (.iinc 1 1, 3) := by decide +kernel
theorem dX9_ones_11 : decode cX9_ones 11 = .ok (.iload_n 2, 1) := by decide +kernel
theorem dX9_ones_12 : decode cX9_ones 12 = .ok (.iload_n 2, 1) := by decide +kernel
theorem dX9_ones_13 : decode cX9_ones 13 = .ok (.iconst 1, 1) := by decide +kernel
theorem dX9_ones_14 : decode cX9_ones 14 = .ok (.isub, 1) := by decide +kernel
theorem dX9_ones_15 : decode cX9_ones 15 = .ok (.iand, 1) := by decide +kernel
theorem dX9_ones_16 : decode cX9_ones 16 = .ok (.istore_n 2, 1) := by decide +kernel
theorem dX9_ones_17 : decode cX9_ones 17 = .ok (.goto (-13), 3) := by decide +kernel
theorem dX9_ones_20 : decode cX9_ones 20 = .ok (.iload_n 1, 1) := by decide +kernel
theorem dX9_ones_21 : decode cX9_ones 21 = .ok (.ireturn, 1) := by decide +kernel
theorem dX9_wrongThree_0 : decode cX9_wrongThree 0 = .ok (.iload_n 1, 1) := by decide +kernel
theorem dX9_wrongThree_1 : decode cX9_wrongThree 1 = .ok (.i2l, 1) := by decide +kernel
theorem dX9_wrongThree_2 : decode cX9_wrongThree 2 = .ok (.lconst 0, 1) := by decide +kernel
theorem dX9_wrongThree_3 : decode cX9_wrongThree 3 = .ok (.iconst 1, 1) := by decide +kernel
theorem dX9_wrongThree_4 : decode cX9_wrongThree 4 = .ok (.aload_n 0, 1) := by decide +kernel
theorem dX9_wrongThree_5 : decode cX9_wrongThree 5 = .ok (.getfield 7, 3) := by decide +kernel
theorem dX9_wrongThree_8 : decode cX9_wrongThree 8 = .ok (.iconst 0, 1) := by decide +kernel
theorem dX9_wrongThree_9 : decode cX9_wrongThree 9 = .ok (.iaload, 1) := by decide +kernel
theorem dX9_wrongThree_10 : decode cX9_wrongThree 10 = .ok (.ishl, 1) := by decide +kernel
theorem dX9_wrongThree_11 : decode cX9_wrongThree 11 = .ok (.iconst 1, 1) := by decide +kernel
theorem dX9_wrongThree_12 : decode cX9_wrongThree 12 = .ok (.isub, 1) := by decide +kernel
theorem dX9_wrongThree_13 : decode cX9_wrongThree 13 = .ok (.i2l, 1) := by decide +kernel
theorem dX9_wrongThree_14 : decode cX9_wrongThree 14 = .ok (.invokestatic 54, 3) := by decide +kernel
theorem dX9_wrongThree_17 : decode cX9_wrongThree 17 = .ok (.ifCond .ne 8, 3) := by decide +kernel
theorem dX9_wrongThree_20 : decode cX9_wrongThree 20 = .ok (.ldc 51, 2) := by decide +kernel
theorem dX9_wrongThree_22 : decode cX9_wrongThree 22 = .ok (.goto 29, 3) := by decide +kernel
theorem dX9_wrongThree_25 : decode cX9_wrongThree 25 = .ok (.iload_n 1, 1) := by decide +kernel
theorem dX9_wrongThree_26 : decode cX9_wrongThree 26 = .ok (.invokestatic 167, 3) := by decide +kernel
theorem dX9_wrongThree_29 : decode cX9_wrongThree 29 = .ok (.iconst 3, 1) := by decide +kernel
theorem dX9_wrongThree_30 : decode cX9_wrongThree 30 = .ok (.if_icmp .eq 8, 3) := by decide +kernel
theorem dX9_wrongThree_33 : decode cX9_wrongThree 33 = .ok (.ldc 170, 2) := by decide +kernel
theorem dX9_wrongThree_35 : decode cX9_wrongThree 35 = .ok (.goto 16, 3) := by decide +kernel
theorem dX9_wrongThree_38 : decode cX9_wrongThree 38 = .ok (.aload_n 0, 1) := by decide +kernel
theorem dX9_wrongThree_39 : decode cX9_wrongThree 39 = .ok (.invokevirtual 147, 3) := by decide +kernel
theorem dX9_wrongThree_42 : decode cX9_wrongThree 42 = .ok (.ifCond .eq 8, 3) := by decide +kernel
theorem dX9_wrongThree_45 : decode cX9_wrongThree 45 = .ok (.ldc 128, 2) := by decide +kernel
theorem dX9_wrongThree_47 : decode cX9_wrongThree 47 = .ok (.goto 4, 3) := by decide +kernel
theorem dX9_wrongThree_50 : decode cX9_wrongThree 50 = .ok (.iconst 0, 1) := by decide +kernel
theorem dX9_wrongThree_51 : decode cX9_wrongThree 51 = .ok (.ireturn, 1) := by decide +kernel
theorem dX9_isWay_0 : decode cX9_isWay 0 = .ok (.iload_n 1, 1) := by decide +kernel
theorem dX9_isWay_1 : decode cX9_isWay 1 = .ok (.istore_n 3, 1) := by decide +kernel
theorem dX9_isWay_2 : decode cX9_isWay 2 = .ok (.bipush 7, 2) := by decide +kernel
theorem dX9_isWay_4 : decode cX9_isWay 4 = .ok (.istore 4, 2) := by decide +kernel
theorem dX9_isWay_6 : decode cX9_isWay 6 = .ok (.iload_n 2, 1) := by decide +kernel
theorem dX9_isWay_7 : decode cX9_isWay 7 = .ok (.istore 5, 2) := by decide +kernel
theorem dX9_isWay_9 : decode cX9_isWay 9 = .ok (.iconst 1, 1) := by decide +kernel
theorem dX9_isWay_10 : decode cX9_isWay 10 = .ok (.istore 6, 2) := by decide +kernel
theorem dX9_isWay_12 : decode cX9_isWay 12 = .ok (.iconst 2, 1) := by decide +kernel
theorem dX9_isWay_13 : decode cX9_isWay 13 = .ok (.istore 7, 2) := by decide +kernel
theorem dX9_isWay_15 : decode cX9_isWay 15 = .ok (.iload 7, 2) := by decide +kernel
theorem dX9_isWay_17 : decode cX9_isWay 17 = .ok (.ifCond .lt 28, 3) := by decide +kernel
theorem dX9_isWay_20 : decode cX9_isWay 20 = .ok (.aload_n 0, 1) := by decide +kernel
theorem dX9_isWay_21 : decode cX9_isWay 21 = .ok (.getfield 25, 3) := by decide +kernel
theorem dX9_isWay_24 : decode cX9_isWay 24 = .ok (.iload 7, 2) := by decide +kernel
theorem dX9_isWay_26 : decode cX9_isWay 26 = .ok (.iload 5, 2) := by decide +kernel
theorem dX9_isWay_28 : decode cX9_isWay 28 = .ok (.bipush 18, 2) := by decide +kernel
theorem dX9_isWay_30 : decode cX9_isWay 30 = .ok (.irem, 1) := by decide +kernel
theorem dX9_isWay_31 : decode cX9_isWay 31 = .ok (.iastore, 1) := by decide +kernel
theorem dX9_isWay_32 : decode cX9_isWay 32 = .ok (.iload 5, 2) := by decide +kernel
theorem dX9_isWay_34 : decode cX9_isWay 34 = .ok (.bipush 18, 2) := by decide +kernel
theorem dX9_isWay_36 : decode cX9_isWay 36 = .ok (.idiv, 1) := by decide +kernel
theorem dX9_isWay_37 : decode cX9_isWay 37 = .ok (.istore 5, 2) := by decide +kernel
theorem dX9_isWay_39 : decode cX9_isWay 39 = .ok (.iinc 7 (-1), 3) := by decide +kernel
theorem dX9_isWay_42 : decode cX9_isWay 42 = .ok (.goto (-27), 3) := by decide +kernel
theorem dX9_isWay_45 : decode cX9_isWay 45 = .ok (.iconst 0, 1) := by decide +kernel
theorem dX9_isWay_46 : decode cX9_isWay 46 = .ok (.istore 7, 2) := by decide +kernel
theorem dX9_isWay_48 : decode cX9_isWay 48 = .ok (.iload 7, 2) := by decide +kernel
theorem dX9_isWay_50 : decode cX9_isWay 50 = .ok (.iconst 3, 1) := by decide +kernel
theorem dX9_isWay_51 : decode cX9_isWay 51 = .ok (.if_icmp .ge 84, 3) := by decide +kernel
theorem dX9_isWay_54 : decode cX9_isWay 54 = .ok (.aload_n 0, 1) := by decide +kernel
theorem dX9_isWay_55 : decode cX9_isWay 55 = .ok (.getfield 25, 3) := by decide +kernel
theorem dX9_isWay_58 : decode cX9_isWay 58 = .ok (.iload 7, 2) := by decide +kernel
theorem dX9_isWay_60 : decode cX9_isWay 60 = .ok (.iaload, 1) := by decide +kernel
theorem dX9_isWay_61 : decode cX9_isWay 61 = .ok (.iconst 3, 1) := by decide +kernel
theorem dX9_isWay_62 : decode cX9_isWay 62 = .ok (.idiv, 1) := by decide +kernel
theorem dX9_isWay_63 : decode cX9_isWay 63 = .ok (.istore 8, 2) := by decide +kernel
theorem dX9_isWay_65 : decode cX9_isWay 65 = .ok (.aload_n 0, 1) := by decide +kernel
theorem dX9_isWay_66 : decode cX9_isWay 66 = .ok (.getfield 25, 3) := by decide +kernel
theorem dX9_isWay_69 : decode cX9_isWay 69 = .ok (.iload 7, 2) := by decide +kernel
theorem dX9_isWay_71 : decode cX9_isWay 71 = .ok (.iaload, 1) := by decide +kernel
theorem dX9_isWay_72 : decode cX9_isWay 72 = .ok (.iconst 3, 1) := by decide +kernel
theorem dX9_isWay_73 : decode cX9_isWay 73 = .ok (.irem, 1) := by decide +kernel
theorem dX9_isWay_74 : decode cX9_isWay 74 = .ok (.istore 9, 2) := by decide +kernel
theorem dX9_isWay_76 : decode cX9_isWay 76 = .ok (.iload 6, 2) := by decide +kernel
theorem dX9_isWay_78 : decode cX9_isWay 78 = .ok (.ifCond .eq 28, 3) := by decide +kernel
theorem dX9_isWay_81 : decode cX9_isWay 81 = .ok (.iload_n 3, 1) := by decide +kernel
theorem dX9_isWay_82 : decode cX9_isWay 82 = .ok (.iload 8, 2) := by decide +kernel
theorem dX9_isWay_84 : decode cX9_isWay 84 = .ok (.ishr, 1) := by decide +kernel
theorem dX9_isWay_85 : decode cX9_isWay 85 = .ok (.iconst 1, 1) := by decide +kernel
theorem dX9_isWay_86 : decode cX9_isWay 86 = .ok (.iand, 1) := by decide +kernel
theorem dX9_isWay_87 : decode cX9_isWay 87 = .ok (.iconst 1, 1) := by decide +kernel
theorem dX9_isWay_88 : decode cX9_isWay 88 = .ok (.if_icmp .ne 18, 3) := by decide +kernel
theorem dX9_isWay_91 : decode cX9_isWay 91 = .ok (.iload 4, 2) := by decide +kernel
theorem dX9_isWay_93 : decode cX9_isWay 93 = .ok (.iload 9, 2) := by decide +kernel
theorem dX9_isWay_95 : decode cX9_isWay 95 = .ok (.ishr, 1) := by decide +kernel
theorem dX9_isWay_96 : decode cX9_isWay 96 = .ok (.iconst 1, 1) := by decide +kernel
theorem dX9_isWay_97 : decode cX9_isWay 97 = .ok (.iand, 1) := by decide +kernel
theorem dX9_isWay_98 : decode cX9_isWay 98 = .ok (.iconst 1, 1) := by decide +kernel
theorem dX9_isWay_99 : decode cX9_isWay 99 = .ok (.if_icmp .ne 7, 3) := by decide +kernel
theorem dX9_isWay_102 : decode cX9_isWay 102 = .ok (.iconst 1, 1) := by decide +kernel
theorem dX9_isWay_103 : decode cX9_isWay 103 = .ok (.goto 4, 3) := by decide +kernel
theorem dX9_isWay_106 : decode cX9_isWay 106 = .ok (.iconst 0, 1) := by decide +kernel
theorem dX9_isWay_107 : decode cX9_isWay 107 = .ok (.istore 6, 2) := by decide +kernel
theorem dX9_isWay_109 : decode cX9_isWay 109 = .ok (.iload_n 3, 1) := by decide +kernel
theorem dX9_isWay_110 : decode cX9_isWay 110 = .ok (.iconst 1, 1) := by decide +kernel
theorem dX9_isWay_111 : decode cX9_isWay 111 = .ok (.iload 8, 2) := by decide +kernel
theorem dX9_isWay_113 : decode cX9_isWay 113 = .ok (.ishl, 1) := by decide +kernel
theorem dX9_isWay_114 : decode cX9_isWay 114 = .ok (.iconst (-1), 1) := by decide +kernel
theorem dX9_isWay_115 : decode cX9_isWay 115 = .ok (.ixor, 1) := by decide +kernel
theorem dX9_isWay_116 : decode cX9_isWay 116 = .ok (.iand, 1) := by decide +kernel
theorem dX9_isWay_117 : decode cX9_isWay 117 = .ok (.istore_n 3, 1) := by decide +kernel
theorem dX9_isWay_118 : decode cX9_isWay 118 = .ok (.iload 4, 2) := by decide +kernel
theorem dX9_isWay_120 : decode cX9_isWay 120 = .ok (.iconst 1, 1) := by decide +kernel
theorem dX9_isWay_121 : decode cX9_isWay 121 = .ok (.iload 9, 2) := by decide +kernel
theorem dX9_isWay_123 : decode cX9_isWay 123 = .ok (.ishl, 1) := by decide +kernel
theorem dX9_isWay_124 : decode cX9_isWay 124 = .ok (.iconst (-1), 1) := by decide +kernel
theorem dX9_isWay_125 : decode cX9_isWay 125 = .ok (.ixor, 1) := by decide +kernel
theorem dX9_isWay_126 : decode cX9_isWay 126 = .ok (.iand, 1) := by decide +kernel
theorem dX9_isWay_127 : decode cX9_isWay 127 = .ok (.istore 4, 2) := by decide +kernel
theorem dX9_isWay_129 : decode cX9_isWay 129 = .ok (.iinc 7 1, 3) := by decide +kernel
theorem dX9_isWay_132 : decode cX9_isWay 132 = .ok (.goto (-84), 3) := by decide +kernel
theorem dX9_isWay_135 : decode cX9_isWay 135 = .ok (.iload 6, 2) := by decide +kernel
theorem dX9_isWay_137 : decode cX9_isWay 137 = .ok (.ireturn, 1) := by decide +kernel
theorem dX9_findWay_0 : decode cX9_findWay 0 = .ok (.aload_n 0, 1) := by decide +kernel
theorem dX9_findWay_1 : decode cX9_findWay 1 = .ok (.iconst (-1), 1) := by decide +kernel
theorem dX9_findWay_2 : decode cX9_findWay 2 = .ok (.putfield 171, 3) := by decide +kernel
theorem dX9_findWay_5 : decode cX9_findWay 5 = .ok (.aload_n 0, 1) := by decide +kernel
theorem dX9_findWay_6 : decode cX9_findWay 6 = .ok (.invokevirtual 154, 3) := by decide +kernel
theorem dX9_findWay_9 : decode cX9_findWay 9 = .ok (.iconst 0, 1) := by decide +kernel
theorem dX9_findWay_10 : decode cX9_findWay 10 = .ok (.istore_n 2, 1) := by decide +kernel
theorem dX9_findWay_11 : decode cX9_findWay 11 = .ok (.iload_n 2, 1) := by decide +kernel
theorem dX9_findWay_12 : decode cX9_findWay 12 = .ok (.sipush 5832, 3) := by decide +kernel
theorem dX9_findWay_15 : decode cX9_findWay 15 = .ok (.if_icmp .ge 139, 3) := by decide +kernel
theorem dX9_findWay_18 : decode cX9_findWay 18 = .ok (.aload_n 0, 1) := by decide +kernel
theorem dX9_findWay_19 : decode cX9_findWay 19 = .ok (.iload_n 1, 1) := by decide +kernel
theorem dX9_findWay_20 : decode cX9_findWay 20 = .ok (.iload_n 2, 1) := by decide +kernel
theorem dX9_findWay_21 : decode cX9_findWay 21 = .ok (.invokevirtual 175, 3) := by decide +kernel
theorem dX9_findWay_24 : decode cX9_findWay 24 = .ok (.ifCond .eq 124, 3) := by decide +kernel
theorem dX9_findWay_27 : decode cX9_findWay 27 = .ok (.iconst 0, 1) := by decide +kernel
theorem dX9_findWay_28 : decode cX9_findWay 28 = .ok (.istore_n 3, 1) := by decide +kernel
theorem dX9_findWay_29 : decode cX9_findWay 29 = .ok (.iconst 0, 1) := by decide +kernel
theorem dX9_findWay_30 : decode cX9_findWay 30 = .ok (.istore 4, 2) := by decide +kernel
theorem dX9_findWay_32 : decode cX9_findWay 32 = .ok (.iload 4, 2) := by decide +kernel
theorem dX9_findWay_34 : decode cX9_findWay 34 = .ok (.iconst 3, 1) := by decide +kernel
theorem dX9_findWay_35 : decode cX9_findWay 35 = .ok (.if_icmp .ge 34, 3) := by decide +kernel
theorem dX9_findWay_38 : decode cX9_findWay 38 = .ok (.iload_n 3, 1) := by decide +kernel
theorem dX9_findWay_39 : decode cX9_findWay 39 = .ok (.aload_n 0, 1) := by decide +kernel
theorem dX9_findWay_40 : decode cX9_findWay 40 = .ok (.aload_n 0, 1) := by decide +kernel
theorem dX9_findWay_41 : decode cX9_findWay 41 = .ok (.getfield 25, 3) := by decide +kernel
theorem dX9_findWay_44 : decode cX9_findWay 44 = .ok (.iload 4, 2) := by decide +kernel
theorem dX9_findWay_46 : decode cX9_findWay 46 = .ok (.iaload, 1) := by decide +kernel
theorem dX9_findWay_47 : decode cX9_findWay 47 = .ok (.iconst 3, 1) := by decide +kernel
theorem dX9_findWay_48 : decode cX9_findWay 48 = .ok (.idiv, 1) := by decide +kernel
theorem dX9_findWay_49 : decode cX9_findWay 49 = .ok (.aload_n 0, 1) := by decide +kernel
theorem dX9_findWay_50 : decode cX9_findWay 50 = .ok (.getfield 25, 3) := by decide +kernel
theorem dX9_findWay_53 : decode cX9_findWay 53 = .ok (.iload 4, 2) := by decide +kernel
theorem dX9_findWay_55 : decode cX9_findWay 55 = .ok (.iaload, 1) := by decide +kernel
theorem dX9_findWay_56 : decode cX9_findWay 56 = .ok (.iconst 3, 1) := by decide +kernel
theorem dX9_findWay_57 : decode cX9_findWay 57 = .ok (.irem, 1) := by decide +kernel
theorem dX9_findWay_58 : decode cX9_findWay 58 = .ok (.invokevirtual 129, 3) := by decide +kernel
theorem dX9_findWay_61 : decode cX9_findWay 61 = .ok (.iadd, 1) := by decide +kernel
theorem dX9_findWay_62 : decode cX9_findWay 62 = .ok (.istore_n 3, 1) := by decide +kernel
theorem dX9_findWay_63 : decode cX9_findWay 63 = .ok (.iinc 4 1, 3) := by decide +kernel
theorem dX9_findWay_66 : decode cX9_findWay 66 = .ok (.goto (-34), 3) := by decide +kernel
theorem dX9_findWay_69 : decode cX9_findWay 69 = .ok (.aload_n 0, 1) := by decide +kernel
theorem dX9_findWay_70 : decode cX9_findWay 70 = .ok (.iload_n 3, 1) := by decide +kernel
theorem dX9_findWay_71 : decode cX9_findWay 71 = .ok (.invokevirtual 157, 3) := by decide +kernel
theorem dX9_findWay_74 : decode cX9_findWay 74 = .ok (.istore_n 3, 1) := by decide +kernel
theorem dX9_findWay_75 : decode cX9_findWay 75 = .ok (.aload_n 0, 1) := by decide +kernel
theorem dX9_findWay_76 : decode cX9_findWay 76 = .ok (.getfield 171, 3) := by decide +kernel
theorem dX9_findWay_79 : decode cX9_findWay 79 = .ok (.ifCond .lt 11, 3) := by decide +kernel
theorem dX9_findWay_82 : decode cX9_findWay 82 = .ok (.iload_n 3, 1) := by decide +kernel
theorem dX9_findWay_83 : decode cX9_findWay 83 = .ok (.aload_n 0, 1) := by decide +kernel
theorem dX9_findWay_84 : decode cX9_findWay 84 = .ok (.getfield 171, 3) := by decide +kernel
theorem dX9_findWay_87 : decode cX9_findWay 87 = .ok (.if_icmp .ge 7, 3) := by decide +kernel
theorem dX9_findWay_90 : decode cX9_findWay 90 = .ok (.iconst 1, 1) := by decide +kernel
theorem dX9_findWay_91 : decode cX9_findWay 91 = .ok (.goto 4, 3) := by decide +kernel
theorem dX9_findWay_94 : decode cX9_findWay 94 = .ok (.iconst 0, 1) := by decide +kernel
theorem dX9_findWay_95 : decode cX9_findWay 95 = .ok (.istore 4, 2) := by decide +kernel
theorem dX9_findWay_97 : decode cX9_findWay 97 = .ok (.aload_n 0, 1) := by decide +kernel
theorem dX9_findWay_98 : decode cX9_findWay 98 = .ok (.iload 4, 2) := by decide +kernel
theorem dX9_findWay_100 : decode cX9_findWay 100 = .ok (.ifCond .eq 7, 3) := by decide +kernel
theorem dX9_findWay_103 : decode cX9_findWay 103 = .ok (.iload_n 3, 1) := by decide +kernel
theorem dX9_findWay_104 : decode cX9_findWay 104 = .ok (.goto 7, 3) := by decide +kernel
theorem dX9_findWay_107 : decode cX9_findWay 107 = .ok (.aload_n 0, 1) := by decide +kernel
theorem dX9_findWay_108 : decode cX9_findWay 108 = .ok (.getfield 171, 3) := by decide +kernel
theorem dX9_findWay_111 : decode cX9_findWay 111 = .ok (.putfield 171, 3) := by decide +kernel
theorem dX9_findWay_114 : decode cX9_findWay 114 = .ok (.iconst 0, 1) := by decide +kernel
theorem dX9_findWay_115 : decode cX9_findWay 115 = .ok (.istore 5, 2) := by decide +kernel
theorem dX9_findWay_117 : decode cX9_findWay 117 = .ok (.iload 5, 2) := by decide +kernel
theorem dX9_findWay_119 : decode cX9_findWay 119 = .ok (.iconst 3, 1) := by decide +kernel
theorem dX9_findWay_120 : decode cX9_findWay 120 = .ok (.if_icmp .ge 28, 3) := by decide +kernel
theorem dX9_findWay_123 : decode cX9_findWay 123 = .ok (.iload 4, 2) := by decide +kernel
theorem dX9_findWay_125 : decode cX9_findWay 125 = .ok (.ifCond .eq 23, 3) := by decide +kernel
theorem dX9_findWay_128 : decode cX9_findWay 128 = .ok (.aload_n 0, 1) := by decide +kernel
theorem dX9_findWay_129 : decode cX9_findWay 129 = .ok (.getfield 28, 3) := by decide +kernel
theorem dX9_findWay_132 : decode cX9_findWay 132 = .ok (.iload 5, 2) := by decide +kernel
theorem dX9_findWay_134 : decode cX9_findWay 134 = .ok (.aload_n 0, 1) := by decide +kernel
theorem dX9_findWay_135 : decode cX9_findWay 135 = .ok (.getfield 25, 3) := by decide +kernel
theorem dX9_findWay_138 : decode cX9_findWay 138 = .ok (.iload 5, 2) := by decide +kernel
theorem dX9_findWay_140 : decode cX9_findWay 140 = .ok (.iaload, 1) := by decide +kernel
theorem dX9_findWay_141 : decode cX9_findWay 141 = .ok (.iastore, 1) := by decide +kernel
theorem dX9_findWay_142 : decode cX9_findWay 142 = .ok (.iinc 5 1, 3) := by decide +kernel
theorem dX9_findWay_145 : decode cX9_findWay 145 = .ok (.goto (-28), 3) := by decide +kernel
theorem dX9_findWay_148 : decode cX9_findWay 148 = .ok (.iinc 2 1, 3) := by decide +kernel
theorem dX9_findWay_151 : decode cX9_findWay 151 = .ok (.goto (-140), 3) := by decide +kernel
theorem dX9_findWay_154 : decode cX9_findWay 154 = .ok (.return_, 1) := by decide +kernel
theorem dX9_all_0 : decode cX9_all 0 = .ok (.aload_n 0, 1) := by decide +kernel
theorem dX9_all_1 : decode cX9_all 1 = .ok (.iload_n 1, 1) := by decide +kernel
theorem dX9_all_2 : decode cX9_all 2 = .ok (.invokevirtual 178, 3) := by decide +kernel
theorem dX9_all_5 : decode cX9_all 5 = .ok (.istore_n 2, 1) := by decide +kernel
theorem dX9_all_6 : decode cX9_all 6 = .ok (.iload_n 2, 1) := by decide +kernel
theorem dX9_all_7 : decode cX9_all 7 = .ok (.ifCond .eq 9, 3) := by decide +kernel
theorem dX9_all_10 : decode cX9_all 10 = .ok (.aload_n 0, 1) := by decide +kernel
theorem dX9_all_11 : decode cX9_all 11 = .ok (.iload_n 2, 1) := by decide +kernel
theorem dX9_all_12 : decode cX9_all 12 = .ok (.invokevirtual 75, 3) := by decide +kernel
theorem dX9_all_15 : decode cX9_all 15 = .ok (.ireturn, 1) := by decide +kernel
theorem dX9_all_16 : decode cX9_all 16 = .ok (.aload_n 0, 1) := by decide +kernel
theorem dX9_all_17 : decode cX9_all 17 = .ok (.iload_n 1, 1) := by decide +kernel
theorem dX9_all_18 : decode cX9_all 18 = .ok (.invokevirtual 181, 3) := by decide +kernel
theorem dX9_all_21 : decode cX9_all 21 = .ok (.aload_n 0, 1) := by decide +kernel
theorem dX9_all_22 : decode cX9_all 22 = .ok (.getfield 171, 3) := by decide +kernel
theorem dX9_all_25 : decode cX9_all 25 = .ok (.ireturn, 1) := by decide +kernel
theorem dX9_way_0 : decode cX9_way 0 = .ok (.iload_n 2, 1) := by decide +kernel
theorem dX9_way_1 : decode cX9_way 1 = .ok (.i2l, 1) := by decide +kernel
theorem dX9_way_2 : decode cX9_way 2 = .ok (.lconst 0, 1) := by decide +kernel
theorem dX9_way_3 : decode cX9_way 3 = .ok (.ldc2_w 52, 3) := by decide +kernel
theorem dX9_way_6 : decode cX9_way 6 = .ok (.invokestatic 54, 3) := by decide +kernel
theorem dX9_way_9 : decode cX9_way 9 = .ok (.ifCond .eq 11, 3) := by decide +kernel
theorem dX9_way_12 : decode cX9_way 12 = .ok (.aload_n 0, 1) := by decide +kernel
theorem dX9_way_13 : decode cX9_way 13 = .ok (.iload_n 1, 1) := by decide +kernel
theorem dX9_way_14 : decode cX9_way 14 = .ok (.invokevirtual 178, 3) := by decide +kernel
theorem dX9_way_17 : decode cX9_way 17 = .ok (.goto 5, 3) := by decide +kernel
theorem dX9_way_20 : decode cX9_way 20 = .ok (.ldc 51, 2) := by decide +kernel
theorem dX9_way_22 : decode cX9_way 22 = .ok (.istore_n 3, 1) := by decide +kernel
theorem dX9_way_23 : decode cX9_way 23 = .ok (.iload_n 3, 1) := by decide +kernel
theorem dX9_way_24 : decode cX9_way 24 = .ok (.ifCond .eq 9, 3) := by decide +kernel
theorem dX9_way_27 : decode cX9_way 27 = .ok (.aload_n 0, 1) := by decide +kernel
theorem dX9_way_28 : decode cX9_way 28 = .ok (.iload_n 3, 1) := by decide +kernel
theorem dX9_way_29 : decode cX9_way 29 = .ok (.invokevirtual 75, 3) := by decide +kernel
theorem dX9_way_32 : decode cX9_way 32 = .ok (.ireturn, 1) := by decide +kernel
theorem dX9_way_33 : decode cX9_way 33 = .ok (.aload_n 0, 1) := by decide +kernel
theorem dX9_way_34 : decode cX9_way 34 = .ok (.iload_n 1, 1) := by decide +kernel
theorem dX9_way_35 : decode cX9_way 35 = .ok (.invokevirtual 181, 3) := by decide +kernel
theorem dX9_way_38 : decode cX9_way 38 = .ok (.bipush 10, 2) := by decide +kernel
theorem dX9_way_40 : decode cX9_way 40 = .ok (.aload_n 0, 1) := by decide +kernel
theorem dX9_way_41 : decode cX9_way 41 = .ok (.getfield 28, 3) := by decide +kernel
theorem dX9_way_44 : decode cX9_way 44 = .ok (.iload_n 2, 1) := by decide +kernel
theorem dX9_way_45 : decode cX9_way 45 = .ok (.iaload, 1) := by decide +kernel
theorem dX9_way_46 : decode cX9_way 46 = .ok (.iconst 3, 1) := by decide +kernel
theorem dX9_way_47 : decode cX9_way 47 = .ok (.idiv, 1) := by decide +kernel
theorem dX9_way_48 : decode cX9_way 48 = .ok (.imul, 1) := by decide +kernel
theorem dX9_way_49 : decode cX9_way 49 = .ok (.aload_n 0, 1) := by decide +kernel
theorem dX9_way_50 : decode cX9_way 50 = .ok (.getfield 28, 3) := by decide +kernel
theorem dX9_way_53 : decode cX9_way 53 = .ok (.iload_n 2, 1) := by decide +kernel
theorem dX9_way_54 : decode cX9_way 54 = .ok (.iaload, 1) := by decide +kernel
theorem dX9_way_55 : decode cX9_way 55 = .ok (.iconst 3, 1) := by decide +kernel
theorem dX9_way_56 : decode cX9_way 56 = .ok (.irem, 1) := by decide +kernel
theorem dX9_way_57 : decode cX9_way 57 = .ok (.iadd, 1) := by decide +kernel
theorem dX9_way_58 : decode cX9_way 58 = .ok (.ireturn, 1) := by decide +kernel
theorem dX9_kind_0 : decode cX9_kind 0 = .ok (.aload_n 0, 1) := by decide +kernel
theorem dX9_kind_1 : decode cX9_kind 1 = .ok (.iload_n 1, 1) := by decide +kernel
theorem dX9_kind_2 : decode cX9_kind 2 = .ok (.invokevirtual 100, 3) := by decide +kernel
theorem dX9_kind_5 : decode cX9_kind 5 = .ok (.ifCond .eq 10, 3) := by decide +kernel
theorem dX9_kind_8 : decode cX9_kind 8 = .ok (.iload_n 2, 1) := by decide +kernel
theorem dX9_kind_9 : decode cX9_kind 9 = .ok (.invokestatic 68, 3) := by decide +kernel
theorem dX9_kind_12 : decode cX9_kind 12 = .ok (.ifCond .ne 10, 3) := by decide +kernel
theorem dX9_kind_15 : decode cX9_kind 15 = .ok (.aload_n 0, 1) := by decide +kernel
theorem dX9_kind_16 : decode cX9_kind 16 = .ok (.ldc 51, 2) := by decide +kernel
theorem dX9_kind_18 : decode cX9_kind 18 = .ok (.invokevirtual 75, 3) := by decide +kernel
theorem dX9_kind_21 : decode cX9_kind 21 = .ok (.ireturn, 1) := by decide +kernel
theorem dX9_kind_22 : decode cX9_kind 22 = .ok (.aload_n 0, 1) := by decide +kernel
theorem dX9_kind_23 : decode cX9_kind 23 = .ok (.iload_n 1, 1) := by decide +kernel
theorem dX9_kind_24 : decode cX9_kind 24 = .ok (.iconst 0, 1) := by decide +kernel
theorem dX9_kind_25 : decode cX9_kind 25 = .ok (.invokevirtual 94, 3) := by decide +kernel
theorem dX9_kind_28 : decode cX9_kind 28 = .ok (.istore_n 3, 1) := by decide +kernel
theorem dX9_kind_29 : decode cX9_kind 29 = .ok (.iconst 0, 1) := by decide +kernel
theorem dX9_kind_30 : decode cX9_kind 30 = .ok (.istore 4, 2) := by decide +kernel
theorem dX9_kind_32 : decode cX9_kind 32 = .ok (.ldc 124, 2) := by decide +kernel
theorem dX9_kind_34 : decode cX9_kind 34 = .ok (.istore 5, 2) := by decide +kernel
theorem dX9_kind_36 : decode cX9_kind 36 = .ok (.iconst 0, 1) := by decide +kernel
theorem dX9_kind_37 : decode cX9_kind 37 = .ok (.istore 6, 2) := by decide +kernel
theorem dX9_kind_39 : decode cX9_kind 39 = .ok (.iload 6, 2) := by decide +kernel
theorem dX9_kind_41 : decode cX9_kind 41 = .ok (.iconst 5, 1) := by decide +kernel
theorem dX9_kind_42 : decode cX9_kind 42 = .ok (.if_icmp .gt 61, 3) := by decide +kernel
theorem dX9_kind_45 : decode cX9_kind 45 = .ok (.aload_n 0, 1) := by decide +kernel
theorem dX9_kind_46 : decode cX9_kind 46 = .ok (.getfield 7, 3) := by decide +kernel
theorem dX9_kind_49 : decode cX9_kind 49 = .ok (.iload_n 1, 1) := by decide +kernel
theorem dX9_kind_50 : decode cX9_kind 50 = .ok (.iconst 0, 1) := by decide +kernel
theorem dX9_kind_51 : decode cX9_kind 51 = .ok (.invokestatic 60, 3) := by decide +kernel
theorem dX9_kind_54 : decode cX9_kind 54 = .ok (.iload 6, 2) := by decide +kernel
theorem dX9_kind_56 : decode cX9_kind 56 = .ok (.iastore, 1) := by decide +kernel
theorem dX9_kind_57 : decode cX9_kind 57 = .ok (.aload_n 0, 1) := by decide +kernel
theorem dX9_kind_58 : decode cX9_kind 58 = .ok (.iload_n 1, 1) := by decide +kernel
theorem dX9_kind_59 : decode cX9_kind 59 = .ok (.iload_n 2, 1) := by decide +kernel
theorem dX9_kind_60 : decode cX9_kind 60 = .ok (.invokevirtual 118, 3) := by decide +kernel
theorem dX9_kind_63 : decode cX9_kind 63 = .ok (.istore 7, 2) := by decide +kernel
theorem dX9_kind_65 : decode cX9_kind 65 = .ok (.iload 7, 2) := by decide +kernel
theorem dX9_kind_67 : decode cX9_kind 67 = .ok (.iload 5, 2) := by decide +kernel
theorem dX9_kind_69 : decode cX9_kind 69 = .ok (.if_icmp .ge 8, 3) := by decide +kernel
theorem dX9_kind_72 : decode cX9_kind 72 = .ok (.iload 6, 2) := by decide +kernel
theorem dX9_kind_74 : decode cX9_kind 74 = .ok (.goto 5, 3) := by decide +kernel
theorem dX9_kind_77 : decode cX9_kind 77 = .ok (.iload 4, 2) := by decide +kernel
theorem dX9_kind_79 : decode cX9_kind 79 = .ok (.istore 4, 2) := by decide +kernel
theorem dX9_kind_81 : decode cX9_kind 81 = .ok (.iload 7, 2) := by decide +kernel
theorem dX9_kind_83 : decode cX9_kind 83 = .ok (.iload 5, 2) := by decide +kernel
theorem dX9_kind_85 : decode cX9_kind 85 = .ok (.if_icmp .ge 8, 3) := by decide +kernel
theorem dX9_kind_88 : decode cX9_kind 88 = .ok (.iload 7, 2) := by decide +kernel
theorem dX9_kind_90 : decode cX9_kind 90 = .ok (.goto 5, 3) := by decide +kernel
theorem dX9_kind_93 : decode cX9_kind 93 = .ok (.iload 5, 2) := by decide +kernel
theorem dX9_kind_95 : decode cX9_kind 95 = .ok (.istore 5, 2) := by decide +kernel
theorem dX9_kind_97 : decode cX9_kind 97 = .ok (.iinc 6 1, 3) := by decide +kernel
theorem dX9_kind_100 : decode cX9_kind 100 = .ok (.goto (-61), 3) := by decide +kernel
theorem dX9_kind_103 : decode cX9_kind 103 = .ok (.aload_n 0, 1) := by decide +kernel
theorem dX9_kind_104 : decode cX9_kind 104 = .ok (.getfield 7, 3) := by decide +kernel
theorem dX9_kind_107 : decode cX9_kind 107 = .ok (.iload_n 1, 1) := by decide +kernel
theorem dX9_kind_108 : decode cX9_kind 108 = .ok (.iconst 0, 1) := by decide +kernel
theorem dX9_kind_109 : decode cX9_kind 109 = .ok (.invokestatic 60, 3) := by decide +kernel
theorem dX9_kind_112 : decode cX9_kind 112 = .ok (.iload_n 3, 1) := by decide +kernel
theorem dX9_kind_113 : decode cX9_kind 113 = .ok (.iastore, 1) := by decide +kernel
theorem dX9_kind_114 : decode cX9_kind 114 = .ok (.iload 4, 2) := by decide +kernel
theorem dX9_kind_116 : decode cX9_kind 116 = .ok (.ireturn, 1) := by decide +kernel
theorem dX9_wrongStay_0 : decode cX9_wrongStay 0 = .ok (.aload_n 0, 1) := by decide +kernel
theorem dX9_wrongStay_1 : decode cX9_wrongStay 1 = .ok (.iload_n 1, 1) := by decide +kernel
theorem dX9_wrongStay_2 : decode cX9_wrongStay 2 = .ok (.invokevirtual 100, 3) := by decide +kernel
theorem dX9_wrongStay_5 : decode cX9_wrongStay 5 = .ok (.ifCond .eq 15, 3) := by decide +kernel
theorem dX9_wrongStay_8 : decode cX9_wrongStay 8 = .ok (.iload_n 2, 1) := by decide +kernel
theorem dX9_wrongStay_9 : decode cX9_wrongStay 9 = .ok (.i2l, 1) := by decide +kernel
theorem dX9_wrongStay_10 : decode cX9_wrongStay 10 = .ok (.lconst 1, 1) := by decide +kernel
theorem dX9_wrongStay_11 : decode cX9_wrongStay 11 = .ok (.ldc2_w 142, 3) := by decide +kernel
theorem dX9_wrongStay_14 : decode cX9_wrongStay 14 = .ok (.invokestatic 54, 3) := by decide +kernel
theorem dX9_wrongStay_17 : decode cX9_wrongStay 17 = .ok (.ifCond .ne 8, 3) := by decide +kernel
theorem dX9_wrongStay_20 : decode cX9_wrongStay 20 = .ok (.ldc 51, 2) := by decide +kernel
theorem dX9_wrongStay_22 : decode cX9_wrongStay 22 = .ok (.goto 17, 3) := by decide +kernel
theorem dX9_wrongStay_25 : decode cX9_wrongStay 25 = .ok (.aload_n 0, 1) := by decide +kernel
theorem dX9_wrongStay_26 : decode cX9_wrongStay 26 = .ok (.iload_n 1, 1) := by decide +kernel
theorem dX9_wrongStay_27 : decode cX9_wrongStay 27 = .ok (.invokevirtual 91, 3) := by decide +kernel
theorem dX9_wrongStay_30 : decode cX9_wrongStay 30 = .ok (.ifCond .ge 8, 3) := by decide +kernel
theorem dX9_wrongStay_33 : decode cX9_wrongStay 33 = .ok (.ldc 128, 2) := by decide +kernel
theorem dX9_wrongStay_35 : decode cX9_wrongStay 35 = .ok (.goto 4, 3) := by decide +kernel
theorem dX9_wrongStay_38 : decode cX9_wrongStay 38 = .ok (.iconst 0, 1) := by decide +kernel
theorem dX9_wrongStay_39 : decode cX9_wrongStay 39 = .ok (.ireturn, 1) := by decide +kernel
theorem dX9_isInStill_0 : decode cX9_isInStill 0 = .ok (.aload_n 0, 1) := by decide +kernel
theorem dX9_isInStill_1 : decode cX9_isInStill 1 = .ok (.invokevirtual 154, 3) := by decide +kernel
theorem dX9_isInStill_4 : decode cX9_isInStill 4 = .ok (.aload_n 0, 1) := by decide +kernel
theorem dX9_isInStill_5 : decode cX9_isInStill 5 = .ok (.iload_n 2, 1) := by decide +kernel
theorem dX9_isInStill_6 : decode cX9_isInStill 6 = .ok (.invokevirtual 144, 3) := by decide +kernel
theorem dX9_isInStill_9 : decode cX9_isInStill 9 = .ok (.aload_n 0, 1) := by decide +kernel
theorem dX9_isInStill_10 : decode cX9_isInStill 10 = .ok (.aload_n 0, 1) := by decide +kernel
theorem dX9_isInStill_11 : decode cX9_isInStill 11 = .ok (.iload_n 1, 1) := by decide +kernel
theorem dX9_isInStill_12 : decode cX9_isInStill 12 = .ok (.invokevirtual 91, 3) := by decide +kernel
theorem dX9_isInStill_15 : decode cX9_isInStill 15 = .ok (.ifCond .lt 7, 3) := by decide +kernel
theorem dX9_isInStill_18 : decode cX9_isInStill 18 = .ok (.iconst 1, 1) := by decide +kernel
theorem dX9_isInStill_19 : decode cX9_isInStill 19 = .ok (.goto 4, 3) := by decide +kernel
theorem dX9_isInStill_22 : decode cX9_isInStill 22 = .ok (.iconst 0, 1) := by decide +kernel
theorem dX9_isInStill_23 : decode cX9_isInStill 23 = .ok (.invokevirtual 157, 3) := by decide +kernel
theorem dX9_isInStill_26 : decode cX9_isInStill 26 = .ok (.iconst 1, 1) := by decide +kernel
theorem dX9_isInStill_27 : decode cX9_isInStill 27 = .ok (.if_icmp .ne 7, 3) := by decide +kernel
theorem dX9_isInStill_30 : decode cX9_isInStill 30 = .ok (.iconst 1, 1) := by decide +kernel
theorem dX9_isInStill_31 : decode cX9_isInStill 31 = .ok (.goto 4, 3) := by decide +kernel
theorem dX9_isInStill_34 : decode cX9_isInStill 34 = .ok (.iconst 0, 1) := by decide +kernel
theorem dX9_isInStill_35 : decode cX9_isInStill 35 = .ok (.ireturn, 1) := by decide +kernel
theorem dX9_bribes_0 : decode cX9_bribes 0 = .ok (.aload_n 0, 1) := by decide +kernel
theorem dX9_bribes_1 : decode cX9_bribes 1 = .ok (.iload_n 1, 1) := by decide +kernel
theorem dX9_bribes_2 : decode cX9_bribes 2 = .ok (.iload_n 2, 1) := by decide +kernel
theorem dX9_bribes_3 : decode cX9_bribes 3 = .ok (.invokevirtual 184, 3) := by decide +kernel
theorem dX9_bribes_6 : decode cX9_bribes 6 = .ok (.istore_n 3, 1) := by decide +kernel
theorem dX9_bribes_7 : decode cX9_bribes 7 = .ok (.iload_n 3, 1) := by decide +kernel
theorem dX9_bribes_8 : decode cX9_bribes 8 = .ok (.ifCond .eq 9, 3) := by decide +kernel
theorem dX9_bribes_11 : decode cX9_bribes 11 = .ok (.aload_n 0, 1) := by decide +kernel
theorem dX9_bribes_12 : decode cX9_bribes 12 = .ok (.iload_n 3, 1) := by decide +kernel
theorem dX9_bribes_13 : decode cX9_bribes 13 = .ok (.invokevirtual 75, 3) := by decide +kernel
theorem dX9_bribes_16 : decode cX9_bribes 16 = .ok (.ireturn, 1) := by decide +kernel
theorem dX9_bribes_17 : decode cX9_bribes 17 = .ok (.aload_n 0, 1) := by decide +kernel
theorem dX9_bribes_18 : decode cX9_bribes 18 = .ok (.iload_n 1, 1) := by decide +kernel
theorem dX9_bribes_19 : decode cX9_bribes 19 = .ok (.invokevirtual 91, 3) := by decide +kernel
theorem dX9_bribes_22 : decode cX9_bribes 22 = .ok (.istore 4, 2) := by decide +kernel
theorem dX9_bribes_24 : decode cX9_bribes 24 = .ok (.aload_n 0, 1) := by decide +kernel
theorem dX9_bribes_25 : decode cX9_bribes 25 = .ok (.iload_n 1, 1) := by decide +kernel
theorem dX9_bribes_26 : decode cX9_bribes 26 = .ok (.iconst 2, 1) := by decide +kernel
theorem dX9_bribes_27 : decode cX9_bribes 27 = .ok (.invokevirtual 94, 3) := by decide +kernel
theorem dX9_bribes_30 : decode cX9_bribes 30 = .ok (.istore 5, 2) := by decide +kernel
theorem dX9_bribes_32 : decode cX9_bribes 32 = .ok (.aload_n 0, 1) := by decide +kernel
theorem dX9_bribes_33 : decode cX9_bribes 33 = .ok (.iload 4, 2) := by decide +kernel
theorem dX9_bribes_35 : decode cX9_bribes 35 = .ok (.iconst 1, 1) := by decide +kernel
theorem dX9_bribes_36 : decode cX9_bribes 36 = .ok (.invokevirtual 63, 3) := by decide +kernel
theorem dX9_bribes_39 : decode cX9_bribes 39 = .ok (.istore 6, 2) := by decide +kernel
theorem dX9_bribes_41 : decode cX9_bribes 41 = .ok (.iconst (-1), 1) := by decide +kernel
theorem dX9_bribes_42 : decode cX9_bribes 42 = .ok (.istore 7, 2) := by decide +kernel
theorem dX9_bribes_44 : decode cX9_bribes 44 = .ok (.iconst 0, 1) := by decide +kernel
theorem dX9_bribes_45 : decode cX9_bribes 45 = .ok (.istore 8, 2) := by decide +kernel
theorem dX9_bribes_47 : decode cX9_bribes 47 = .ok (.iload 8, 2) := by decide +kernel
theorem dX9_bribes_49 : decode cX9_bribes 49 = .ok (.bipush 9, 2) := by decide +kernel
theorem dX9_bribes_51 : decode cX9_bribes 51 = .ok (.if_icmp .gt 36, 3) := by decide +kernel
theorem dX9_bribes_54 : decode cX9_bribes 54 = .ok (.iload 7, 2) := by decide +kernel
theorem dX9_bribes_56 : decode cX9_bribes 56 = .ok (.ifCond .ge 31, 3) := by decide +kernel
theorem dX9_bribes_59 : decode cX9_bribes 59 = .ok (.aload_n 0, 1) := by decide +kernel
theorem dX9_bribes_60 : decode cX9_bribes 60 = .ok (.iload_n 1, 1) := by decide +kernel
theorem dX9_bribes_61 : decode cX9_bribes 61 = .ok (.iload_n 2, 1) := by decide +kernel
theorem dX9_bribes_62 : decode cX9_bribes 62 = .ok (.invokevirtual 187, 3) := by decide +kernel
theorem dX9_bribes_65 : decode cX9_bribes 65 = .ok (.ifCond .eq 8, 3) := by decide +kernel
theorem dX9_bribes_68 : decode cX9_bribes 68 = .ok (.iload 8, 2) := by decide +kernel
theorem dX9_bribes_70 : decode cX9_bribes 70 = .ok (.goto 4, 3) := by decide +kernel
theorem dX9_bribes_73 : decode cX9_bribes 73 = .ok (.iconst (-1), 1) := by decide +kernel
theorem dX9_bribes_74 : decode cX9_bribes 74 = .ok (.istore 7, 2) := by decide +kernel
theorem dX9_bribes_76 : decode cX9_bribes 76 = .ok (.aload_n 0, 1) := by decide +kernel
theorem dX9_bribes_77 : decode cX9_bribes 77 = .ok (.iload_n 1, 1) := by decide +kernel
theorem dX9_bribes_78 : decode cX9_bribes 78 = .ok (.invokevirtual 136, 3) := by decide +kernel
theorem dX9_bribes_81 : decode cX9_bribes 81 = .ok (.iinc 8 1, 3) := by decide +kernel
theorem dX9_bribes_84 : decode cX9_bribes 84 = .ok (.goto (-37), 3) := by decide +kernel
theorem dX9_bribes_87 : decode cX9_bribes 87 = .ok (.aload_n 0, 1) := by decide +kernel
theorem dX9_bribes_88 : decode cX9_bribes 88 = .ok (.getfield 7, 3) := by decide +kernel
theorem dX9_bribes_91 : decode cX9_bribes 91 = .ok (.iload_n 1, 1) := by decide +kernel
theorem dX9_bribes_92 : decode cX9_bribes 92 = .ok (.iconst 2, 1) := by decide +kernel
theorem dX9_bribes_93 : decode cX9_bribes 93 = .ok (.invokestatic 60, 3) := by decide +kernel
theorem dX9_bribes_96 : decode cX9_bribes 96 = .ok (.iload 5, 2) := by decide +kernel
theorem dX9_bribes_98 : decode cX9_bribes 98 = .ok (.iastore, 1) := by decide +kernel
theorem dX9_bribes_99 : decode cX9_bribes 99 = .ok (.aload_n 0, 1) := by decide +kernel
theorem dX9_bribes_100 : decode cX9_bribes 100 = .ok (.getfield 7, 3) := by decide +kernel
theorem dX9_bribes_103 : decode cX9_bribes 103 = .ok (.iload 4, 2) := by decide +kernel
theorem dX9_bribes_105 : decode cX9_bribes 105 = .ok (.iconst 1, 1) := by decide +kernel
theorem dX9_bribes_106 : decode cX9_bribes 106 = .ok (.invokestatic 47, 3) := by decide +kernel
theorem dX9_bribes_109 : decode cX9_bribes 109 = .ok (.iload 6, 2) := by decide +kernel
theorem dX9_bribes_111 : decode cX9_bribes 111 = .ok (.iastore, 1) := by decide +kernel
theorem dX9_bribes_112 : decode cX9_bribes 112 = .ok (.iload 7, 2) := by decide +kernel
theorem dX9_bribes_114 : decode cX9_bribes 114 = .ok (.ifCond .ge 12, 3) := by decide +kernel
theorem dX9_bribes_117 : decode cX9_bribes 117 = .ok (.aload_n 0, 1) := by decide +kernel
theorem dX9_bribes_118 : decode cX9_bribes 118 = .ok (.ldc 163, 2) := by decide +kernel
theorem dX9_bribes_120 : decode cX9_bribes 120 = .ok (.invokevirtual 75, 3) := by decide +kernel
theorem dX9_bribes_123 : decode cX9_bribes 123 = .ok (.goto 5, 3) := by decide +kernel
theorem dX9_bribes_126 : decode cX9_bribes 126 = .ok (.iload 7, 2) := by decide +kernel
theorem dX9_bribes_128 : decode cX9_bribes 128 = .ok (.ireturn, 1) := by decide +kernel
theorem dX9_coat_0 : decode cX9_coat 0 = .ok (.aload_n 0, 1) := by decide +kernel
theorem dX9_coat_1 : decode cX9_coat 1 = .ok (.iload_n 1, 1) := by decide +kernel
theorem dX9_coat_2 : decode cX9_coat 2 = .ok (.invokevirtual 100, 3) := by decide +kernel
theorem dX9_coat_5 : decode cX9_coat 5 = .ok (.ifCond .eq 32, 3) := by decide +kernel
theorem dX9_coat_8 : decode cX9_coat 8 = .ok (.iload_n 2, 1) := by decide +kernel
theorem dX9_coat_9 : decode cX9_coat 9 = .ok (.invokestatic 68, 3) := by decide +kernel
theorem dX9_coat_12 : decode cX9_coat 12 = .ok (.ifCond .eq 25, 3) := by decide +kernel
theorem dX9_coat_15 : decode cX9_coat 15 = .ok (.sipush 1000, 3) := by decide +kernel
theorem dX9_coat_18 : decode cX9_coat 18 = .ok (.iconst 4, 1) := by decide +kernel
theorem dX9_coat_19 : decode cX9_coat 19 = .ok (.aload_n 0, 1) := by decide +kernel
theorem dX9_coat_20 : decode cX9_coat 20 = .ok (.iload_n 1, 1) := by decide +kernel
theorem dX9_coat_21 : decode cX9_coat 21 = .ok (.iconst 3, 1) := by decide +kernel
theorem dX9_coat_22 : decode cX9_coat 22 = .ok (.invokevirtual 94, 3) := by decide +kernel
theorem dX9_coat_25 : decode cX9_coat 25 = .ok (.imul, 1) := by decide +kernel
theorem dX9_coat_26 : decode cX9_coat 26 = .ok (.iadd, 1) := by decide +kernel
theorem dX9_coat_27 : decode cX9_coat 27 = .ok (.aload_n 0, 1) := by decide +kernel
theorem dX9_coat_28 : decode cX9_coat 28 = .ok (.getfield 7, 3) := by decide +kernel
theorem dX9_coat_31 : decode cX9_coat 31 = .ok (.iconst 3, 1) := by decide +kernel
theorem dX9_coat_32 : decode cX9_coat 32 = .ok (.iaload, 1) := by decide +kernel
theorem dX9_coat_33 : decode cX9_coat 33 = .ok (.isub, 1) := by decide +kernel
theorem dX9_coat_34 : decode cX9_coat 34 = .ok (.goto 9, 3) := by decide +kernel
theorem dX9_coat_37 : decode cX9_coat 37 = .ok (.aload_n 0, 1) := by decide +kernel
theorem dX9_coat_38 : decode cX9_coat 38 = .ok (.ldc 51, 2) := by decide +kernel
theorem dX9_coat_40 : decode cX9_coat 40 = .ok (.invokevirtual 75, 3) := by decide +kernel
theorem dX9_coat_43 : decode cX9_coat 43 = .ok (.ireturn, 1) := by decide +kernel
theorem dX9_mood_0 : decode cX9_mood 0 = .ok (.aload_n 0, 1) := by decide +kernel
theorem dX9_mood_1 : decode cX9_mood 1 = .ok (.iload_n 1, 1) := by decide +kernel
theorem dX9_mood_2 : decode cX9_mood 2 = .ok (.iload_n 2, 1) := by decide +kernel
theorem dX9_mood_3 : decode cX9_mood 3 = .ok (.invokevirtual 184, 3) := by decide +kernel
theorem dX9_mood_6 : decode cX9_mood 6 = .ok (.istore_n 3, 1) := by decide +kernel
theorem dX9_mood_7 : decode cX9_mood 7 = .ok (.iload_n 3, 1) := by decide +kernel
theorem dX9_mood_8 : decode cX9_mood 8 = .ok (.ifCond .eq 9, 3) := by decide +kernel
theorem dX9_mood_11 : decode cX9_mood 11 = .ok (.aload_n 0, 1) := by decide +kernel
theorem dX9_mood_12 : decode cX9_mood 12 = .ok (.iload_n 3, 1) := by decide +kernel
theorem dX9_mood_13 : decode cX9_mood 13 = .ok (.invokevirtual 75, 3) := by decide +kernel
theorem dX9_mood_16 : decode cX9_mood 16 = .ok (.ireturn, 1) := by decide +kernel
theorem dX9_mood_17 : decode cX9_mood 17 = .ok (.aload_n 0, 1) := by decide +kernel
theorem dX9_mood_18 : decode cX9_mood 18 = .ok (.iload_n 1, 1) := by decide +kernel
theorem dX9_mood_19 : decode cX9_mood 19 = .ok (.iconst 2, 1) := by decide +kernel
theorem dX9_mood_20 : decode cX9_mood 20 = .ok (.invokevirtual 94, 3) := by decide +kernel
theorem dX9_mood_23 : decode cX9_mood 23 = .ok (.istore 4, 2) := by decide +kernel
theorem dX9_mood_25 : decode cX9_mood 25 = .ok (.iconst (-1), 1) := by decide +kernel
theorem dX9_mood_26 : decode cX9_mood 26 = .ok (.istore 5, 2) := by decide +kernel
theorem dX9_mood_28 : decode cX9_mood 28 = .ok (.iconst 0, 1) := by decide +kernel
theorem dX9_mood_29 : decode cX9_mood 29 = .ok (.istore 6, 2) := by decide +kernel
theorem dX9_mood_31 : decode cX9_mood 31 = .ok (.iload 6, 2) := by decide +kernel
theorem dX9_mood_33 : decode cX9_mood 33 = .ok (.bipush 9, 2) := by decide +kernel
theorem dX9_mood_35 : decode cX9_mood 35 = .ok (.if_icmp .gt 43, 3) := by decide +kernel
theorem dX9_mood_38 : decode cX9_mood 38 = .ok (.iload 5, 2) := by decide +kernel
theorem dX9_mood_40 : decode cX9_mood 40 = .ok (.ifCond .ge 38, 3) := by decide +kernel
theorem dX9_mood_43 : decode cX9_mood 43 = .ok (.aload_n 0, 1) := by decide +kernel
theorem dX9_mood_44 : decode cX9_mood 44 = .ok (.getfield 7, 3) := by decide +kernel
theorem dX9_mood_47 : decode cX9_mood 47 = .ok (.iload_n 1, 1) := by decide +kernel
theorem dX9_mood_48 : decode cX9_mood 48 = .ok (.iconst 2, 1) := by decide +kernel
theorem dX9_mood_49 : decode cX9_mood 49 = .ok (.invokestatic 60, 3) := by decide +kernel
theorem dX9_mood_52 : decode cX9_mood 52 = .ok (.iload 6, 2) := by decide +kernel
theorem dX9_mood_54 : decode cX9_mood 54 = .ok (.iastore, 1) := by decide +kernel
theorem dX9_mood_55 : decode cX9_mood 55 = .ok (.aload_n 0, 1) := by decide +kernel
theorem dX9_mood_56 : decode cX9_mood 56 = .ok (.iload_n 1, 1) := by decide +kernel
theorem dX9_mood_57 : decode cX9_mood 57 = .ok (.iload_n 2, 1) := by decide +kernel
theorem dX9_mood_58 : decode cX9_mood 58 = .ok (.invokevirtual 187, 3) := by decide +kernel
theorem dX9_mood_61 : decode cX9_mood 61 = .ok (.ifCond .eq 8, 3) := by decide +kernel
theorem dX9_mood_64 : decode cX9_mood 64 = .ok (.iload 6, 2) := by decide +kernel
theorem dX9_mood_66 : decode cX9_mood 66 = .ok (.goto 4, 3) := by decide +kernel
theorem dX9_mood_69 : decode cX9_mood 69 = .ok (.iconst (-1), 1) := by decide +kernel
theorem dX9_mood_70 : decode cX9_mood 70 = .ok (.istore 5, 2) := by decide +kernel
theorem dX9_mood_72 : decode cX9_mood 72 = .ok (.iinc 6 1, 3) := by decide +kernel
theorem dX9_mood_75 : decode cX9_mood 75 = .ok (.goto (-44), 3) := by decide +kernel
theorem dX9_mood_78 : decode cX9_mood 78 = .ok (.aload_n 0, 1) := by decide +kernel
theorem dX9_mood_79 : decode cX9_mood 79 = .ok (.getfield 7, 3) := by decide +kernel
theorem dX9_mood_82 : decode cX9_mood 82 = .ok (.iload_n 1, 1) := by decide +kernel
theorem dX9_mood_83 : decode cX9_mood 83 = .ok (.iconst 2, 1) := by decide +kernel
theorem dX9_mood_84 : decode cX9_mood 84 = .ok (.invokestatic 60, 3) := by decide +kernel
theorem dX9_mood_87 : decode cX9_mood 87 = .ok (.iload 4, 2) := by decide +kernel
theorem dX9_mood_89 : decode cX9_mood 89 = .ok (.iastore, 1) := by decide +kernel
theorem dX9_mood_90 : decode cX9_mood 90 = .ok (.iload 5, 2) := by decide +kernel
theorem dX9_mood_92 : decode cX9_mood 92 = .ok (.ifCond .ge 12, 3) := by decide +kernel
theorem dX9_mood_95 : decode cX9_mood 95 = .ok (.aload_n 0, 1) := by decide +kernel
theorem dX9_mood_96 : decode cX9_mood 96 = .ok (.ldc 163, 2) := by decide +kernel
theorem dX9_mood_98 : decode cX9_mood 98 = .ok (.invokevirtual 75, 3) := by decide +kernel
theorem dX9_mood_101 : decode cX9_mood 101 = .ok (.goto 5, 3) := by decide +kernel
theorem dX9_mood_104 : decode cX9_mood 104 = .ok (.iload 5, 2) := by decide +kernel
theorem dX9_mood_106 : decode cX9_mood 106 = .ok (.ireturn, 1) := by decide +kernel
theorem dX9_worst_0 : decode cX9_worst 0 = .ok (.iload_n 1, 1) := by decide +kernel
theorem dX9_worst_1 : decode cX9_worst 1 = .ok (.i2l, 1) := by decide +kernel
theorem dX9_worst_2 : decode cX9_worst 2 = .ok (.lconst 0, 1) := by decide +kernel
theorem dX9_worst_3 : decode cX9_worst 3 = .ok (.ldc2_w 142, 3) := by decide +kernel
theorem dX9_worst_6 : decode cX9_worst 6 = .ok (.invokestatic 54, 3) := by decide +kernel
theorem dX9_worst_9 : decode cX9_worst 9 = .ok (.ifCond .ne 10, 3) := by decide +kernel
theorem dX9_worst_12 : decode cX9_worst 12 = .ok (.aload_n 0, 1) := by decide +kernel
theorem dX9_worst_13 : decode cX9_worst 13 = .ok (.ldc 51, 2) := by decide +kernel
theorem dX9_worst_15 : decode cX9_worst 15 = .ok (.invokevirtual 75, 3) := by decide +kernel
theorem dX9_worst_18 : decode cX9_worst 18 = .ok (.ireturn, 1) := by decide +kernel
theorem dX9_worst_19 : decode cX9_worst 19 = .ok (.aload_n 0, 1) := by decide +kernel
theorem dX9_worst_20 : decode cX9_worst 20 = .ok (.invokevirtual 147, 3) := by decide +kernel
theorem dX9_worst_23 : decode cX9_worst 23 = .ok (.istore_n 2, 1) := by decide +kernel
theorem dX9_worst_24 : decode cX9_worst 24 = .ok (.aload_n 0, 1) := by decide +kernel
theorem dX9_worst_25 : decode cX9_worst 25 = .ok (.invokevirtual 154, 3) := by decide +kernel
theorem dX9_worst_28 : decode cX9_worst 28 = .ok (.aload_n 0, 1) := by decide +kernel
theorem dX9_worst_29 : decode cX9_worst 29 = .ok (.iload_n 1, 1) := by decide +kernel
theorem dX9_worst_30 : decode cX9_worst 30 = .ok (.invokevirtual 144, 3) := by decide +kernel
theorem dX9_worst_33 : decode cX9_worst 33 = .ok (.iconst (-1), 1) := by decide +kernel
theorem dX9_worst_34 : decode cX9_worst 34 = .ok (.istore_n 3, 1) := by decide +kernel
theorem dX9_worst_35 : decode cX9_worst 35 = .ok (.iconst 0, 1) := by decide +kernel
theorem dX9_worst_36 : decode cX9_worst 36 = .ok (.istore 4, 2) := by decide +kernel
theorem dX9_worst_38 : decode cX9_worst 38 = .ok (.iload 4, 2) := by decide +kernel
theorem dX9_worst_40 : decode cX9_worst 40 = .ok (.aload_n 0, 1) := by decide +kernel
theorem dX9_worst_41 : decode cX9_worst 41 = .ok (.getfield 7, 3) := by decide +kernel
theorem dX9_worst_44 : decode cX9_worst 44 = .ok (.iconst 0, 1) := by decide +kernel
theorem dX9_worst_45 : decode cX9_worst 45 = .ok (.iaload, 1) := by decide +kernel
theorem dX9_worst_46 : decode cX9_worst 46 = .ok (.if_icmp .ge 46, 3) := by decide +kernel
theorem dX9_worst_49 : decode cX9_worst 49 = .ok (.iload_n 2, 1) := by decide +kernel
theorem dX9_worst_50 : decode cX9_worst 50 = .ok (.iload 4, 2) := by decide +kernel
theorem dX9_worst_52 : decode cX9_worst 52 = .ok (.ishr, 1) := by decide +kernel
theorem dX9_worst_53 : decode cX9_worst 53 = .ok (.iconst 1, 1) := by decide +kernel
theorem dX9_worst_54 : decode cX9_worst 54 = .ok (.iand, 1) := by decide +kernel
theorem dX9_worst_55 : decode cX9_worst 55 = .ok (.iconst 1, 1) := by decide +kernel
theorem dX9_worst_56 : decode cX9_worst 56 = .ok (.if_icmp .ne 28, 3) := by decide +kernel
theorem dX9_worst_59 : decode cX9_worst 59 = .ok (.iload_n 3, 1) := by decide +kernel
theorem dX9_worst_60 : decode cX9_worst 60 = .ok (.ifCond .lt 19, 3) := by decide +kernel
theorem dX9_worst_63 : decode cX9_worst 63 = .ok (.aload_n 0, 1) := by decide +kernel
theorem dX9_worst_64 : decode cX9_worst 64 = .ok (.iload 4, 2) := by decide +kernel
theorem dX9_worst_66 : decode cX9_worst 66 = .ok (.iconst 2, 1) := by decide +kernel
theorem dX9_worst_67 : decode cX9_worst 67 = .ok (.invokevirtual 94, 3) := by decide +kernel
theorem dX9_worst_70 : decode cX9_worst 70 = .ok (.aload_n 0, 1) := by decide +kernel
theorem dX9_worst_71 : decode cX9_worst 71 = .ok (.iload_n 3, 1) := by decide +kernel
theorem dX9_worst_72 : decode cX9_worst 72 = .ok (.iconst 2, 1) := by decide +kernel
theorem dX9_worst_73 : decode cX9_worst 73 = .ok (.invokevirtual 94, 3) := by decide +kernel
theorem dX9_worst_76 : decode cX9_worst 76 = .ok (.if_icmp .ge 8, 3) := by decide +kernel
theorem dX9_worst_79 : decode cX9_worst 79 = .ok (.iload 4, 2) := by decide +kernel
theorem dX9_worst_81 : decode cX9_worst 81 = .ok (.goto 4, 3) := by decide +kernel
theorem dX9_worst_84 : decode cX9_worst 84 = .ok (.iload_n 3, 1) := by decide +kernel
theorem dX9_worst_85 : decode cX9_worst 85 = .ok (.istore_n 3, 1) := by decide +kernel
theorem dX9_worst_86 : decode cX9_worst 86 = .ok (.iinc 4 1, 3) := by decide +kernel
theorem dX9_worst_89 : decode cX9_worst 89 = .ok (.goto (-51), 3) := by decide +kernel
theorem dX9_worst_92 : decode cX9_worst 92 = .ok (.aload_n 0, 1) := by decide +kernel
theorem dX9_worst_93 : decode cX9_worst 93 = .ok (.iload_n 3, 1) := by decide +kernel
theorem dX9_worst_94 : decode cX9_worst 94 = .ok (.invokevirtual 157, 3) := by decide +kernel
theorem dX9_worst_97 : decode cX9_worst 97 = .ok (.istore 4, 2) := by decide +kernel
theorem dX9_worst_99 : decode cX9_worst 99 = .ok (.iload 4, 2) := by decide +kernel
theorem dX9_worst_101 : decode cX9_worst 101 = .ok (.ifCond .ge 12, 3) := by decide +kernel
theorem dX9_worst_104 : decode cX9_worst 104 = .ok (.aload_n 0, 1) := by decide +kernel
theorem dX9_worst_105 : decode cX9_worst 105 = .ok (.ldc 163, 2) := by decide +kernel
theorem dX9_worst_107 : decode cX9_worst 107 = .ok (.invokevirtual 75, 3) := by decide +kernel
theorem dX9_worst_110 : decode cX9_worst 110 = .ok (.goto 5, 3) := by decide +kernel
theorem dX9_worst_113 : decode cX9_worst 113 = .ok (.iload 4, 2) := by decide +kernel
theorem dX9_worst_115 : decode cX9_worst 115 = .ok (.ireturn, 1) := by decide +kernel
theorem dX9_feed_0 : decode cX9_feed 0 = .ok (.iload_n 2, 1) := by decide +kernel
theorem dX9_feed_1 : decode cX9_feed 1 = .ok (.i2l, 1) := by decide +kernel
theorem dX9_feed_2 : decode cX9_feed 2 = .ok (.lconst 1, 1) := by decide +kernel
theorem dX9_feed_3 : decode cX9_feed 3 = .ok (.ldc2_w 79, 3) := by decide +kernel
theorem dX9_feed_6 : decode cX9_feed 6 = .ok (.invokestatic 54, 3) := by decide +kernel
theorem dX9_feed_9 : decode cX9_feed 9 = .ok (.ifCond .ne 10, 3) := by decide +kernel
theorem dX9_feed_12 : decode cX9_feed 12 = .ok (.aload_n 0, 1) := by decide +kernel
theorem dX9_feed_13 : decode cX9_feed 13 = .ok (.ldc 51, 2) := by decide +kernel
theorem dX9_feed_15 : decode cX9_feed 15 = .ok (.invokevirtual 75, 3) := by decide +kernel
theorem dX9_feed_18 : decode cX9_feed 18 = .ok (.ireturn, 1) := by decide +kernel
theorem dX9_feed_19 : decode cX9_feed 19 = .ok (.aload_n 0, 1) := by decide +kernel
theorem dX9_feed_20 : decode cX9_feed 20 = .ok (.getfield 190, 3) := by decide +kernel
theorem dX9_feed_23 : decode cX9_feed 23 = .ok (.iload_n 2, 1) := by decide +kernel
theorem dX9_feed_24 : decode cX9_feed 24 = .ok (.iadd, 1) := by decide +kernel
theorem dX9_feed_25 : decode cX9_feed 25 = .ok (.bipush 120, 2) := by decide +kernel
theorem dX9_feed_27 : decode cX9_feed 27 = .ok (.if_icmp .le 10, 3) := by decide +kernel
theorem dX9_feed_30 : decode cX9_feed 30 = .ok (.aload_n 0, 1) := by decide +kernel
theorem dX9_feed_31 : decode cX9_feed 31 = .ok (.ldc 84, 2) := by decide +kernel
theorem dX9_feed_33 : decode cX9_feed 33 = .ok (.invokevirtual 75, 3) := by decide +kernel
theorem dX9_feed_36 : decode cX9_feed 36 = .ok (.ireturn, 1) := by decide +kernel
theorem dX9_feed_37 : decode cX9_feed 37 = .ok (.iload_n 2, 1) := by decide +kernel
theorem dX9_feed_38 : decode cX9_feed 38 = .ok (.iconst 1, 1) := by decide +kernel
theorem dX9_feed_39 : decode cX9_feed 39 = .ok (.isub, 1) := by decide +kernel
theorem dX9_feed_40 : decode cX9_feed 40 = .ok (.istore_n 3, 1) := by decide +kernel
theorem dX9_feed_41 : decode cX9_feed 41 = .ok (.iload_n 3, 1) := by decide +kernel
theorem dX9_feed_42 : decode cX9_feed 42 = .ok (.ifCond .lt 38, 3) := by decide +kernel
theorem dX9_feed_45 : decode cX9_feed 45 = .ok (.aload_n 0, 1) := by decide +kernel
theorem dX9_feed_46 : decode cX9_feed 46 = .ok (.getfield 31, 3) := by decide +kernel
theorem dX9_feed_49 : decode cX9_feed 49 = .ok (.aload_n 0, 1) := by decide +kernel
theorem dX9_feed_50 : decode cX9_feed 50 = .ok (.getfield 190, 3) := by decide +kernel
theorem dX9_feed_53 : decode cX9_feed 53 = .ok (.iload_n 1, 1) := by decide +kernel
theorem dX9_feed_54 : decode cX9_feed 54 = .ok (.bipush 8, 2) := by decide +kernel
theorem dX9_feed_56 : decode cX9_feed 56 = .ok (.iload_n 3, 1) := by decide +kernel
theorem dX9_feed_57 : decode cX9_feed 57 = .ok (.imul, 1) := by decide +kernel
theorem dX9_feed_58 : decode cX9_feed 58 = .ok (.ishr, 1) := by decide +kernel
theorem dX9_feed_59 : decode cX9_feed 59 = .ok (.sipush 255, 3) := by decide +kernel
theorem dX9_feed_62 : decode cX9_feed 62 = .ok (.iand, 1) := by decide +kernel
theorem dX9_feed_63 : decode cX9_feed 63 = .ok (.iastore, 1) := by decide +kernel
theorem dX9_feed_64 : decode cX9_feed 64 = .ok (.aload_n 0, 1) := by decide +kernel
theorem dX9_feed_65 : decode cX9_feed 65 = .ok (.dup, 1) := by decide +kernel
theorem dX9_feed_66 : decode cX9_feed 66 = .ok (.getfield 190, 3) := by decide +kernel
theorem dX9_feed_69 : decode cX9_feed 69 = .ok (.iconst 1, 1) := by decide +kernel
theorem dX9_feed_70 : decode cX9_feed 70 = .ok (.iadd, 1) := by decide +kernel
theorem dX9_feed_71 : decode cX9_feed 71 = .ok (.putfield 190, 3) := by decide +kernel
theorem dX9_feed_74 : decode cX9_feed 74 = .ok (.iinc 3 (-1), 3) := by decide +kernel
theorem dX9_feed_77 : decode cX9_feed 77 = .ok (.goto (-36), 3) := by decide +kernel
theorem dX9_feed_80 : decode cX9_feed 80 = .ok (.aload_n 0, 1) := by decide +kernel
theorem dX9_feed_81 : decode cX9_feed 81 = .ok (.getfield 190, 3) := by decide +kernel
theorem dX9_feed_84 : decode cX9_feed 84 = .ok (.ireturn, 1) := by decide +kernel
theorem dX9_wipe_0 : decode cX9_wipe 0 = .ok (.aload_n 0, 1) := by decide +kernel
theorem dX9_wipe_1 : decode cX9_wipe 1 = .ok (.getfield 190, 3) := by decide +kernel
theorem dX9_wipe_4 : decode cX9_wipe 4 = .ok (.istore_n 1, 1) := by decide +kernel
theorem dX9_wipe_5 : decode cX9_wipe 5 = .ok (.aload_n 0, 1) := by decide +kernel
theorem dX9_wipe_6 : decode cX9_wipe 6 = .ok (.iconst 0, 1) := by decide +kernel
theorem dX9_wipe_7 : decode cX9_wipe 7 = .ok (.putfield 190, 3) := by decide +kernel
theorem dX9_wipe_10 : decode cX9_wipe 10 = .ok (.iload_n 1, 1) := by decide +kernel
theorem dX9_wipe_11 : decode cX9_wipe 11 = .ok (.ireturn, 1) := by decide +kernel
theorem dX9_byteAt_0 : decode cX9_byteAt 0 = .ok (.iload_n 1, 1) := by decide +kernel
theorem dX9_byteAt_1 : decode cX9_byteAt 1 = .ok (.aload_n 0, 1) := by decide +kernel
theorem dX9_byteAt_2 : decode cX9_byteAt 2 = .ok (.getfield 190, 3) := by decide +kernel
theorem dX9_byteAt_5 : decode cX9_byteAt 5 = .ok (.if_icmp .ge 12, 3) := by decide +kernel
theorem dX9_byteAt_8 : decode cX9_byteAt 8 = .ok (.aload_n 0, 1) := by decide +kernel
theorem dX9_byteAt_9 : decode cX9_byteAt 9 = .ok (.getfield 31, 3) := by decide +kernel
theorem dX9_byteAt_12 : decode cX9_byteAt 12 = .ok (.iload_n 1, 1) := by decide +kernel
theorem dX9_byteAt_13 : decode cX9_byteAt 13 = .ok (.iaload, 1) := by decide +kernel
theorem dX9_byteAt_14 : decode cX9_byteAt 14 = .ok (.goto 4, 3) := by decide +kernel
theorem dX9_byteAt_17 : decode cX9_byteAt 17 = .ok (.iconst (-1), 1) := by decide +kernel
theorem dX9_byteAt_18 : decode cX9_byteAt 18 = .ok (.ireturn, 1) := by decide +kernel
theorem dX9_isLetter_0 : decode cX9_isLetter 0 = .ok (.iload_n 0, 1) := by decide +kernel
theorem dX9_isLetter_1 : decode cX9_isLetter 1 = .ok (.i2l, 1) := by decide +kernel
theorem dX9_isLetter_2 : decode cX9_isLetter 2 = .ok (.ldc2_w 193, 3) := by decide +kernel
theorem dX9_isLetter_5 : decode cX9_isLetter 5 = .ok (.ldc2_w 195, 3) := by decide +kernel
theorem dX9_isLetter_8 : decode cX9_isLetter 8 = .ok (.invokestatic 54, 3) := by decide +kernel
theorem dX9_isLetter_11 : decode cX9_isLetter 11 = .ok (.ireturn, 1) := by decide +kernel
theorem dX9_isDigit_0 : decode cX9_isDigit 0 = .ok (.iload_n 0, 1) := by decide +kernel
theorem dX9_isDigit_1 : decode cX9_isDigit 1 = .ok (.i2l, 1) := by decide +kernel
theorem dX9_isDigit_2 : decode cX9_isDigit 2 = .ok (.ldc2_w 197, 3) := by decide +kernel
theorem dX9_isDigit_5 : decode cX9_isDigit 5 = .ok (.ldc2_w 199, 3) := by decide +kernel
theorem dX9_isDigit_8 : decode cX9_isDigit 8 = .ok (.invokestatic 54, 3) := by decide +kernel
theorem dX9_isDigit_11 : decode cX9_isDigit 11 = .ok (.ireturn, 1) := by decide +kernel
theorem dX9_token_0 : decode cX9_token 0 = .ok (.aload_n 0, 1) := by decide +kernel
theorem dX9_token_1 : decode cX9_token 1 = .ok (.aload_n 0, 1) := by decide +kernel
theorem dX9_token_2 : decode cX9_token 2 = .ok (.getfield 201, 3) := by decide +kernel
theorem dX9_token_5 : decode cX9_token 5 = .ok (.putfield 204, 3) := by decide +kernel
theorem dX9_token_8 : decode cX9_token 8 = .ok (.aload_n 0, 1) := by decide +kernel
theorem dX9_token_9 : decode cX9_token 9 = .ok (.aload_n 0, 1) := by decide +kernel
theorem dX9_token_10 : decode cX9_token 10 = .ok (.getfield 204, 3) := by decide +kernel
theorem dX9_token_13 : decode cX9_token 13 = .ok (.invokevirtual 207, 3) := by decide +kernel
theorem dX9_token_16 : decode cX9_token 16 = .ok (.bipush 32, 2) := by decide +kernel
theorem dX9_token_18 : decode cX9_token 18 = .ok (.if_icmp .ne 16, 3) := by decide +kernel
theorem dX9_token_21 : decode cX9_token 21 = .ok (.aload_n 0, 1) := by decide +kernel
theorem dX9_token_22 : decode cX9_token 22 = .ok (.dup, 1) := by decide +kernel
theorem dX9_token_23 : decode cX9_token 23 = .ok (.getfield 204, 3) := by decide +kernel
theorem dX9_token_26 : decode cX9_token 26 = .ok (.iconst 1, 1) := by decide +kernel
theorem dX9_token_27 : decode cX9_token 27 = .ok (.iadd, 1) := by decide +kernel
theorem dX9_token_28 : decode cX9_token 28 = .ok (.putfield 204, 3) := by decide +kernel
theorem dX9_token_31 : decode cX9_token 31 = .ok (.goto (-23), 3) := by decide +kernel
theorem dX9_token_34 : decode cX9_token 34 = .ok (.aload_n 0, 1) := by decide +kernel
theorem dX9_token_35 : decode cX9_token 35 = .ok (.aload_n 0, 1) := by decide +kernel
theorem dX9_token_36 : decode cX9_token 36 = .ok (.getfield 204, 3) := by decide +kernel
theorem dX9_token_39 : decode cX9_token 39 = .ok (.invokevirtual 207, 3) := by decide +kernel
theorem dX9_token_42 : decode cX9_token 42 = .ok (.invokestatic 210, 3) := by decide +kernel
theorem dX9_token_45 : decode cX9_token 45 = .ok (.istore_n 1, 1) := by decide +kernel
theorem dX9_token_46 : decode cX9_token 46 = .ok (.aload_n 0, 1) := by decide +kernel
theorem dX9_token_47 : decode cX9_token 47 = .ok (.aload_n 0, 1) := by decide +kernel
theorem dX9_token_48 : decode cX9_token 48 = .ok (.getfield 204, 3) := by decide +kernel
theorem dX9_token_51 : decode cX9_token 51 = .ok (.invokevirtual 207, 3) := by decide +kernel
theorem dX9_token_54 : decode cX9_token 54 = .ok (.invokestatic 213, 3) := by decide +kernel
theorem dX9_token_57 : decode cX9_token 57 = .ok (.istore_n 2, 1) := by decide +kernel
theorem dX9_token_58 : decode cX9_token 58 = .ok (.aload_n 0, 1) := by decide +kernel
theorem dX9_token_59 : decode cX9_token 59 = .ok (.aload_n 0, 1) := by decide +kernel
theorem dX9_token_60 : decode cX9_token 60 = .ok (.getfield 204, 3) := by decide +kernel
theorem dX9_token_63 : decode cX9_token 63 = .ok (.aload_n 0, 1) := by decide +kernel
theorem dX9_token_64 : decode cX9_token 64 = .ok (.getfield 190, 3) := by decide +kernel
theorem dX9_token_67 : decode cX9_token 67 = .ok (.if_icmp .ge 12, 3) := by decide +kernel
theorem dX9_token_70 : decode cX9_token 70 = .ok (.aload_n 0, 1) := by decide +kernel
theorem dX9_token_71 : decode cX9_token 71 = .ok (.getfield 204, 3) := by decide +kernel
theorem dX9_token_74 : decode cX9_token 74 = .ok (.iconst 1, 1) := by decide +kernel
theorem dX9_token_75 : decode cX9_token 75 = .ok (.iadd, 1) := by decide +kernel
theorem dX9_token_76 : decode cX9_token 76 = .ok (.goto 7, 3) := by decide +kernel
theorem dX9_token_79 : decode cX9_token 79 = .ok (.aload_n 0, 1) := by decide +kernel
theorem dX9_token_80 : decode cX9_token 80 = .ok (.getfield 204, 3) := by decide +kernel
theorem dX9_token_83 : decode cX9_token 83 = .ok (.putfield 201, 3) := by decide +kernel
theorem dX9_token_86 : decode cX9_token 86 = .ok (.iload_n 1, 1) := by decide +kernel
theorem dX9_token_87 : decode cX9_token 87 = .ok (.ifCond .eq 17, 3) := by decide +kernel
theorem dX9_token_90 : decode cX9_token 90 = .ok (.aload_n 0, 1) := by decide +kernel
theorem dX9_token_91 : decode cX9_token 91 = .ok (.aload_n 0, 1) := by decide +kernel
theorem dX9_token_92 : decode cX9_token 92 = .ok (.getfield 201, 3) := by decide +kernel
theorem dX9_token_95 : decode cX9_token 95 = .ok (.invokevirtual 207, 3) := by decide +kernel
theorem dX9_token_98 : decode cX9_token 98 = .ok (.invokestatic 210, 3) := by decide +kernel
theorem dX9_token_101 : decode cX9_token 101 = .ok (.ifCond .ne 21, 3) := by decide +kernel
theorem dX9_token_104 : decode cX9_token 104 = .ok (.iload_n 2, 1) := by decide +kernel
theorem dX9_token_105 : decode cX9_token 105 = .ok (.ifCond .eq 30, 3) := by decide +kernel
theorem dX9_token_108 : decode cX9_token 108 = .ok (.aload_n 0, 1) := by decide +kernel
theorem dX9_token_109 : decode cX9_token 109 = .ok (.aload_n 0, 1) := by decide +kernel
theorem dX9_token_110 : decode cX9_token 110 = .ok (.getfield 201, 3) := by decide +kernel
theorem dX9_token_113 : decode cX9_token 113 = .ok (.invokevirtual 207, 3) := by decide +kernel
theorem dX9_token_116 : decode cX9_token 116 = .ok (.invokestatic 213, 3) := by decide +kernel
theorem dX9_token_119 : decode cX9_token 119 = .ok (.ifCond .eq 16, 3) := by decide +kernel
theorem dX9_token_122 : decode cX9_token 122 = .ok (.aload_n 0, 1) := by decide +kernel
theorem dX9_token_123 : decode cX9_token 123 = .ok (.dup, 1) := by decide +kernel
theorem dX9_token_124 : decode cX9_token 124 = .ok (.getfield 201, 3) := by decide +kernel
theorem dX9_token_127 : decode cX9_token 127 = .ok (.iconst 1, 1) := by decide +kernel
theorem dX9_token_128 : decode cX9_token 128 = .ok (.iadd, 1) := by decide +kernel
theorem dX9_token_129 : decode cX9_token 129 = .ok (.putfield 201, 3) := by decide +kernel
theorem dX9_token_132 : decode cX9_token 132 = .ok (.goto (-46), 3) := by decide +kernel
theorem dX9_token_135 : decode cX9_token 135 = .ok (.return_, 1) := by decide +kernel
theorem dX9_must_0 : decode cX9_must 0 = .ok (.aload_n 0, 1) := by decide +kernel
theorem dX9_must_1 : decode cX9_must 1 = .ok (.aload_n 0, 1) := by decide +kernel
theorem dX9_must_2 : decode cX9_must 2 = .ok (.getfield 216, 3) := by decide +kernel
theorem dX9_must_5 : decode cX9_must 5 = .ok (.ifCond .ne 7, 3) := by decide +kernel
theorem dX9_must_8 : decode cX9_must 8 = .ok (.iload_n 1, 1) := by decide +kernel
theorem dX9_must_9 : decode cX9_must 9 = .ok (.ifCond .ne 7, 3) := by decide +kernel
theorem dX9_must_12 : decode cX9_must 12 = .ok (.iconst 1, 1) := by decide +kernel
theorem dX9_must_13 : decode cX9_must 13 = .ok (.goto 4, 3) := by decide +kernel
theorem dX9_must_16 : decode cX9_must 16 = .ok (.iconst 0, 1) := by decide +kernel
theorem dX9_must_17 : decode cX9_must 17 = .ok (.putfield 216, 3) := by decide +kernel
theorem dX9_must_20 : decode cX9_must 20 = .ok (.aload_n 0, 1) := by decide +kernel
theorem dX9_must_21 : decode cX9_must 21 = .ok (.getfield 216, 3) := by decide +kernel
theorem dX9_must_24 : decode cX9_must 24 = .ok (.ifCond .ne 7, 3) := by decide +kernel
theorem dX9_must_27 : decode cX9_must 27 = .ok (.aload_n 0, 1) := by decide +kernel
theorem dX9_must_28 : decode cX9_must 28 = .ok (.invokevirtual 220, 3) := by decide +kernel
theorem dX9_must_31 : decode cX9_must 31 = .ok (.return_, 1) := by decide +kernel
theorem dX9_word_0 : decode cX9_word 0 = .ok (.lconst 0, 1) := by decide +kernel
theorem dX9_word_1 : decode cX9_word 1 = .ok (.lstore_n 1, 1) := by decide +kernel
theorem dX9_word_2 : decode cX9_word 2 = .ok (.aload_n 0, 1) := by decide +kernel
theorem dX9_word_3 : decode cX9_word 3 = .ok (.getfield 204, 3) := by decide +kernel
theorem dX9_word_6 : decode cX9_word 6 = .ok (.istore_n 3, 1) := by decide +kernel
theorem dX9_word_7 : decode cX9_word 7 = .ok (.iload_n 3, 1) := by decide +kernel
theorem dX9_word_8 : decode cX9_word 8 = .ok (.aload_n 0, 1) := by decide +kernel
theorem dX9_word_9 : decode cX9_word 9 = .ok (.getfield 201, 3) := by decide +kernel
theorem dX9_word_12 : decode cX9_word 12 = .ok (.if_icmp .ge 38, 3) := by decide +kernel
theorem dX9_word_15 : decode cX9_word 15 = .ok (.lload_n 1, 1) := by decide +kernel
theorem dX9_word_16 : decode cX9_word 16 = .ok (.ldc2_w 223, 3) := by decide +kernel
theorem dX9_word_19 : decode cX9_word 19 = .ok (.lcmp, 1) := by decide +kernel
theorem dX9_word_20 : decode cX9_word 20 = .ok (.ifCond .le 7, 3) := by decide +kernel
theorem dX9_word_23 : decode cX9_word 23 = .ok (.lload_n 1, 1) := by decide +kernel
theorem dX9_word_24 : decode cX9_word 24 = .ok (.goto 19, 3) := by decide +kernel
theorem dX9_word_27 : decode cX9_word 27 = .ok (.ldc2_w 225, 3) := by decide +kernel
theorem dX9_word_30 : decode cX9_word 30 = .ok (.lload_n 1, 1) := by decide +kernel
theorem dX9_word_31 : decode cX9_word 31 = .ok (.lmul, 1) := by decide +kernel
theorem dX9_word_32 : decode cX9_word 32 = .ok (.aload_n 0, 1) := by decide +kernel
theorem dX9_word_33 : decode cX9_word 33 = .ok (.getfield 31, 3) := by decide +kernel
theorem dX9_word_36 : decode cX9_word 36 = .ok (.iload_n 3, 1) := by decide +kernel
theorem dX9_word_37 : decode cX9_word 37 = .ok (.iaload, 1) := by decide +kernel
theorem dX9_word_38 : decode cX9_word 38 = .ok (.bipush 96, 2) := by decide +kernel
theorem dX9_word_40 : decode cX9_word 40 = .ok (.isub, 1) := by decide +kernel
theorem dX9_word_41 : decode cX9_word 41 = .ok (.i2l, 1) := by decide +kernel
theorem dX9_word_42 : decode cX9_word 42 = .ok (.ladd, 1) := by decide +kernel
theorem dX9_word_43 : decode cX9_word 43 = .ok (.lstore_n 1, 1) := by decide +kernel
theorem dX9_word_44 : decode cX9_word 44 = .ok (.iinc 3 1, 3) := by decide +kernel
theorem dX9_word_47 : decode cX9_word 47 = .ok (.goto (-40), 3) := by decide +kernel
theorem dX9_word_50 : decode cX9_word 50 = .ok (.aload_n 0, 1) := by decide +kernel
theorem dX9_word_51 : decode cX9_word 51 = .ok (.getfield 216, 3) := by decide +kernel
theorem dX9_word_54 : decode cX9_word 54 = .ok (.ifCond .ne 17, 3) := by decide +kernel
theorem dX9_word_57 : decode cX9_word 57 = .ok (.aload_n 0, 1) := by decide +kernel
theorem dX9_word_58 : decode cX9_word 58 = .ok (.aload_n 0, 1) := by decide +kernel
theorem dX9_word_59 : decode cX9_word 59 = .ok (.getfield 204, 3) := by decide +kernel
theorem dX9_word_62 : decode cX9_word 62 = .ok (.invokevirtual 207, 3) := by decide +kernel
theorem dX9_word_65 : decode cX9_word 65 = .ok (.invokestatic 210, 3) := by decide +kernel
theorem dX9_word_68 : decode cX9_word 68 = .ok (.ifCond .ne 7, 3) := by decide +kernel
theorem dX9_word_71 : decode cX9_word 71 = .ok (.lconst 0, 1) := by decide +kernel
theorem dX9_word_72 : decode cX9_word 72 = .ok (.goto 4, 3) := by decide +kernel
theorem dX9_word_75 : decode cX9_word 75 = .ok (.lload_n 1, 1) := by decide +kernel
theorem dX9_word_76 : decode cX9_word 76 = .ok (.lreturn, 1) := by decide +kernel
theorem dX9_number_0 : decode cX9_number 0 = .ok (.aload_n 0, 1) := by decide +kernel
theorem dX9_number_1 : decode cX9_number 1 = .ok (.getfield 216, 3) := by decide +kernel
theorem dX9_number_4 : decode cX9_number 4 = .ok (.ifCond .eq 4, 3) := by decide +kernel
theorem dX9_number_7 : decode cX9_number 7 = .ok (.return_, 1) := by decide +kernel
theorem dX9_number_8 : decode cX9_number 8 = .ok (.aload_n 0, 1) := by decide +kernel
theorem dX9_number_9 : decode cX9_number 9 = .ok (.aload_n 0, 1) := by decide +kernel
theorem dX9_number_10 : decode cX9_number 10 = .ok (.getfield 204, 3) := by decide +kernel
theorem dX9_number_13 : decode cX9_number 13 = .ok (.invokevirtual 207, 3) := by decide +kernel
theorem dX9_number_16 : decode cX9_number 16 = .ok (.invokestatic 213, 3) := by decide +kernel
theorem dX9_number_19 : decode cX9_number 19 = .ok (.istore_n 3, 1) := by decide +kernel
theorem dX9_number_20 : decode cX9_number 20 = .ok (.iconst 0, 1) := by decide +kernel
theorem dX9_number_21 : decode cX9_number 21 = .ok (.istore 4, 2) := by decide +kernel
theorem dX9_number_23 : decode cX9_number 23 = .ok (.aload_n 0, 1) := by decide +kernel
theorem dX9_number_24 : decode cX9_number 24 = .ok (.getfield 204, 3) := by decide +kernel
theorem dX9_number_27 : decode cX9_number 27 = .ok (.istore 5, 2) := by decide +kernel
theorem dX9_number_29 : decode cX9_number 29 = .ok (.iload 5, 2) := by decide +kernel
theorem dX9_number_31 : decode cX9_number 31 = .ok (.aload_n 0, 1) := by decide +kernel
theorem dX9_number_32 : decode cX9_number 32 = .ok (.getfield 201, 3) := by decide +kernel
theorem dX9_number_35 : decode cX9_number 35 = .ok (.if_icmp .ge 44, 3) := by decide +kernel
theorem dX9_number_38 : decode cX9_number 38 = .ok (.iload_n 3, 1) := by decide +kernel
theorem dX9_number_39 : decode cX9_number 39 = .ok (.ifCond .eq 40, 3) := by decide +kernel
theorem dX9_number_42 : decode cX9_number 42 = .ok (.iload 4, 2) := by decide +kernel
theorem dX9_number_44 : decode cX9_number 44 = .ok (.sipush 999, 3) := by decide +kernel
theorem dX9_number_47 : decode cX9_number 47 = .ok (.if_icmp .le 8, 3) := by decide +kernel
theorem dX9_number_50 : decode cX9_number 50 = .ok (.iload 4, 2) := by decide +kernel
theorem dX9_number_52 : decode cX9_number 52 = .ok (.goto 19, 3) := by decide +kernel
theorem dX9_number_55 : decode cX9_number 55 = .ok (.bipush 10, 2) := by decide +kernel
theorem dX9_number_57 : decode cX9_number 57 = .ok (.iload 4, 2) := by decide +kernel
theorem dX9_number_59 : decode cX9_number 59 = .ok (.imul, 1) := by decide +kernel
theorem dX9_number_60 : decode cX9_number 60 = .ok (.aload_n 0, 1) := by decide +kernel
theorem dX9_number_61 : decode cX9_number 61 = .ok (.getfield 31, 3) := by decide +kernel
theorem dX9_number_64 : decode cX9_number 64 = .ok (.iload 5, 2) := by decide +kernel
theorem dX9_number_66 : decode cX9_number 66 = .ok (.iaload, 1) := by decide +kernel
theorem dX9_number_67 : decode cX9_number 67 = .ok (.iadd, 1) := by decide +kernel
theorem dX9_number_68 : decode cX9_number 68 = .ok (.bipush 48, 2) := by decide +kernel
theorem dX9_number_70 : decode cX9_number 70 = .ok (.isub, 1) := by decide +kernel
theorem dX9_number_71 : decode cX9_number 71 = .ok (.istore 4, 2) := by decide +kernel
theorem dX9_number_73 : decode cX9_number 73 = .ok (.iinc 5 1, 3) := by decide +kernel
theorem dX9_number_76 : decode cX9_number 76 = .ok (.goto (-47), 3) := by decide +kernel
theorem dX9_number_79 : decode cX9_number 79 = .ok (.aload_n 0, 1) := by decide +kernel
theorem dX9_number_80 : decode cX9_number 80 = .ok (.iload 4, 2) := by decide +kernel
theorem dX9_number_82 : decode cX9_number 82 = .ok (.putfield 227, 3) := by decide +kernel
theorem dX9_number_85 : decode cX9_number 85 = .ok (.aload_n 0, 1) := by decide +kernel
theorem dX9_number_86 : decode cX9_number 86 = .ok (.iload_n 3, 1) := by decide +kernel
theorem dX9_number_87 : decode cX9_number 87 = .ok (.ifCond .eq 20, 3) := by decide +kernel
theorem dX9_number_90 : decode cX9_number 90 = .ok (.iload 4, 2) := by decide +kernel
theorem dX9_number_92 : decode cX9_number 92 = .ok (.i2l, 1) := by decide +kernel
theorem dX9_number_93 : decode cX9_number 93 = .ok (.iload_n 1, 1) := by decide +kernel
theorem dX9_number_94 : decode cX9_number 94 = .ok (.i2l, 1) := by decide +kernel
theorem dX9_number_95 : decode cX9_number 95 = .ok (.iload_n 2, 1) := by decide +kernel
theorem dX9_number_96 : decode cX9_number 96 = .ok (.i2l, 1) := by decide +kernel
theorem dX9_number_97 : decode cX9_number 97 = .ok (.invokestatic 54, 3) := by decide +kernel
theorem dX9_number_100 : decode cX9_number 100 = .ok (.ifCond .eq 7, 3) := by decide +kernel
theorem dX9_number_103 : decode cX9_number 103 = .ok (.iconst 1, 1) := by decide +kernel
theorem dX9_number_104 : decode cX9_number 104 = .ok (.goto 4, 3) := by decide +kernel
theorem dX9_number_107 : decode cX9_number 107 = .ok (.iconst 0, 1) := by decide +kernel
theorem dX9_number_108 : decode cX9_number 108 = .ok (.invokevirtual 230, 3) := by decide +kernel
theorem dX9_number_111 : decode cX9_number 111 = .ok (.return_, 1) := by decide +kernel
theorem dX9_kindHere_0 : decode cX9_kindHere 0 = .ok (.aload_n 0, 1) := by decide +kernel
theorem dX9_kindHere_1 : decode cX9_kindHere 1 = .ok (.invokevirtual 234, 3) := by decide +kernel
theorem dX9_kindHere_4 : decode cX9_kindHere 4 = .ok (.lstore_n 1, 1) := by decide +kernel
theorem dX9_kindHere_5 : decode cX9_kindHere 5 = .ok (.lload_n 1, 1) := by decide +kernel
theorem dX9_kindHere_6 : decode cX9_kindHere 6 = .ok (.ldc2_w 238, 3) := by decide +kernel
theorem dX9_kindHere_9 : decode cX9_kindHere 9 = .ok (.lcmp, 1) := by decide +kernel
theorem dX9_kindHere_10 : decode cX9_kindHere 10 = .ok (.ifCond .ne 7, 3) := by decide +kernel
theorem dX9_kindHere_13 : decode cX9_kindHere 13 = .ok (.iconst 0, 1) := by decide +kernel
theorem dX9_kindHere_14 : decode cX9_kindHere 14 = .ok (.goto 64, 3) := by decide +kernel
theorem dX9_kindHere_17 : decode cX9_kindHere 17 = .ok (.lload_n 1, 1) := by decide +kernel
theorem dX9_kindHere_18 : decode cX9_kindHere 18 = .ok (.ldc2_w 240, 3) := by decide +kernel
theorem dX9_kindHere_21 : decode cX9_kindHere 21 = .ok (.lcmp, 1) := by decide +kernel
theorem dX9_kindHere_22 : decode cX9_kindHere 22 = .ok (.ifCond .ne 7, 3) := by decide +kernel
theorem dX9_kindHere_25 : decode cX9_kindHere 25 = .ok (.iconst 1, 1) := by decide +kernel
theorem dX9_kindHere_26 : decode cX9_kindHere 26 = .ok (.goto 52, 3) := by decide +kernel
theorem dX9_kindHere_29 : decode cX9_kindHere 29 = .ok (.lload_n 1, 1) := by decide +kernel
theorem dX9_kindHere_30 : decode cX9_kindHere 30 = .ok (.ldc2_w 242, 3) := by decide +kernel
theorem dX9_kindHere_33 : decode cX9_kindHere 33 = .ok (.lcmp, 1) := by decide +kernel
theorem dX9_kindHere_34 : decode cX9_kindHere 34 = .ok (.ifCond .ne 7, 3) := by decide +kernel
theorem dX9_kindHere_37 : decode cX9_kindHere 37 = .ok (.iconst 2, 1) := by decide +kernel
theorem dX9_kindHere_38 : decode cX9_kindHere 38 = .ok (.goto 40, 3) := by decide +kernel
theorem dX9_kindHere_41 : decode cX9_kindHere 41 = .ok (.lload_n 1, 1) := by decide +kernel
theorem dX9_kindHere_42 : decode cX9_kindHere 42 = .ok (.ldc2_w 244, 3) := by decide +kernel
theorem dX9_kindHere_45 : decode cX9_kindHere 45 = .ok (.lcmp, 1) := by decide +kernel
theorem dX9_kindHere_46 : decode cX9_kindHere 46 = .ok (.ifCond .ne 7, 3) := by decide +kernel
theorem dX9_kindHere_49 : decode cX9_kindHere 49 = .ok (.iconst 3, 1) := by decide +kernel
theorem dX9_kindHere_50 : decode cX9_kindHere 50 = .ok (.goto 28, 3) := by decide +kernel
theorem dX9_kindHere_53 : decode cX9_kindHere 53 = .ok (.lload_n 1, 1) := by decide +kernel
theorem dX9_kindHere_54 : decode cX9_kindHere 54 = .ok (.ldc2_w 246, 3) := by decide +kernel
theorem dX9_kindHere_57 : decode cX9_kindHere 57 = .ok (.lcmp, 1) := by decide +kernel
theorem dX9_kindHere_58 : decode cX9_kindHere 58 = .ok (.ifCond .ne 7, 3) := by decide +kernel
theorem dX9_kindHere_61 : decode cX9_kindHere 61 = .ok (.iconst 4, 1) := by decide +kernel
theorem dX9_kindHere_62 : decode cX9_kindHere 62 = .ok (.goto 16, 3) := by decide +kernel
theorem dX9_kindHere_65 : decode cX9_kindHere 65 = .ok (.lload_n 1, 1) := by decide +kernel
theorem dX9_kindHere_66 : decode cX9_kindHere 66 = .ok (.ldc2_w 248, 3) := by decide +kernel
theorem dX9_kindHere_69 : decode cX9_kindHere 69 = .ok (.lcmp, 1) := by decide +kernel
theorem dX9_kindHere_70 : decode cX9_kindHere 70 = .ok (.ifCond .ne 7, 3) := by decide +kernel
theorem dX9_kindHere_73 : decode cX9_kindHere 73 = .ok (.iconst 5, 1) := by decide +kernel
theorem dX9_kindHere_74 : decode cX9_kindHere 74 = .ok (.goto 4, 3) := by decide +kernel
theorem dX9_kindHere_77 : decode cX9_kindHere 77 = .ok (.iconst (-1), 1) := by decide +kernel
theorem dX9_kindHere_78 : decode cX9_kindHere 78 = .ok (.ireturn, 1) := by decide +kernel
theorem dX9_partItem_0 : decode cX9_partItem 0 = .ok (.aload_n 0, 1) := by decide +kernel
theorem dX9_partItem_1 : decode cX9_partItem 1 = .ok (.invokevirtual 234, 3) := by decide +kernel
theorem dX9_partItem_4 : decode cX9_partItem 4 = .ok (.lload_n 1, 1) := by decide +kernel
theorem dX9_partItem_5 : decode cX9_partItem 5 = .ok (.lcmp, 1) := by decide +kernel
theorem dX9_partItem_6 : decode cX9_partItem 6 = .ok (.ifCond .ne 41, 3) := by decide +kernel
theorem dX9_partItem_9 : decode cX9_partItem 9 = .ok (.aload_n 0, 1) := by decide +kernel
theorem dX9_partItem_10 : decode cX9_partItem 10 = .ok (.iconst 1, 1) := by decide +kernel
theorem dX9_partItem_11 : decode cX9_partItem 11 = .ok (.invokevirtual 230, 3) := by decide +kernel
theorem dX9_partItem_14 : decode cX9_partItem 14 = .ok (.aload_n 0, 1) := by decide +kernel
theorem dX9_partItem_15 : decode cX9_partItem 15 = .ok (.iconst 0, 1) := by decide +kernel
theorem dX9_partItem_16 : decode cX9_partItem 16 = .ok (.iload 4, 2) := by decide +kernel
theorem dX9_partItem_18 : decode cX9_partItem 18 = .ok (.invokevirtual 250, 3) := by decide +kernel
theorem dX9_partItem_21 : decode cX9_partItem 21 = .ok (.aload_n 0, 1) := by decide +kernel
theorem dX9_partItem_22 : decode cX9_partItem 22 = .ok (.getfield 7, 3) := by decide +kernel
theorem dX9_partItem_25 : decode cX9_partItem 25 = .ok (.iload_n 3, 1) := by decide +kernel
theorem dX9_partItem_26 : decode cX9_partItem 26 = .ok (.aload_n 0, 1) := by decide +kernel
theorem dX9_partItem_27 : decode cX9_partItem 27 = .ok (.getfield 216, 3) := by decide +kernel
theorem dX9_partItem_30 : decode cX9_partItem 30 = .ok (.ifCond .eq 12, 3) := by decide +kernel
theorem dX9_partItem_33 : decode cX9_partItem 33 = .ok (.aload_n 0, 1) := by decide +kernel
theorem dX9_partItem_34 : decode cX9_partItem 34 = .ok (.getfield 7, 3) := by decide +kernel
theorem dX9_partItem_37 : decode cX9_partItem 37 = .ok (.iload_n 3, 1) := by decide +kernel
theorem dX9_partItem_38 : decode cX9_partItem 38 = .ok (.iaload, 1) := by decide +kernel
theorem dX9_partItem_39 : decode cX9_partItem 39 = .ok (.goto 7, 3) := by decide +kernel
theorem dX9_partItem_42 : decode cX9_partItem 42 = .ok (.aload_n 0, 1) := by decide +kernel
theorem dX9_partItem_43 : decode cX9_partItem 43 = .ok (.getfield 227, 3) := by decide +kernel
theorem dX9_partItem_46 : decode cX9_partItem 46 = .ok (.iastore, 1) := by decide +kernel
theorem dX9_partItem_47 : decode cX9_partItem 47 = .ok (.return_, 1) := by decide +kernel
theorem dX9_mayBe_0 : decode cX9_mayBe 0 = .ok (.aload_n 0, 1) := by decide +kernel
theorem dX9_mayBe_1 : decode cX9_mayBe 1 = .ok (.invokevirtual 234, 3) := by decide +kernel
theorem dX9_mayBe_4 : decode cX9_mayBe 4 = .ok (.lload_n 1, 1) := by decide +kernel
theorem dX9_mayBe_5 : decode cX9_mayBe 5 = .ok (.lcmp, 1) := by decide +kernel
theorem dX9_mayBe_6 : decode cX9_mayBe 6 = .ok (.ifCond .ne 7, 3) := by decide +kernel
theorem dX9_mayBe_9 : decode cX9_mayBe 9 = .ok (.iconst 1, 1) := by decide +kernel
theorem dX9_mayBe_10 : decode cX9_mayBe 10 = .ok (.goto 4, 3) := by decide +kernel
theorem dX9_mayBe_13 : decode cX9_mayBe 13 = .ok (.iconst 0, 1) := by decide +kernel
theorem dX9_mayBe_14 : decode cX9_mayBe 14 = .ok (.istore_n 3, 1) := by decide +kernel
theorem dX9_mayBe_15 : decode cX9_mayBe 15 = .ok (.iload_n 3, 1) := by decide +kernel
theorem dX9_mayBe_16 : decode cX9_mayBe 16 = .ok (.ifCond .eq 8, 3) := by decide +kernel
theorem dX9_mayBe_19 : decode cX9_mayBe 19 = .ok (.aload_n 0, 1) := by decide +kernel
theorem dX9_mayBe_20 : decode cX9_mayBe 20 = .ok (.iconst 1, 1) := by decide +kernel
theorem dX9_mayBe_21 : decode cX9_mayBe 21 = .ok (.invokevirtual 230, 3) := by decide +kernel
theorem dX9_mayBe_24 : decode cX9_mayBe 24 = .ok (.iload_n 3, 1) := by decide +kernel
theorem dX9_mayBe_25 : decode cX9_mayBe 25 = .ok (.ireturn, 1) := by decide +kernel
theorem dX9_childItem_0 : decode cX9_childItem 0 = .ok (.aload_n 0, 1) := by decide +kernel
theorem dX9_childItem_1 : decode cX9_childItem 1 = .ok (.aload_n 0, 1) := by decide +kernel
theorem dX9_childItem_2 : decode cX9_childItem 2 = .ok (.getfield 7, 3) := by decide +kernel
theorem dX9_childItem_5 : decode cX9_childItem 5 = .ok (.iconst 0, 1) := by decide +kernel
theorem dX9_childItem_6 : decode cX9_childItem 6 = .ok (.iaload, 1) := by decide +kernel
theorem dX9_childItem_7 : decode cX9_childItem 7 = .ok (.bipush 6, 2) := by decide +kernel
theorem dX9_childItem_9 : decode cX9_childItem 9 = .ok (.if_icmp .ge 7, 3) := by decide +kernel
theorem dX9_childItem_12 : decode cX9_childItem 12 = .ok (.iconst 1, 1) := by decide +kernel
theorem dX9_childItem_13 : decode cX9_childItem 13 = .ok (.goto 4, 3) := by decide +kernel
theorem dX9_childItem_16 : decode cX9_childItem 16 = .ok (.iconst 0, 1) := by decide +kernel
theorem dX9_childItem_17 : decode cX9_childItem 17 = .ok (.invokevirtual 230, 3) := by decide +kernel
theorem dX9_childItem_20 : decode cX9_childItem 20 = .ok (.aload_n 0, 1) := by decide +kernel
theorem dX9_childItem_21 : decode cX9_childItem 21 = .ok (.getfield 216, 3) := by decide +kernel
theorem dX9_childItem_24 : decode cX9_childItem 24 = .ok (.ifCond .eq 4, 3) := by decide +kernel
theorem dX9_childItem_27 : decode cX9_childItem 27 = .ok (.return_, 1) := by decide +kernel
theorem dX9_childItem_28 : decode cX9_childItem 28 = .ok (.aload_n 0, 1) := by decide +kernel
theorem dX9_childItem_29 : decode cX9_childItem 29 = .ok (.iload_n 1, 1) := by decide +kernel
theorem dX9_childItem_30 : decode cX9_childItem 30 = .ok (.invokevirtual 85, 3) := by decide +kernel
theorem dX9_childItem_33 : decode cX9_childItem 33 = .ok (.istore_n 2, 1) := by decide +kernel
theorem dX9_childItem_34 : decode cX9_childItem 34 = .ok (.aload_n 0, 1) := by decide +kernel
theorem dX9_childItem_35 : decode cX9_childItem 35 = .ok (.ldc2_w 254, 3) := by decide +kernel
theorem dX9_childItem_38 : decode cX9_childItem 38 = .ok (.iload_n 2, 1) := by decide +kernel
theorem dX9_childItem_39 : decode cX9_childItem 39 = .ok (.iconst 1, 1) := by decide +kernel
theorem dX9_childItem_40 : decode cX9_childItem 40 = .ok (.invokestatic 60, 3) := by decide +kernel
theorem dX9_childItem_43 : decode cX9_childItem 43 = .ok (.bipush 99, 2) := by decide +kernel
theorem dX9_childItem_45 : decode cX9_childItem 45 = .ok (.invokevirtual 256, 3) := by decide +kernel
theorem dX9_childItem_48 : decode cX9_childItem 48 = .ok (.aload_n 0, 1) := by decide +kernel
theorem dX9_childItem_49 : decode cX9_childItem 49 = .ok (.ldc2_w 260, 3) := by decide +kernel
theorem dX9_childItem_52 : decode cX9_childItem 52 = .ok (.iload_n 2, 1) := by decide +kernel
theorem dX9_childItem_53 : decode cX9_childItem 53 = .ok (.iconst 2, 1) := by decide +kernel
theorem dX9_childItem_54 : decode cX9_childItem 54 = .ok (.invokestatic 60, 3) := by decide +kernel
theorem dX9_childItem_57 : decode cX9_childItem 57 = .ok (.bipush 9, 2) := by decide +kernel
theorem dX9_childItem_59 : decode cX9_childItem 59 = .ok (.invokevirtual 256, 3) := by decide +kernel
theorem dX9_childItem_62 : decode cX9_childItem 62 = .ok (.aload_n 0, 1) := by decide +kernel
theorem dX9_childItem_63 : decode cX9_childItem 63 = .ok (.getfield 7, 3) := by decide +kernel
theorem dX9_childItem_66 : decode cX9_childItem 66 = .ok (.iload_n 2, 1) := by decide +kernel
theorem dX9_childItem_67 : decode cX9_childItem 67 = .ok (.iconst 3, 1) := by decide +kernel
theorem dX9_childItem_68 : decode cX9_childItem 68 = .ok (.invokestatic 60, 3) := by decide +kernel
theorem dX9_childItem_71 : decode cX9_childItem 71 = .ok (.aload_n 0, 1) := by decide +kernel
theorem dX9_childItem_72 : decode cX9_childItem 72 = .ok (.ldc2_w 262, 3) := by decide +kernel
theorem dX9_childItem_75 : decode cX9_childItem 75 = .ok (.invokevirtual 264, 3) := by decide +kernel
theorem dX9_childItem_78 : decode cX9_childItem 78 = .ok (.ifCond .eq 7, 3) := by decide +kernel
theorem dX9_childItem_81 : decode cX9_childItem 81 = .ok (.iconst 1, 1) := by decide +kernel
theorem dX9_childItem_82 : decode cX9_childItem 82 = .ok (.goto 4, 3) := by decide +kernel
theorem dX9_childItem_85 : decode cX9_childItem 85 = .ok (.iconst 0, 1) := by decide +kernel
theorem dX9_childItem_86 : decode cX9_childItem 86 = .ok (.iastore, 1) := by decide +kernel
theorem dX9_childItem_87 : decode cX9_childItem 87 = .ok (.return_, 1) := by decide +kernel
theorem dX9_seatItem_0 : decode cX9_seatItem 0 = .ok (.aload_n 0, 1) := by decide +kernel
theorem dX9_seatItem_1 : decode cX9_seatItem 1 = .ok (.iconst 1, 1) := by decide +kernel
theorem dX9_seatItem_2 : decode cX9_seatItem 2 = .ok (.invokevirtual 230, 3) := by decide +kernel
theorem dX9_seatItem_5 : decode cX9_seatItem 5 = .ok (.aload_n 0, 1) := by decide +kernel
theorem dX9_seatItem_6 : decode cX9_seatItem 6 = .ok (.iconst 0, 1) := by decide +kernel
theorem dX9_seatItem_7 : decode cX9_seatItem 7 = .ok (.iconst 2, 1) := by decide +kernel
theorem dX9_seatItem_8 : decode cX9_seatItem 8 = .ok (.invokevirtual 250, 3) := by decide +kernel
theorem dX9_seatItem_11 : decode cX9_seatItem 11 = .ok (.aload_n 0, 1) := by decide +kernel
theorem dX9_seatItem_12 : decode cX9_seatItem 12 = .ok (.getfield 216, 3) := by decide +kernel
theorem dX9_seatItem_15 : decode cX9_seatItem 15 = .ok (.ifCond .eq 7, 3) := by decide +kernel
theorem dX9_seatItem_18 : decode cX9_seatItem 18 = .ok (.iconst 0, 1) := by decide +kernel
theorem dX9_seatItem_19 : decode cX9_seatItem 19 = .ok (.goto 7, 3) := by decide +kernel
theorem dX9_seatItem_22 : decode cX9_seatItem 22 = .ok (.aload_n 0, 1) := by decide +kernel
theorem dX9_seatItem_23 : decode cX9_seatItem 23 = .ok (.getfield 227, 3) := by decide +kernel
theorem dX9_seatItem_26 : decode cX9_seatItem 26 = .ok (.istore_n 1, 1) := by decide +kernel
theorem dX9_seatItem_27 : decode cX9_seatItem 27 = .ok (.aload_n 0, 1) := by decide +kernel
theorem dX9_seatItem_28 : decode cX9_seatItem 28 = .ok (.ldc2_w 268, 3) := by decide +kernel
theorem dX9_seatItem_31 : decode cX9_seatItem 31 = .ok (.iload_n 1, 1) := by decide +kernel
theorem dX9_seatItem_32 : decode cX9_seatItem 32 = .ok (.iconst 0, 1) := by decide +kernel
theorem dX9_seatItem_33 : decode cX9_seatItem 33 = .ok (.invokestatic 47, 3) := by decide +kernel
theorem dX9_seatItem_36 : decode cX9_seatItem 36 = .ok (.iconst 5, 1) := by decide +kernel
theorem dX9_seatItem_37 : decode cX9_seatItem 37 = .ok (.invokevirtual 256, 3) := by decide +kernel
theorem dX9_seatItem_40 : decode cX9_seatItem 40 = .ok (.aload_n 0, 1) := by decide +kernel
theorem dX9_seatItem_41 : decode cX9_seatItem 41 = .ok (.ldc2_w 270, 3) := by decide +kernel
theorem dX9_seatItem_44 : decode cX9_seatItem 44 = .ok (.iload_n 1, 1) := by decide +kernel
theorem dX9_seatItem_45 : decode cX9_seatItem 45 = .ok (.iconst 1, 1) := by decide +kernel
theorem dX9_seatItem_46 : decode cX9_seatItem 46 = .ok (.invokestatic 47, 3) := by decide +kernel
theorem dX9_seatItem_49 : decode cX9_seatItem 49 = .ok (.bipush 9, 2) := by decide +kernel
theorem dX9_seatItem_51 : decode cX9_seatItem 51 = .ok (.invokevirtual 256, 3) := by decide +kernel
theorem dX9_seatItem_54 : decode cX9_seatItem 54 = .ok (.aload_n 0, 1) := by decide +kernel
theorem dX9_seatItem_55 : decode cX9_seatItem 55 = .ok (.getfield 7, 3) := by decide +kernel
theorem dX9_seatItem_58 : decode cX9_seatItem 58 = .ok (.iload_n 1, 1) := by decide +kernel
theorem dX9_seatItem_59 : decode cX9_seatItem 59 = .ok (.iconst 2, 1) := by decide +kernel
theorem dX9_seatItem_60 : decode cX9_seatItem 60 = .ok (.invokestatic 47, 3) := by decide +kernel
theorem dX9_seatItem_63 : decode cX9_seatItem 63 = .ok (.aload_n 0, 1) := by decide +kernel
theorem dX9_seatItem_64 : decode cX9_seatItem 64 = .ok (.ldc2_w 272, 3) := by decide +kernel
theorem dX9_seatItem_67 : decode cX9_seatItem 67 = .ok (.invokevirtual 264, 3) := by decide +kernel
theorem dX9_seatItem_70 : decode cX9_seatItem 70 = .ok (.ifCond .eq 7, 3) := by decide +kernel
theorem dX9_seatItem_73 : decode cX9_seatItem 73 = .ok (.iconst 1, 1) := by decide +kernel
theorem dX9_seatItem_74 : decode cX9_seatItem 74 = .ok (.goto 4, 3) := by decide +kernel
theorem dX9_seatItem_77 : decode cX9_seatItem 77 = .ok (.iconst 0, 1) := by decide +kernel
theorem dX9_seatItem_78 : decode cX9_seatItem 78 = .ok (.iastore, 1) := by decide +kernel
theorem dX9_seatItem_79 : decode cX9_seatItem 79 = .ok (.return_, 1) := by decide +kernel
theorem dX9_item_0 : decode cX9_item 0 = .ok (.aload_n 0, 1) := by decide +kernel
theorem dX9_item_1 : decode cX9_item 1 = .ok (.invokevirtual 274, 3) := by decide +kernel
theorem dX9_item_4 : decode cX9_item 4 = .ok (.istore_n 1, 1) := by decide +kernel
theorem dX9_item_5 : decode cX9_item 5 = .ok (.aload_n 0, 1) := by decide +kernel
theorem dX9_item_6 : decode cX9_item 6 = .ok (.invokevirtual 234, 3) := by decide +kernel
theorem dX9_item_9 : decode cX9_item 9 = .ok (.lstore_n 2, 1) := by decide +kernel
theorem dX9_item_10 : decode cX9_item 10 = .ok (.iload_n 1, 1) := by decide +kernel
theorem dX9_item_11 : decode cX9_item 11 = .ok (.ifCond .lt 11, 3) := by decide +kernel
theorem dX9_item_14 : decode cX9_item 14 = .ok (.aload_n 0, 1) := by decide +kernel
theorem dX9_item_15 : decode cX9_item 15 = .ok (.iload_n 1, 1) := by decide +kernel
theorem dX9_item_16 : decode cX9_item 16 = .ok (.invokevirtual 277, 3) := by decide +kernel
theorem dX9_item_19 : decode cX9_item 19 = .ok (.goto 68, 3) := by decide +kernel
theorem dX9_item_22 : decode cX9_item 22 = .ok (.lload_n 2, 1) := by decide +kernel
theorem dX9_item_23 : decode cX9_item 23 = .ok (.ldc2_w 280, 3) := by decide +kernel
theorem dX9_item_26 : decode cX9_item 26 = .ok (.lcmp, 1) := by decide +kernel
theorem dX9_item_27 : decode cX9_item 27 = .ok (.ifCond .ne 10, 3) := by decide +kernel
theorem dX9_item_30 : decode cX9_item 30 = .ok (.aload_n 0, 1) := by decide +kernel
theorem dX9_item_31 : decode cX9_item 31 = .ok (.invokevirtual 282, 3) := by decide +kernel
theorem dX9_item_34 : decode cX9_item 34 = .ok (.goto 53, 3) := by decide +kernel
theorem dX9_item_37 : decode cX9_item 37 = .ok (.aload_n 0, 1) := by decide +kernel
theorem dX9_item_38 : decode cX9_item 38 = .ok (.lload_n 2, 1) := by decide +kernel
theorem dX9_item_39 : decode cX9_item 39 = .ok (.ldc2_w 285, 3) := by decide +kernel
theorem dX9_item_42 : decode cX9_item 42 = .ok (.lcmp, 1) := by decide +kernel
theorem dX9_item_43 : decode cX9_item 43 = .ok (.ifCond .ne 7, 3) := by decide +kernel
theorem dX9_item_46 : decode cX9_item 46 = .ok (.iconst 1, 1) := by decide +kernel
theorem dX9_item_47 : decode cX9_item 47 = .ok (.goto 4, 3) := by decide +kernel
theorem dX9_item_50 : decode cX9_item 50 = .ok (.iconst 0, 1) := by decide +kernel
theorem dX9_item_51 : decode cX9_item 51 = .ok (.invokevirtual 230, 3) := by decide +kernel
theorem dX9_item_54 : decode cX9_item 54 = .ok (.aload_n 0, 1) := by decide +kernel
theorem dX9_item_55 : decode cX9_item 55 = .ok (.iconst 0, 1) := by decide +kernel
theorem dX9_item_56 : decode cX9_item 56 = .ok (.bipush 9, 2) := by decide +kernel
theorem dX9_item_58 : decode cX9_item 58 = .ok (.invokevirtual 250, 3) := by decide +kernel
theorem dX9_item_61 : decode cX9_item 61 = .ok (.aload_n 0, 1) := by decide +kernel
theorem dX9_item_62 : decode cX9_item 62 = .ok (.getfield 7, 3) := by decide +kernel
theorem dX9_item_65 : decode cX9_item 65 = .ok (.iconst 3, 1) := by decide +kernel
theorem dX9_item_66 : decode cX9_item 66 = .ok (.aload_n 0, 1) := by decide +kernel
theorem dX9_item_67 : decode cX9_item 67 = .ok (.getfield 216, 3) := by decide +kernel
theorem dX9_item_70 : decode cX9_item 70 = .ok (.ifCond .eq 12, 3) := by decide +kernel
theorem dX9_item_73 : decode cX9_item 73 = .ok (.aload_n 0, 1) := by decide +kernel
theorem dX9_item_74 : decode cX9_item 74 = .ok (.getfield 7, 3) := by decide +kernel
theorem dX9_item_77 : decode cX9_item 77 = .ok (.iconst 3, 1) := by decide +kernel
theorem dX9_item_78 : decode cX9_item 78 = .ok (.iaload, 1) := by decide +kernel
theorem dX9_item_79 : decode cX9_item 79 = .ok (.goto 7, 3) := by decide +kernel
theorem dX9_item_82 : decode cX9_item 82 = .ok (.aload_n 0, 1) := by decide +kernel
theorem dX9_item_83 : decode cX9_item 83 = .ok (.getfield 227, 3) := by decide +kernel
theorem dX9_item_86 : decode cX9_item 86 = .ok (.iastore, 1) := by decide +kernel
theorem dX9_item_87 : decode cX9_item 87 = .ok (.return_, 1) := by decide +kernel
theorem dX9_car_0 : decode cX9_car 0 = .ok (.aload_n 0, 1) := by decide +kernel
theorem dX9_car_1 : decode cX9_car 1 = .ok (.invokevirtual 287, 3) := by decide +kernel
theorem dX9_car_4 : decode cX9_car 4 = .ok (.aload_n 0, 1) := by decide +kernel
theorem dX9_car_5 : decode cX9_car 5 = .ok (.iconst 0, 1) := by decide +kernel
theorem dX9_car_6 : decode cX9_car 6 = .ok (.putfield 216, 3) := by decide +kernel
theorem dX9_car_9 : decode cX9_car 9 = .ok (.aload_n 0, 1) := by decide +kernel
theorem dX9_car_10 : decode cX9_car 10 = .ok (.iconst 0, 1) := by decide +kernel
theorem dX9_car_11 : decode cX9_car 11 = .ok (.putfield 201, 3) := by decide +kernel
theorem dX9_car_14 : decode cX9_car 14 = .ok (.aload_n 0, 1) := by decide +kernel
theorem dX9_car_15 : decode cX9_car 15 = .ok (.invokevirtual 220, 3) := by decide +kernel
theorem dX9_car_18 : decode cX9_car 18 = .ok (.iconst 1, 1) := by decide +kernel
theorem dX9_car_19 : decode cX9_car 19 = .ok (.istore_n 1, 1) := by decide +kernel
theorem dX9_car_20 : decode cX9_car 20 = .ok (.aload_n 0, 1) := by decide +kernel
theorem dX9_car_21 : decode cX9_car 21 = .ok (.invokevirtual 290, 3) := by decide +kernel
theorem dX9_car_24 : decode cX9_car 24 = .ok (.aload_n 0, 1) := by decide +kernel
theorem dX9_car_25 : decode cX9_car 25 = .ok (.getfield 216, 3) := by decide +kernel
theorem dX9_car_28 : decode cX9_car 28 = .ok (.ifCond .ne 31, 3) := by decide +kernel
theorem dX9_car_31 : decode cX9_car 31 = .ok (.aload_n 0, 1) := by decide +kernel
theorem dX9_car_32 : decode cX9_car 32 = .ok (.aload_n 0, 1) := by decide +kernel
theorem dX9_car_33 : decode cX9_car 33 = .ok (.getfield 204, 3) := by decide +kernel
theorem dX9_car_36 : decode cX9_car 36 = .ok (.invokevirtual 207, 3) := by decide +kernel
theorem dX9_car_39 : decode cX9_car 39 = .ok (.bipush 59, 2) := by decide +kernel
theorem dX9_car_41 : decode cX9_car 41 = .ok (.if_icmp .ne 18, 3) := by decide +kernel
theorem dX9_car_44 : decode cX9_car 44 = .ok (.aload_n 0, 1) := by decide +kernel
theorem dX9_car_45 : decode cX9_car 45 = .ok (.iconst 1, 1) := by decide +kernel
theorem dX9_car_46 : decode cX9_car 46 = .ok (.invokevirtual 230, 3) := by decide +kernel
theorem dX9_car_49 : decode cX9_car 49 = .ok (.aload_n 0, 1) := by decide +kernel
theorem dX9_car_50 : decode cX9_car 50 = .ok (.invokevirtual 290, 3) := by decide +kernel
theorem dX9_car_53 : decode cX9_car 53 = .ok (.iinc 1 1, 3) := by decide +kernel
theorem dX9_car_56 : decode cX9_car 56 = .ok (.goto (-32), 3) := by decide +kernel
theorem dX9_car_59 : decode cX9_car 59 = .ok (.aload_n 0, 1) := by decide +kernel
theorem dX9_car_60 : decode cX9_car 60 = .ok (.aload_n 0, 1) := by decide +kernel
theorem dX9_car_61 : decode cX9_car 61 = .ok (.getfield 216, 3) := by decide +kernel
theorem dX9_car_64 : decode cX9_car 64 = .ok (.ifCond .ne 14, 3) := by decide +kernel
theorem dX9_car_67 : decode cX9_car 67 = .ok (.aload_n 0, 1) := by decide +kernel
theorem dX9_car_68 : decode cX9_car 68 = .ok (.getfield 204, 3) := by decide +kernel
theorem dX9_car_71 : decode cX9_car 71 = .ok (.aload_n 0, 1) := by decide +kernel
theorem dX9_car_72 : decode cX9_car 72 = .ok (.getfield 190, 3) := by decide +kernel
theorem dX9_car_75 : decode cX9_car 75 = .ok (.if_icmp .ge 7, 3) := by decide +kernel
theorem dX9_car_78 : decode cX9_car 78 = .ok (.iconst 1, 1) := by decide +kernel
theorem dX9_car_79 : decode cX9_car 79 = .ok (.goto 4, 3) := by decide +kernel
theorem dX9_car_82 : decode cX9_car 82 = .ok (.iconst 0, 1) := by decide +kernel
theorem dX9_car_83 : decode cX9_car 83 = .ok (.putfield 216, 3) := by decide +kernel
theorem dX9_car_86 : decode cX9_car 86 = .ok (.aload_n 0, 1) := by decide +kernel
theorem dX9_car_87 : decode cX9_car 87 = .ok (.getfield 216, 3) := by decide +kernel
theorem dX9_car_90 : decode cX9_car 90 = .ok (.ifCond .eq 7, 3) := by decide +kernel
theorem dX9_car_93 : decode cX9_car 93 = .ok (.aload_n 0, 1) := by decide +kernel
theorem dX9_car_94 : decode cX9_car 94 = .ok (.invokevirtual 293, 3) := by decide +kernel
theorem dX9_car_97 : decode cX9_car 97 = .ok (.aload_n 0, 1) := by decide +kernel
theorem dX9_car_98 : decode cX9_car 98 = .ok (.iconst 0, 1) := by decide +kernel
theorem dX9_car_99 : decode cX9_car 99 = .ok (.putfield 190, 3) := by decide +kernel
theorem dX9_car_102 : decode cX9_car 102 = .ok (.aload_n 0, 1) := by decide +kernel
theorem dX9_car_103 : decode cX9_car 103 = .ok (.getfield 216, 3) := by decide +kernel
theorem dX9_car_106 : decode cX9_car 106 = .ok (.ifCond .eq 12, 3) := by decide +kernel
theorem dX9_car_109 : decode cX9_car 109 = .ok (.iconst (-1), 1) := by decide +kernel
theorem dX9_car_110 : decode cX9_car 110 = .ok (.aload_n 0, 1) := by decide +kernel
theorem dX9_car_111 : decode cX9_car 111 = .ok (.getfield 204, 3) := by decide +kernel
theorem dX9_car_114 : decode cX9_car 114 = .ok (.isub, 1) := by decide +kernel
theorem dX9_car_115 : decode cX9_car 115 = .ok (.goto 4, 3) := by decide +kernel
theorem dX9_car_118 : decode cX9_car 118 = .ok (.iload_n 1, 1) := by decide +kernel
theorem dX9_car_119 : decode cX9_car 119 = .ok (.ireturn, 1) := by decide +kernel
theorem dX9_isOne_0 : decode cX9_isOne 0 = .ok (.iload_n 0, 1) := by decide +kernel
theorem dX9_isOne_1 : decode cX9_isOne 1 = .ok (.i2l, 1) := by decide +kernel
theorem dX9_isOne_2 : decode cX9_isOne 2 = .ok (.lconst 0, 1) := by decide +kernel
theorem dX9_isOne_3 : decode cX9_isOne 3 = .ok (.ldc2_w 296, 3) := by decide +kernel
theorem dX9_isOne_6 : decode cX9_isOne 6 = .ok (.invokestatic 54, 3) := by decide +kernel
theorem dX9_isOne_9 : decode cX9_isOne 9 = .ok (.ireturn, 1) := by decide +kernel
theorem dX9_sheet_0 : decode cX9_sheet 0 = .ok (.iload_n 1, 1) := by decide +kernel
theorem dX9_sheet_1 : decode cX9_sheet 1 = .ok (.invokestatic 298, 3) := by decide +kernel
theorem dX9_sheet_4 : decode cX9_sheet 4 = .ok (.ifCond .eq 25, 3) := by decide +kernel
theorem dX9_sheet_7 : decode cX9_sheet 7 = .ok (.iload_n 2, 1) := by decide +kernel
theorem dX9_sheet_8 : decode cX9_sheet 8 = .ok (.ifCond .eq 28, 3) := by decide +kernel
theorem dX9_sheet_11 : decode cX9_sheet 11 = .ok (.iload_n 2, 1) := by decide +kernel
theorem dX9_sheet_12 : decode cX9_sheet 12 = .ok (.bipush 8, 2) := by decide +kernel
theorem dX9_sheet_14 : decode cX9_sheet 14 = .ok (.if_icmp .eq 22, 3) := by decide +kernel
theorem dX9_sheet_17 : decode cX9_sheet 17 = .ok (.iload_n 2, 1) := by decide +kernel
theorem dX9_sheet_18 : decode cX9_sheet 18 = .ok (.bipush 16, 2) := by decide +kernel
theorem dX9_sheet_20 : decode cX9_sheet 20 = .ok (.if_icmp .eq 16, 3) := by decide +kernel
theorem dX9_sheet_23 : decode cX9_sheet 23 = .ok (.iload_n 2, 1) := by decide +kernel
theorem dX9_sheet_24 : decode cX9_sheet 24 = .ok (.bipush 64, 2) := by decide +kernel
theorem dX9_sheet_26 : decode cX9_sheet 26 = .ok (.if_icmp .eq 10, 3) := by decide +kernel
theorem dX9_sheet_29 : decode cX9_sheet 29 = .ok (.aload_n 0, 1) := by decide +kernel
theorem dX9_sheet_30 : decode cX9_sheet 30 = .ok (.ldc 51, 2) := by decide +kernel
theorem dX9_sheet_32 : decode cX9_sheet 32 = .ok (.invokevirtual 75, 3) := by decide +kernel
theorem dX9_sheet_35 : decode cX9_sheet 35 = .ok (.ireturn, 1) := by decide +kernel
theorem dX9_sheet_36 : decode cX9_sheet 36 = .ok (.iload_n 3, 1) := by decide +kernel
theorem dX9_sheet_37 : decode cX9_sheet 37 = .ok (.ifCond .ge 10, 3) := by decide +kernel
theorem dX9_sheet_40 : decode cX9_sheet 40 = .ok (.aload_n 0, 1) := by decide +kernel
theorem dX9_sheet_41 : decode cX9_sheet 41 = .ok (.ldc 170, 2) := by decide +kernel
theorem dX9_sheet_43 : decode cX9_sheet 43 = .ok (.invokevirtual 75, 3) := by decide +kernel
theorem dX9_sheet_46 : decode cX9_sheet 46 = .ok (.ireturn, 1) := by decide +kernel
theorem dX9_sheet_47 : decode cX9_sheet 47 = .ok (.iload_n 3, 1) := by decide +kernel
theorem dX9_sheet_48 : decode cX9_sheet 48 = .ok (.bipush 40, 2) := by decide +kernel
theorem dX9_sheet_50 : decode cX9_sheet 50 = .ok (.if_icmp .le 10, 3) := by decide +kernel
theorem dX9_sheet_53 : decode cX9_sheet 53 = .ok (.aload_n 0, 1) := by decide +kernel
theorem dX9_sheet_54 : decode cX9_sheet 54 = .ok (.ldc 51, 2) := by decide +kernel
theorem dX9_sheet_56 : decode cX9_sheet 56 = .ok (.invokevirtual 75, 3) := by decide +kernel
theorem dX9_sheet_59 : decode cX9_sheet 59 = .ok (.ireturn, 1) := by decide +kernel
theorem dX9_sheet_60 : decode cX9_sheet 60 = .ok (.aload_n 0, 1) := by decide +kernel
theorem dX9_sheet_61 : decode cX9_sheet 61 = .ok (.getfield 34, 3) := by decide +kernel
theorem dX9_sheet_64 : decode cX9_sheet 64 = .ok (.iload_n 1, 1) := by decide +kernel
theorem dX9_sheet_65 : decode cX9_sheet 65 = .ok (.iload_n 2, 1) := by decide +kernel
theorem dX9_sheet_66 : decode cX9_sheet 66 = .ok (.iastore, 1) := by decide +kernel
theorem dX9_sheet_67 : decode cX9_sheet 67 = .ok (.aload_n 0, 1) := by decide +kernel
theorem dX9_sheet_68 : decode cX9_sheet 68 = .ok (.getfield 37, 3) := by decide +kernel
theorem dX9_sheet_71 : decode cX9_sheet 71 = .ok (.iload_n 1, 1) := by decide +kernel
theorem dX9_sheet_72 : decode cX9_sheet 72 = .ok (.iload_n 2, 1) := by decide +kernel
theorem dX9_sheet_73 : decode cX9_sheet 73 = .ok (.ifCond .ne 7, 3) := by decide +kernel
theorem dX9_sheet_76 : decode cX9_sheet 76 = .ok (.iconst 0, 1) := by decide +kernel
theorem dX9_sheet_77 : decode cX9_sheet 77 = .ok (.goto 4, 3) := by decide +kernel
theorem dX9_sheet_80 : decode cX9_sheet 80 = .ok (.iload_n 3, 1) := by decide +kernel
theorem dX9_sheet_81 : decode cX9_sheet 81 = .ok (.iastore, 1) := by decide +kernel
theorem dX9_sheet_82 : decode cX9_sheet 82 = .ok (.iconst 0, 1) := by decide +kernel
theorem dX9_sheet_83 : decode cX9_sheet 83 = .ok (.istore 4, 2) := by decide +kernel
theorem dX9_sheet_85 : decode cX9_sheet 85 = .ok (.iload 4, 2) := by decide +kernel
theorem dX9_sheet_87 : decode cX9_sheet 87 = .ok (.bipush 40, 2) := by decide +kernel
theorem dX9_sheet_89 : decode cX9_sheet 89 = .ok (.if_icmp .ge 22, 3) := by decide +kernel
theorem dX9_sheet_92 : decode cX9_sheet 92 = .ok (.aload_n 0, 1) := by decide +kernel
theorem dX9_sheet_93 : decode cX9_sheet 93 = .ok (.getfield 40, 3) := by decide +kernel
theorem dX9_sheet_96 : decode cX9_sheet 96 = .ok (.bipush 40, 2) := by decide +kernel
theorem dX9_sheet_98 : decode cX9_sheet 98 = .ok (.iload_n 1, 1) := by decide +kernel
theorem dX9_sheet_99 : decode cX9_sheet 99 = .ok (.imul, 1) := by decide +kernel
theorem dX9_sheet_100 : decode cX9_sheet 100 = .ok (.iload 4, 2) := by decide +kernel
theorem dX9_sheet_102 : decode cX9_sheet 102 = .ok (.iadd, 1) := by decide +kernel
theorem dX9_sheet_103 : decode cX9_sheet 103 = .ok (.lconst 0, 1) := by decide +kernel
theorem dX9_sheet_104 : decode cX9_sheet 104 = .ok (.lastore, 1) := by decide +kernel
theorem dX9_sheet_105 : decode cX9_sheet 105 = .ok (.iinc 4 1, 3) := by decide +kernel
theorem dX9_sheet_108 : decode cX9_sheet 108 = .ok (.goto (-23), 3) := by decide +kernel
theorem dX9_sheet_111 : decode cX9_sheet 111 = .ok (.aload_n 0, 1) := by decide +kernel
theorem dX9_sheet_112 : decode cX9_sheet 112 = .ok (.getfield 37, 3) := by decide +kernel
theorem dX9_sheet_115 : decode cX9_sheet 115 = .ok (.iload_n 1, 1) := by decide +kernel
theorem dX9_sheet_116 : decode cX9_sheet 116 = .ok (.iaload, 1) := by decide +kernel
theorem dX9_sheet_117 : decode cX9_sheet 117 = .ok (.ireturn, 1) := by decide +kernel
theorem dX9_narrowed_0 : decode cX9_narrowed 0 = .ok (.iload_n 0, 1) := by decide +kernel
theorem dX9_narrowed_1 : decode cX9_narrowed 1 = .ok (.bipush 8, 2) := by decide +kernel
theorem dX9_narrowed_3 : decode cX9_narrowed 3 = .ok (.if_icmp .ne 10, 3) := by decide +kernel
theorem dX9_narrowed_6 : decode cX9_narrowed 6 = .ok (.lload_n 1, 1) := by decide +kernel
theorem dX9_narrowed_7 : decode cX9_narrowed 7 = .ok (.l2i, 1) := by decide +kernel
theorem dX9_narrowed_8 : decode cX9_narrowed 8 = .ok (.i2b, 1) := by decide +kernel
theorem dX9_narrowed_9 : decode cX9_narrowed 9 = .ok (.i2l, 1) := by decide +kernel
theorem dX9_narrowed_10 : decode cX9_narrowed 10 = .ok (.goto 17, 3) := by decide +kernel
theorem dX9_narrowed_13 : decode cX9_narrowed 13 = .ok (.iload_n 0, 1) := by decide +kernel
theorem dX9_narrowed_14 : decode cX9_narrowed 14 = .ok (.bipush 16, 2) := by decide +kernel
theorem dX9_narrowed_16 : decode cX9_narrowed 16 = .ok (.if_icmp .ne 10, 3) := by decide +kernel
theorem dX9_narrowed_19 : decode cX9_narrowed 19 = .ok (.lload_n 1, 1) := by decide +kernel
theorem dX9_narrowed_20 : decode cX9_narrowed 20 = .ok (.l2i, 1) := by decide +kernel
theorem dX9_narrowed_21 : decode cX9_narrowed 21 = .ok (.i2s, 1) := by decide +kernel
theorem dX9_narrowed_22 : decode cX9_narrowed 22 = .ok (.i2l, 1) := by decide +kernel
theorem dX9_narrowed_23 : decode cX9_narrowed 23 = .ok (.goto 4, 3) := by decide +kernel
theorem dX9_narrowed_26 : decode cX9_narrowed 26 = .ok (.lload_n 1, 1) := by decide +kernel
theorem dX9_narrowed_27 : decode cX9_narrowed 27 = .ok (.lreturn, 1) := by decide +kernel
theorem dX9_wrongSheet_0 : decode cX9_wrongSheet 0 = .ok (.iload_n 1, 1) := by decide +kernel
theorem dX9_wrongSheet_1 : decode cX9_wrongSheet 1 = .ok (.invokestatic 298, 3) := by decide +kernel
theorem dX9_wrongSheet_4 : decode cX9_wrongSheet 4 = .ok (.ifCond .ne 8, 3) := by decide +kernel
theorem dX9_wrongSheet_7 : decode cX9_wrongSheet 7 = .ok (.ldc 51, 2) := by decide +kernel
theorem dX9_wrongSheet_9 : decode cX9_wrongSheet 9 = .ok (.goto 19, 3) := by decide +kernel
theorem dX9_wrongSheet_12 : decode cX9_wrongSheet 12 = .ok (.aload_n 0, 1) := by decide +kernel
theorem dX9_wrongSheet_13 : decode cX9_wrongSheet 13 = .ok (.getfield 34, 3) := by decide +kernel
theorem dX9_wrongSheet_16 : decode cX9_wrongSheet 16 = .ok (.iload_n 1, 1) := by decide +kernel
theorem dX9_wrongSheet_17 : decode cX9_wrongSheet 17 = .ok (.iaload, 1) := by decide +kernel
theorem dX9_wrongSheet_18 : decode cX9_wrongSheet 18 = .ok (.ifCond .ne 9, 3) := by decide +kernel
theorem dX9_wrongSheet_21 : decode cX9_wrongSheet 21 = .ok (.ldc_w 301, 3) := by decide +kernel
theorem dX9_wrongSheet_24 : decode cX9_wrongSheet 24 = .ok (.goto 4, 3) := by decide +kernel
theorem dX9_wrongSheet_27 : decode cX9_wrongSheet 27 = .ok (.iconst 0, 1) := by decide +kernel
theorem dX9_wrongSheet_28 : decode cX9_wrongSheet 28 = .ok (.ireturn, 1) := by decide +kernel
theorem dX9_write_0 : decode cX9_write 0 = .ok (.aload_n 0, 1) := by decide +kernel
theorem dX9_write_1 : decode cX9_write 1 = .ok (.iload_n 1, 1) := by decide +kernel
theorem dX9_write_2 : decode cX9_write 2 = .ok (.invokevirtual 302, 3) := by decide +kernel
theorem dX9_write_5 : decode cX9_write 5 = .ok (.istore 5, 2) := by decide +kernel
theorem dX9_write_7 : decode cX9_write 7 = .ok (.iload 5, 2) := by decide +kernel
theorem dX9_write_9 : decode cX9_write 9 = .ok (.ifCond .eq 11, 3) := by decide +kernel
theorem dX9_write_12 : decode cX9_write 12 = .ok (.aload_n 0, 1) := by decide +kernel
theorem dX9_write_13 : decode cX9_write 13 = .ok (.iload 5, 2) := by decide +kernel
theorem dX9_write_15 : decode cX9_write 15 = .ok (.invokevirtual 75, 3) := by decide +kernel
theorem dX9_write_18 : decode cX9_write 18 = .ok (.i2l, 1) := by decide +kernel
theorem dX9_write_19 : decode cX9_write 19 = .ok (.lreturn, 1) := by decide +kernel
theorem dX9_write_20 : decode cX9_write 20 = .ok (.iload_n 2, 1) := by decide +kernel
theorem dX9_write_21 : decode cX9_write 21 = .ok (.i2l, 1) := by decide +kernel
theorem dX9_write_22 : decode cX9_write 22 = .ok (.lconst 0, 1) := by decide +kernel
theorem dX9_write_23 : decode cX9_write 23 = .ok (.aload_n 0, 1) := by decide +kernel
theorem dX9_write_24 : decode cX9_write 24 = .ok (.getfield 37, 3) := by decide +kernel
theorem dX9_write_27 : decode cX9_write 27 = .ok (.iload_n 1, 1) := by decide +kernel
theorem dX9_write_28 : decode cX9_write 28 = .ok (.iaload, 1) := by decide +kernel
theorem dX9_write_29 : decode cX9_write 29 = .ok (.iconst 1, 1) := by decide +kernel
theorem dX9_write_30 : decode cX9_write 30 = .ok (.isub, 1) := by decide +kernel
theorem dX9_write_31 : decode cX9_write 31 = .ok (.i2l, 1) := by decide +kernel
theorem dX9_write_32 : decode cX9_write 32 = .ok (.invokestatic 54, 3) := by decide +kernel
theorem dX9_write_35 : decode cX9_write 35 = .ok (.ifCond .ne 11, 3) := by decide +kernel
theorem dX9_write_38 : decode cX9_write 38 = .ok (.aload_n 0, 1) := by decide +kernel
theorem dX9_write_39 : decode cX9_write 39 = .ok (.ldc 51, 2) := by decide +kernel
theorem dX9_write_41 : decode cX9_write 41 = .ok (.invokevirtual 75, 3) := by decide +kernel
theorem dX9_write_44 : decode cX9_write 44 = .ok (.i2l, 1) := by decide +kernel
theorem dX9_write_45 : decode cX9_write 45 = .ok (.lreturn, 1) := by decide +kernel
theorem dX9_write_46 : decode cX9_write 46 = .ok (.aload_n 0, 1) := by decide +kernel
theorem dX9_write_47 : decode cX9_write 47 = .ok (.getfield 40, 3) := by decide +kernel
theorem dX9_write_50 : decode cX9_write 50 = .ok (.bipush 40, 2) := by decide +kernel
theorem dX9_write_52 : decode cX9_write 52 = .ok (.iload_n 1, 1) := by decide +kernel
theorem dX9_write_53 : decode cX9_write 53 = .ok (.imul, 1) := by decide +kernel
theorem dX9_write_54 : decode cX9_write 54 = .ok (.iload_n 2, 1) := by decide +kernel
theorem dX9_write_55 : decode cX9_write 55 = .ok (.iadd, 1) := by decide +kernel
theorem dX9_write_56 : decode cX9_write 56 = .ok (.laload, 1) := by decide +kernel
theorem dX9_write_57 : decode cX9_write 57 = .ok (.lstore 6, 2) := by decide +kernel
theorem dX9_write_59 : decode cX9_write 59 = .ok (.aload_n 0, 1) := by decide +kernel
theorem dX9_write_60 : decode cX9_write 60 = .ok (.getfield 40, 3) := by decide +kernel
theorem dX9_write_63 : decode cX9_write 63 = .ok (.bipush 40, 2) := by decide +kernel
theorem dX9_write_65 : decode cX9_write 65 = .ok (.iload_n 1, 1) := by decide +kernel
theorem dX9_write_66 : decode cX9_write 66 = .ok (.imul, 1) := by decide +kernel
theorem dX9_write_67 : decode cX9_write 67 = .ok (.iload_n 2, 1) := by decide +kernel
theorem dX9_write_68 : decode cX9_write 68 = .ok (.iadd, 1) := by decide +kernel
theorem dX9_write_69 : decode cX9_write 69 = .ok (.aload_n 0, 1) := by decide +kernel
theorem dX9_write_70 : decode cX9_write 70 = .ok (.getfield 34, 3) := by decide +kernel
theorem dX9_write_73 : decode cX9_write 73 = .ok (.iload_n 1, 1) := by decide +kernel
theorem dX9_write_74 : decode cX9_write 74 = .ok (.iaload, 1) := by decide +kernel
theorem dX9_write_75 : decode cX9_write 75 = .ok (.lload_n 3, 1) := by decide +kernel
theorem dX9_write_76 : decode cX9_write 76 = .ok (.invokestatic 305, 3) := by decide +kernel
theorem dX9_write_79 : decode cX9_write 79 = .ok (.lastore, 1) := by decide +kernel
theorem dX9_write_80 : decode cX9_write 80 = .ok (.lload 6, 2) := by decide +kernel
theorem dX9_write_82 : decode cX9_write 82 = .ok (.lreturn, 1) := by decide +kernel
theorem dX9_copy_0 : decode cX9_copy 0 = .ok (.iload_n 1, 1) := by decide +kernel
theorem dX9_copy_1 : decode cX9_copy 1 = .ok (.invokestatic 298, 3) := by decide +kernel
theorem dX9_copy_4 : decode cX9_copy 4 = .ok (.ifCond .eq 10, 3) := by decide +kernel
theorem dX9_copy_7 : decode cX9_copy 7 = .ok (.iload_n 3, 1) := by decide +kernel
theorem dX9_copy_8 : decode cX9_copy 8 = .ok (.invokestatic 298, 3) := by decide +kernel
theorem dX9_copy_11 : decode cX9_copy 11 = .ok (.ifCond .ne 10, 3) := by decide +kernel
theorem dX9_copy_14 : decode cX9_copy 14 = .ok (.aload_n 0, 1) := by decide +kernel
theorem dX9_copy_15 : decode cX9_copy 15 = .ok (.ldc 51, 2) := by decide +kernel
theorem dX9_copy_17 : decode cX9_copy 17 = .ok (.invokevirtual 75, 3) := by decide +kernel
theorem dX9_copy_20 : decode cX9_copy 20 = .ok (.ireturn, 1) := by decide +kernel
theorem dX9_copy_21 : decode cX9_copy 21 = .ok (.aload_n 0, 1) := by decide +kernel
theorem dX9_copy_22 : decode cX9_copy 22 = .ok (.getfield 34, 3) := by decide +kernel
theorem dX9_copy_25 : decode cX9_copy 25 = .ok (.iload_n 1, 1) := by decide +kernel
theorem dX9_copy_26 : decode cX9_copy 26 = .ok (.iaload, 1) := by decide +kernel
theorem dX9_copy_27 : decode cX9_copy 27 = .ok (.ifCond .eq 12, 3) := by decide +kernel
theorem dX9_copy_30 : decode cX9_copy 30 = .ok (.aload_n 0, 1) := by decide +kernel
theorem dX9_copy_31 : decode cX9_copy 31 = .ok (.getfield 34, 3) := by decide +kernel
theorem dX9_copy_34 : decode cX9_copy 34 = .ok (.iload_n 3, 1) := by decide +kernel
theorem dX9_copy_35 : decode cX9_copy 35 = .ok (.iaload, 1) := by decide +kernel
theorem dX9_copy_36 : decode cX9_copy 36 = .ok (.ifCond .ne 11, 3) := by decide +kernel
theorem dX9_copy_39 : decode cX9_copy 39 = .ok (.aload_n 0, 1) := by decide +kernel
theorem dX9_copy_40 : decode cX9_copy 40 = .ok (.ldc_w 301, 3) := by decide +kernel
theorem dX9_copy_43 : decode cX9_copy 43 = .ok (.invokevirtual 75, 3) := by decide +kernel
theorem dX9_copy_46 : decode cX9_copy 46 = .ok (.ireturn, 1) := by decide +kernel
theorem dX9_copy_47 : decode cX9_copy 47 = .ok (.aload_n 0, 1) := by decide +kernel
theorem dX9_copy_48 : decode cX9_copy 48 = .ok (.getfield 34, 3) := by decide +kernel
theorem dX9_copy_51 : decode cX9_copy 51 = .ok (.iload_n 1, 1) := by decide +kernel
theorem dX9_copy_52 : decode cX9_copy 52 = .ok (.iaload, 1) := by decide +kernel
theorem dX9_copy_53 : decode cX9_copy 53 = .ok (.aload_n 0, 1) := by decide +kernel
theorem dX9_copy_54 : decode cX9_copy 54 = .ok (.getfield 34, 3) := by decide +kernel
theorem dX9_copy_57 : decode cX9_copy 57 = .ok (.iload_n 3, 1) := by decide +kernel
theorem dX9_copy_58 : decode cX9_copy 58 = .ok (.iaload, 1) := by decide +kernel
theorem dX9_copy_59 : decode cX9_copy 59 = .ok (.if_icmp .eq 10, 3) := by decide +kernel
theorem dX9_copy_62 : decode cX9_copy 62 = .ok (.aload_n 0, 1) := by decide +kernel
theorem dX9_copy_63 : decode cX9_copy 63 = .ok (.ldc 114, 2) := by decide +kernel
theorem dX9_copy_65 : decode cX9_copy 65 = .ok (.invokevirtual 75, 3) := by decide +kernel
theorem dX9_copy_68 : decode cX9_copy 68 = .ok (.ireturn, 1) := by decide +kernel
theorem dX9_copy_69 : decode cX9_copy 69 = .ok (.iload_n 2, 1) := by decide +kernel
theorem dX9_copy_70 : decode cX9_copy 70 = .ok (.ifCond .lt 40, 3) := by decide +kernel
theorem dX9_copy_73 : decode cX9_copy 73 = .ok (.iload 4, 2) := by decide +kernel
theorem dX9_copy_75 : decode cX9_copy 75 = .ok (.ifCond .lt 35, 3) := by decide +kernel
theorem dX9_copy_78 : decode cX9_copy 78 = .ok (.iload 5, 2) := by decide +kernel
theorem dX9_copy_80 : decode cX9_copy 80 = .ok (.ifCond .lt 30, 3) := by decide +kernel
theorem dX9_copy_83 : decode cX9_copy 83 = .ok (.iload 5, 2) := by decide +kernel
theorem dX9_copy_85 : decode cX9_copy 85 = .ok (.aload_n 0, 1) := by decide +kernel
theorem dX9_copy_86 : decode cX9_copy 86 = .ok (.getfield 37, 3) := by decide +kernel
theorem dX9_copy_89 : decode cX9_copy 89 = .ok (.iload_n 1, 1) := by decide +kernel
theorem dX9_copy_90 : decode cX9_copy 90 = .ok (.iaload, 1) := by decide +kernel
theorem dX9_copy_91 : decode cX9_copy 91 = .ok (.iload_n 2, 1) := by decide +kernel
theorem dX9_copy_92 : decode cX9_copy 92 = .ok (.isub, 1) := by decide +kernel
theorem dX9_copy_93 : decode cX9_copy 93 = .ok (.if_icmp .gt 17, 3) := by decide +kernel
theorem dX9_copy_96 : decode cX9_copy 96 = .ok (.iload 5, 2) := by decide +kernel
theorem dX9_copy_98 : decode cX9_copy 98 = .ok (.aload_n 0, 1) := by decide +kernel
theorem dX9_copy_99 : decode cX9_copy 99 = .ok (.getfield 37, 3) := by decide +kernel
theorem dX9_copy_102 : decode cX9_copy 102 = .ok (.iload_n 3, 1) := by decide +kernel
theorem dX9_copy_103 : decode cX9_copy 103 = .ok (.iaload, 1) := by decide +kernel
theorem dX9_copy_104 : decode cX9_copy 104 = .ok (.iload 4, 2) := by decide +kernel
theorem dX9_copy_106 : decode cX9_copy 106 = .ok (.isub, 1) := by decide +kernel
theorem dX9_copy_107 : decode cX9_copy 107 = .ok (.if_icmp .le 10, 3) := by decide +kernel
theorem dX9_copy_110 : decode cX9_copy 110 = .ok (.aload_n 0, 1) := by decide +kernel
theorem dX9_copy_111 : decode cX9_copy 111 = .ok (.ldc 51, 2) := by decide +kernel
theorem dX9_copy_113 : decode cX9_copy 113 = .ok (.invokevirtual 75, 3) := by decide +kernel
theorem dX9_copy_116 : decode cX9_copy 116 = .ok (.ireturn, 1) := by decide +kernel
theorem dX9_copy_117 : decode cX9_copy 117 = .ok (.iconst 0, 1) := by decide +kernel
theorem dX9_copy_118 : decode cX9_copy 118 = .ok (.istore 6, 2) := by decide +kernel
theorem dX9_copy_120 : decode cX9_copy 120 = .ok (.iload 6, 2) := by decide +kernel
theorem dX9_copy_122 : decode cX9_copy 122 = .ok (.iload 5, 2) := by decide +kernel
theorem dX9_copy_124 : decode cX9_copy 124 = .ok (.if_icmp .ge 30, 3) := by decide +kernel
theorem dX9_copy_127 : decode cX9_copy 127 = .ok (.aload_n 0, 1) := by decide +kernel
theorem dX9_copy_128 : decode cX9_copy 128 = .ok (.getfield 44, 3) := by decide +kernel
theorem dX9_copy_131 : decode cX9_copy 131 = .ok (.iload 6, 2) := by decide +kernel
theorem dX9_copy_133 : decode cX9_copy 133 = .ok (.aload_n 0, 1) := by decide +kernel
theorem dX9_copy_134 : decode cX9_copy 134 = .ok (.getfield 40, 3) := by decide +kernel
theorem dX9_copy_137 : decode cX9_copy 137 = .ok (.bipush 40, 2) := by decide +kernel
theorem dX9_copy_139 : decode cX9_copy 139 = .ok (.iload_n 1, 1) := by decide +kernel
theorem dX9_copy_140 : decode cX9_copy 140 = .ok (.imul, 1) := by decide +kernel
theorem dX9_copy_141 : decode cX9_copy 141 = .ok (.iload_n 2, 1) := by decide +kernel
theorem dX9_copy_142 : decode cX9_copy 142 = .ok (.iadd, 1) := by decide +kernel
theorem dX9_copy_143 : decode cX9_copy 143 = .ok (.iload 6, 2) := by decide +kernel
theorem dX9_copy_145 : decode cX9_copy 145 = .ok (.iadd, 1) := by decide +kernel
theorem dX9_copy_146 : decode cX9_copy 146 = .ok (.laload, 1) := by decide +kernel
theorem dX9_copy_147 : decode cX9_copy 147 = .ok (.lastore, 1) := by decide +kernel
theorem dX9_copy_148 : decode cX9_copy 148 = .ok (.iinc 6 1, 3) := by decide +kernel
theorem dX9_copy_151 : decode cX9_copy 151 = .ok (.goto (-31), 3) := by decide +kernel
theorem dX9_copy_154 : decode cX9_copy 154 = .ok (.iconst 0, 1) := by decide +kernel
theorem dX9_copy_155 : decode cX9_copy 155 = .ok (.istore 6, 2) := by decide +kernel
theorem dX9_copy_157 : decode cX9_copy 157 = .ok (.iload 6, 2) := by decide +kernel
theorem dX9_copy_159 : decode cX9_copy 159 = .ok (.iload 5, 2) := by decide +kernel
theorem dX9_copy_161 : decode cX9_copy 161 = .ok (.if_icmp .ge 31, 3) := by decide +kernel
theorem dX9_copy_164 : decode cX9_copy 164 = .ok (.aload_n 0, 1) := by decide +kernel
theorem dX9_copy_165 : decode cX9_copy 165 = .ok (.getfield 40, 3) := by decide +kernel
theorem dX9_copy_168 : decode cX9_copy 168 = .ok (.bipush 40, 2) := by decide +kernel
theorem dX9_copy_170 : decode cX9_copy 170 = .ok (.iload_n 3, 1) := by decide +kernel
theorem dX9_copy_171 : decode cX9_copy 171 = .ok (.imul, 1) := by decide +kernel
theorem dX9_copy_172 : decode cX9_copy 172 = .ok (.iload 4, 2) := by decide +kernel
theorem dX9_copy_174 : decode cX9_copy 174 = .ok (.iadd, 1) := by decide +kernel
theorem dX9_copy_175 : decode cX9_copy 175 = .ok (.iload 6, 2) := by decide +kernel
theorem dX9_copy_177 : decode cX9_copy 177 = .ok (.iadd, 1) := by decide +kernel
theorem dX9_copy_178 : decode cX9_copy 178 = .ok (.aload_n 0, 1) := by decide +kernel
theorem dX9_copy_179 : decode cX9_copy 179 = .ok (.getfield 44, 3) := by decide +kernel
theorem dX9_copy_182 : decode cX9_copy 182 = .ok (.iload 6, 2) := by decide +kernel
theorem dX9_copy_184 : decode cX9_copy 184 = .ok (.laload, 1) := by decide +kernel
theorem dX9_copy_185 : decode cX9_copy 185 = .ok (.lastore, 1) := by decide +kernel
theorem dX9_copy_186 : decode cX9_copy 186 = .ok (.iinc 6 1, 3) := by decide +kernel
theorem dX9_copy_189 : decode cX9_copy 189 = .ok (.goto (-32), 3) := by decide +kernel
theorem dX9_copy_192 : decode cX9_copy 192 = .ok (.iload 5, 2) := by decide +kernel
theorem dX9_copy_194 : decode cX9_copy 194 = .ok (.ireturn, 1) := by decide +kernel
theorem dX9_lays_0 : decode cX9_lays 0 = .ok (.aload_n 0, 1) := by decide +kernel
theorem dX9_lays_1 : decode cX9_lays 1 = .ok (.iload_n 1, 1) := by decide +kernel
theorem dX9_lays_2 : decode cX9_lays 2 = .ok (.invokevirtual 302, 3) := by decide +kernel
theorem dX9_lays_5 : decode cX9_lays 5 = .ok (.istore_n 2, 1) := by decide +kernel
theorem dX9_lays_6 : decode cX9_lays 6 = .ok (.iload_n 2, 1) := by decide +kernel
theorem dX9_lays_7 : decode cX9_lays 7 = .ok (.ifCond .eq 9, 3) := by decide +kernel
theorem dX9_lays_10 : decode cX9_lays 10 = .ok (.aload_n 0, 1) := by decide +kernel
theorem dX9_lays_11 : decode cX9_lays 11 = .ok (.iload_n 2, 1) := by decide +kernel
theorem dX9_lays_12 : decode cX9_lays 12 = .ok (.invokevirtual 75, 3) := by decide +kernel
theorem dX9_lays_15 : decode cX9_lays 15 = .ok (.ireturn, 1) := by decide +kernel
theorem dX9_lays_16 : decode cX9_lays 16 = .ok (.iconst 0, 1) := by decide +kernel
theorem dX9_lays_17 : decode cX9_lays 17 = .ok (.istore_n 3, 1) := by decide +kernel
theorem dX9_lays_18 : decode cX9_lays 18 = .ok (.iconst 0, 1) := by decide +kernel
theorem dX9_lays_19 : decode cX9_lays 19 = .ok (.istore 4, 2) := by decide +kernel
theorem dX9_lays_21 : decode cX9_lays 21 = .ok (.iload 4, 2) := by decide +kernel
theorem dX9_lays_23 : decode cX9_lays 23 = .ok (.aload_n 0, 1) := by decide +kernel
theorem dX9_lays_24 : decode cX9_lays 24 = .ok (.getfield 37, 3) := by decide +kernel
theorem dX9_lays_27 : decode cX9_lays 27 = .ok (.iload_n 1, 1) := by decide +kernel
theorem dX9_lays_28 : decode cX9_lays 28 = .ok (.iaload, 1) := by decide +kernel
theorem dX9_lays_29 : decode cX9_lays 29 = .ok (.if_icmp .ge 93, 3) := by decide +kernel
theorem dX9_lays_32 : decode cX9_lays 32 = .ok (.iload 4, 2) := by decide +kernel
theorem dX9_lays_34 : decode cX9_lays 34 = .ok (.aload_n 0, 1) := by decide +kernel
theorem dX9_lays_35 : decode cX9_lays 35 = .ok (.getfield 7, 3) := by decide +kernel
theorem dX9_lays_38 : decode cX9_lays 38 = .ok (.iconst 0, 1) := by decide +kernel
theorem dX9_lays_39 : decode cX9_lays 39 = .ok (.iaload, 1) := by decide +kernel
theorem dX9_lays_40 : decode cX9_lays 40 = .ok (.if_icmp .ge 82, 3) := by decide +kernel
theorem dX9_lays_43 : decode cX9_lays 43 = .ok (.aload_n 0, 1) := by decide +kernel
theorem dX9_lays_44 : decode cX9_lays 44 = .ok (.getfield 40, 3) := by decide +kernel
theorem dX9_lays_47 : decode cX9_lays 47 = .ok (.bipush 40, 2) := by decide +kernel
theorem dX9_lays_49 : decode cX9_lays 49 = .ok (.iload_n 1, 1) := by decide +kernel
theorem dX9_lays_50 : decode cX9_lays 50 = .ok (.imul, 1) := by decide +kernel
theorem dX9_lays_51 : decode cX9_lays 51 = .ok (.iload 4, 2) := by decide +kernel
theorem dX9_lays_53 : decode cX9_lays 53 = .ok (.iadd, 1) := by decide +kernel
theorem dX9_lays_54 : decode cX9_lays 54 = .ok (.laload, 1) := by decide +kernel
theorem dX9_lays_55 : decode cX9_lays 55 = .ok (.lconst 0, 1) := by decide +kernel
theorem dX9_lays_56 : decode cX9_lays 56 = .ok (.ldc2_w 66, 3) := by decide +kernel
theorem dX9_lays_59 : decode cX9_lays 59 = .ok (.invokestatic 54, 3) := by decide +kernel
theorem dX9_lays_62 : decode cX9_lays 62 = .ok (.istore 5, 2) := by decide +kernel
theorem dX9_lays_64 : decode cX9_lays 64 = .ok (.aload_n 0, 1) := by decide +kernel
theorem dX9_lays_65 : decode cX9_lays 65 = .ok (.getfield 7, 3) := by decide +kernel
theorem dX9_lays_68 : decode cX9_lays 68 = .ok (.iload 4, 2) := by decide +kernel
theorem dX9_lays_70 : decode cX9_lays 70 = .ok (.iconst 2, 1) := by decide +kernel
theorem dX9_lays_71 : decode cX9_lays 71 = .ok (.invokestatic 60, 3) := by decide +kernel
theorem dX9_lays_74 : decode cX9_lays 74 = .ok (.iload 5, 2) := by decide +kernel
theorem dX9_lays_76 : decode cX9_lays 76 = .ok (.ifCond .eq 19, 3) := by decide +kernel
theorem dX9_lays_79 : decode cX9_lays 79 = .ok (.aload_n 0, 1) := by decide +kernel
theorem dX9_lays_80 : decode cX9_lays 80 = .ok (.getfield 40, 3) := by decide +kernel
theorem dX9_lays_83 : decode cX9_lays 83 = .ok (.bipush 40, 2) := by decide +kernel
theorem dX9_lays_85 : decode cX9_lays 85 = .ok (.iload_n 1, 1) := by decide +kernel
theorem dX9_lays_86 : decode cX9_lays 86 = .ok (.imul, 1) := by decide +kernel
theorem dX9_lays_87 : decode cX9_lays 87 = .ok (.iload 4, 2) := by decide +kernel
theorem dX9_lays_89 : decode cX9_lays 89 = .ok (.iadd, 1) := by decide +kernel
theorem dX9_lays_90 : decode cX9_lays 90 = .ok (.laload, 1) := by decide +kernel
theorem dX9_lays_91 : decode cX9_lays 91 = .ok (.l2i, 1) := by decide +kernel
theorem dX9_lays_92 : decode cX9_lays 92 = .ok (.goto 10, 3) := by decide +kernel
theorem dX9_lays_95 : decode cX9_lays 95 = .ok (.aload_n 0, 1) := by decide +kernel
theorem dX9_lays_96 : decode cX9_lays 96 = .ok (.iload 4, 2) := by decide +kernel
theorem dX9_lays_98 : decode cX9_lays 98 = .ok (.iconst 2, 1) := by decide +kernel
theorem dX9_lays_99 : decode cX9_lays 99 = .ok (.invokevirtual 94, 3) := by decide +kernel
theorem dX9_lays_102 : decode cX9_lays 102 = .ok (.iastore, 1) := by decide +kernel
theorem dX9_lays_103 : decode cX9_lays 103 = .ok (.iload_n 3, 1) := by decide +kernel
theorem dX9_lays_104 : decode cX9_lays 104 = .ok (.iload 5, 2) := by decide +kernel
theorem dX9_lays_106 : decode cX9_lays 106 = .ok (.ifCond .eq 7, 3) := by decide +kernel
theorem dX9_lays_109 : decode cX9_lays 109 = .ok (.iconst 1, 1) := by decide +kernel
theorem dX9_lays_110 : decode cX9_lays 110 = .ok (.goto 4, 3) := by decide +kernel
theorem dX9_lays_113 : decode cX9_lays 113 = .ok (.iconst 0, 1) := by decide +kernel
theorem dX9_lays_114 : decode cX9_lays 114 = .ok (.iadd, 1) := by decide +kernel
theorem dX9_lays_115 : decode cX9_lays 115 = .ok (.istore_n 3, 1) := by decide +kernel
theorem dX9_lays_116 : decode cX9_lays 116 = .ok (.iinc 4 1, 3) := by decide +kernel
theorem dX9_lays_119 : decode cX9_lays 119 = .ok (.goto (-98), 3) := by decide +kernel
theorem dX9_lays_122 : decode cX9_lays 122 = .ok (.iload_n 3, 1) := by decide +kernel
theorem dX9_lays_123 : decode cX9_lays 123 = .ok (.ireturn, 1) := by decide +kernel
theorem dX9_wrongBook_0 : decode cX9_wrongBook 0 = .ok (.aload_n 0, 1) := by decide +kernel
theorem dX9_wrongBook_1 : decode cX9_wrongBook 1 = .ok (.iload_n 1, 1) := by decide +kernel
theorem dX9_wrongBook_2 : decode cX9_wrongBook 2 = .ok (.invokevirtual 302, 3) := by decide +kernel
theorem dX9_wrongBook_5 : decode cX9_wrongBook 5 = .ok (.istore_n 3, 1) := by decide +kernel
theorem dX9_wrongBook_6 : decode cX9_wrongBook 6 = .ok (.iload_n 3, 1) := by decide +kernel
theorem dX9_wrongBook_7 : decode cX9_wrongBook 7 = .ok (.ifCond .eq 7, 3) := by decide +kernel
theorem dX9_wrongBook_10 : decode cX9_wrongBook 10 = .ok (.iload_n 3, 1) := by decide +kernel
theorem dX9_wrongBook_11 : decode cX9_wrongBook 11 = .ok (.goto 17, 3) := by decide +kernel
theorem dX9_wrongBook_14 : decode cX9_wrongBook 14 = .ok (.aload_n 0, 1) := by decide +kernel
theorem dX9_wrongBook_15 : decode cX9_wrongBook 15 = .ok (.iload_n 2, 1) := by decide +kernel
theorem dX9_wrongBook_16 : decode cX9_wrongBook 16 = .ok (.invokevirtual 100, 3) := by decide +kernel
theorem dX9_wrongBook_19 : decode cX9_wrongBook 19 = .ok (.ifCond .eq 7, 3) := by decide +kernel
theorem dX9_wrongBook_22 : decode cX9_wrongBook 22 = .ok (.iconst 0, 1) := by decide +kernel
theorem dX9_wrongBook_23 : decode cX9_wrongBook 23 = .ok (.goto 5, 3) := by decide +kernel
theorem dX9_wrongBook_26 : decode cX9_wrongBook 26 = .ok (.ldc 51, 2) := by decide +kernel
theorem dX9_wrongBook_28 : decode cX9_wrongBook 28 = .ok (.ireturn, 1) := by decide +kernel
theorem dX9_book_0 : decode cX9_book 0 = .ok (.aload_n 0, 1) := by decide +kernel
theorem dX9_book_1 : decode cX9_book 1 = .ok (.iload_n 1, 1) := by decide +kernel
theorem dX9_book_2 : decode cX9_book 2 = .ok (.iload_n 2, 1) := by decide +kernel
theorem dX9_book_3 : decode cX9_book 3 = .ok (.invokevirtual 309, 3) := by decide +kernel
theorem dX9_book_6 : decode cX9_book 6 = .ok (.istore_n 3, 1) := by decide +kernel
theorem dX9_book_7 : decode cX9_book 7 = .ok (.iload_n 3, 1) := by decide +kernel
theorem dX9_book_8 : decode cX9_book 8 = .ok (.ifCond .eq 9, 3) := by decide +kernel
theorem dX9_book_11 : decode cX9_book 11 = .ok (.aload_n 0, 1) := by decide +kernel
theorem dX9_book_12 : decode cX9_book 12 = .ok (.iload_n 3, 1) := by decide +kernel
theorem dX9_book_13 : decode cX9_book 13 = .ok (.invokevirtual 75, 3) := by decide +kernel
theorem dX9_book_16 : decode cX9_book 16 = .ok (.ireturn, 1) := by decide +kernel
theorem dX9_book_17 : decode cX9_book 17 = .ok (.aload_n 0, 1) := by decide +kernel
theorem dX9_book_18 : decode cX9_book 18 = .ok (.invokevirtual 154, 3) := by decide +kernel
theorem dX9_book_21 : decode cX9_book 21 = .ok (.iconst 0, 1) := by decide +kernel
theorem dX9_book_22 : decode cX9_book 22 = .ok (.istore 4, 2) := by decide +kernel
theorem dX9_book_24 : decode cX9_book 24 = .ok (.iload 4, 2) := by decide +kernel
theorem dX9_book_26 : decode cX9_book 26 = .ok (.aload_n 0, 1) := by decide +kernel
theorem dX9_book_27 : decode cX9_book 27 = .ok (.getfield 37, 3) := by decide +kernel
theorem dX9_book_30 : decode cX9_book 30 = .ok (.iload_n 1, 1) := by decide +kernel
theorem dX9_book_31 : decode cX9_book 31 = .ok (.iaload, 1) := by decide +kernel
theorem dX9_book_32 : decode cX9_book 32 = .ok (.if_icmp .ge 41, 3) := by decide +kernel
theorem dX9_book_35 : decode cX9_book 35 = .ok (.aload_n 0, 1) := by decide +kernel
theorem dX9_book_36 : decode cX9_book 36 = .ok (.getfield 40, 3) := by decide +kernel
theorem dX9_book_39 : decode cX9_book 39 = .ok (.bipush 40, 2) := by decide +kernel
theorem dX9_book_41 : decode cX9_book 41 = .ok (.iload_n 1, 1) := by decide +kernel
theorem dX9_book_42 : decode cX9_book 42 = .ok (.imul, 1) := by decide +kernel
theorem dX9_book_43 : decode cX9_book 43 = .ok (.iload 4, 2) := by decide +kernel
theorem dX9_book_45 : decode cX9_book 45 = .ok (.iadd, 1) := by decide +kernel
theorem dX9_book_46 : decode cX9_book 46 = .ok (.aload_n 0, 1) := by decide +kernel
theorem dX9_book_47 : decode cX9_book 47 = .ok (.getfield 34, 3) := by decide +kernel
theorem dX9_book_50 : decode cX9_book 50 = .ok (.iload_n 1, 1) := by decide +kernel
theorem dX9_book_51 : decode cX9_book 51 = .ok (.iaload, 1) := by decide +kernel
theorem dX9_book_52 : decode cX9_book 52 = .ok (.aload_n 0, 1) := by decide +kernel
theorem dX9_book_53 : decode cX9_book 53 = .ok (.iload_n 2, 1) := by decide +kernel
theorem dX9_book_54 : decode cX9_book 54 = .ok (.iconst 2, 1) := by decide +kernel
theorem dX9_book_55 : decode cX9_book 55 = .ok (.invokevirtual 94, 3) := by decide +kernel
theorem dX9_book_58 : decode cX9_book 58 = .ok (.i2l, 1) := by decide +kernel
theorem dX9_book_59 : decode cX9_book 59 = .ok (.invokestatic 305, 3) := by decide +kernel
theorem dX9_book_62 : decode cX9_book 62 = .ok (.lastore, 1) := by decide +kernel
theorem dX9_book_63 : decode cX9_book 63 = .ok (.aload_n 0, 1) := by decide +kernel
theorem dX9_book_64 : decode cX9_book 64 = .ok (.invokevirtual 139, 3) := by decide +kernel
theorem dX9_book_67 : decode cX9_book 67 = .ok (.iinc 4 1, 3) := by decide +kernel
theorem dX9_book_70 : decode cX9_book 70 = .ok (.goto (-46), 3) := by decide +kernel
theorem dX9_book_73 : decode cX9_book 73 = .ok (.aload_n 0, 1) := by decide +kernel
theorem dX9_book_74 : decode cX9_book 74 = .ok (.aload_n 0, 1) := by decide +kernel
theorem dX9_book_75 : decode cX9_book 75 = .ok (.getfield 37, 3) := by decide +kernel
theorem dX9_book_78 : decode cX9_book 78 = .ok (.iload_n 1, 1) := by decide +kernel
theorem dX9_book_79 : decode cX9_book 79 = .ok (.iaload, 1) := by decide +kernel
theorem dX9_book_80 : decode cX9_book 80 = .ok (.invokevirtual 157, 3) := by decide +kernel
theorem dX9_book_83 : decode cX9_book 83 = .ok (.ireturn, 1) := by decide +kernel
theorem dX9_isBook_0 : decode cX9_isBook 0 = .ok (.iconst 0, 1) := by decide +kernel
theorem dX9_isBook_1 : decode cX9_isBook 1 = .ok (.istore_n 3, 1) := by decide +kernel
theorem dX9_isBook_2 : decode cX9_isBook 2 = .ok (.iload_n 3, 1) := by decide +kernel
theorem dX9_isBook_3 : decode cX9_isBook 3 = .ok (.aload_n 0, 1) := by decide +kernel
theorem dX9_isBook_4 : decode cX9_isBook 4 = .ok (.getfield 37, 3) := by decide +kernel
theorem dX9_isBook_7 : decode cX9_isBook 7 = .ok (.iload_n 1, 1) := by decide +kernel
theorem dX9_isBook_8 : decode cX9_isBook 8 = .ok (.iaload, 1) := by decide +kernel
theorem dX9_isBook_9 : decode cX9_isBook 9 = .ok (.if_icmp .ge 37, 3) := by decide +kernel
theorem dX9_isBook_12 : decode cX9_isBook 12 = .ok (.aload_n 0, 1) := by decide +kernel
theorem dX9_isBook_13 : decode cX9_isBook 13 = .ok (.getfield 40, 3) := by decide +kernel
theorem dX9_isBook_16 : decode cX9_isBook 16 = .ok (.bipush 40, 2) := by decide +kernel
theorem dX9_isBook_18 : decode cX9_isBook 18 = .ok (.iload_n 1, 1) := by decide +kernel
theorem dX9_isBook_19 : decode cX9_isBook 19 = .ok (.imul, 1) := by decide +kernel
theorem dX9_isBook_20 : decode cX9_isBook 20 = .ok (.iload_n 3, 1) := by decide +kernel
theorem dX9_isBook_21 : decode cX9_isBook 21 = .ok (.iadd, 1) := by decide +kernel
theorem dX9_isBook_22 : decode cX9_isBook 22 = .ok (.laload, 1) := by decide +kernel
theorem dX9_isBook_23 : decode cX9_isBook 23 = .ok (.aload_n 0, 1) := by decide +kernel
theorem dX9_isBook_24 : decode cX9_isBook 24 = .ok (.iload_n 2, 1) := by decide +kernel
theorem dX9_isBook_25 : decode cX9_isBook 25 = .ok (.iconst 2, 1) := by decide +kernel
theorem dX9_isBook_26 : decode cX9_isBook 26 = .ok (.invokevirtual 94, 3) := by decide +kernel
theorem dX9_isBook_29 : decode cX9_isBook 29 = .ok (.i2l, 1) := by decide +kernel
theorem dX9_isBook_30 : decode cX9_isBook 30 = .ok (.lcmp, 1) := by decide +kernel
theorem dX9_isBook_31 : decode cX9_isBook 31 = .ok (.ifCond .eq 5, 3) := by decide +kernel
theorem dX9_isBook_34 : decode cX9_isBook 34 = .ok (.iconst 0, 1) := by decide +kernel
theorem dX9_isBook_35 : decode cX9_isBook 35 = .ok (.ireturn, 1) := by decide +kernel
theorem dX9_isBook_36 : decode cX9_isBook 36 = .ok (.aload_n 0, 1) := by decide +kernel
theorem dX9_isBook_37 : decode cX9_isBook 37 = .ok (.invokevirtual 139, 3) := by decide +kernel
theorem dX9_isBook_40 : decode cX9_isBook 40 = .ok (.iinc 3 1, 3) := by decide +kernel
theorem dX9_isBook_43 : decode cX9_isBook 43 = .ok (.goto (-41), 3) := by decide +kernel
theorem dX9_isBook_46 : decode cX9_isBook 46 = .ok (.iconst 1, 1) := by decide +kernel
theorem dX9_isBook_47 : decode cX9_isBook 47 = .ok (.ireturn, 1) := by decide +kernel
theorem dX9_read_0 : decode cX9_read 0 = .ok (.aload_n 0, 1) := by decide +kernel
theorem dX9_read_1 : decode cX9_read 1 = .ok (.iload_n 1, 1) := by decide +kernel
theorem dX9_read_2 : decode cX9_read 2 = .ok (.iload_n 2, 1) := by decide +kernel
theorem dX9_read_3 : decode cX9_read 3 = .ok (.invokevirtual 309, 3) := by decide +kernel
theorem dX9_read_6 : decode cX9_read 6 = .ok (.istore_n 3, 1) := by decide +kernel
theorem dX9_read_7 : decode cX9_read 7 = .ok (.iload_n 3, 1) := by decide +kernel
theorem dX9_read_8 : decode cX9_read 8 = .ok (.ifCond .eq 9, 3) := by decide +kernel
theorem dX9_read_11 : decode cX9_read 11 = .ok (.aload_n 0, 1) := by decide +kernel
theorem dX9_read_12 : decode cX9_read 12 = .ok (.iload_n 3, 1) := by decide +kernel
theorem dX9_read_13 : decode cX9_read 13 = .ok (.invokevirtual 75, 3) := by decide +kernel
theorem dX9_read_16 : decode cX9_read 16 = .ok (.ireturn, 1) := by decide +kernel
theorem dX9_read_17 : decode cX9_read 17 = .ok (.aload_n 0, 1) := by decide +kernel
theorem dX9_read_18 : decode cX9_read 18 = .ok (.iload_n 2, 1) := by decide +kernel
theorem dX9_read_19 : decode cX9_read 19 = .ok (.invokevirtual 91, 3) := by decide +kernel
theorem dX9_read_22 : decode cX9_read 22 = .ok (.ifCond .ge 7, 3) := by decide +kernel
theorem dX9_read_25 : decode cX9_read 25 = .ok (.iconst 1, 1) := by decide +kernel
theorem dX9_read_26 : decode cX9_read 26 = .ok (.goto 5, 3) := by decide +kernel
theorem dX9_read_29 : decode cX9_read 29 = .ok (.bipush 10, 2) := by decide +kernel
theorem dX9_read_31 : decode cX9_read 31 = .ok (.istore 4, 2) := by decide +kernel
theorem dX9_read_33 : decode cX9_read 33 = .ok (.aload_n 0, 1) := by decide +kernel
theorem dX9_read_34 : decode cX9_read 34 = .ok (.invokevirtual 154, 3) := by decide +kernel
theorem dX9_read_37 : decode cX9_read 37 = .ok (.iconst 0, 1) := by decide +kernel
theorem dX9_read_38 : decode cX9_read 38 = .ok (.istore 5, 2) := by decide +kernel
theorem dX9_read_40 : decode cX9_read 40 = .ok (.iconst 0, 1) := by decide +kernel
theorem dX9_read_41 : decode cX9_read 41 = .ok (.istore 6, 2) := by decide +kernel
theorem dX9_read_43 : decode cX9_read 43 = .ok (.iload 6, 2) := by decide +kernel
theorem dX9_read_45 : decode cX9_read 45 = .ok (.bipush 6, 2) := by decide +kernel
theorem dX9_read_47 : decode cX9_read 47 = .ok (.iload 4, 2) := by decide +kernel
theorem dX9_read_49 : decode cX9_read 49 = .ok (.imul, 1) := by decide +kernel
theorem dX9_read_50 : decode cX9_read 50 = .ok (.if_icmp .ge 62, 3) := by decide +kernel
theorem dX9_read_53 : decode cX9_read 53 = .ok (.aload_n 0, 1) := by decide +kernel
theorem dX9_read_54 : decode cX9_read 54 = .ok (.getfield 7, 3) := by decide +kernel
theorem dX9_read_57 : decode cX9_read 57 = .ok (.iload_n 2, 1) := by decide +kernel
theorem dX9_read_58 : decode cX9_read 58 = .ok (.iconst 0, 1) := by decide +kernel
theorem dX9_read_59 : decode cX9_read 59 = .ok (.invokestatic 60, 3) := by decide +kernel
theorem dX9_read_62 : decode cX9_read 62 = .ok (.iload 6, 2) := by decide +kernel
theorem dX9_read_64 : decode cX9_read 64 = .ok (.iload 4, 2) := by decide +kernel
theorem dX9_read_66 : decode cX9_read 66 = .ok (.idiv, 1) := by decide +kernel
theorem dX9_read_67 : decode cX9_read 67 = .ok (.iastore, 1) := by decide +kernel
theorem dX9_read_68 : decode cX9_read 68 = .ok (.aload_n 0, 1) := by decide +kernel
theorem dX9_read_69 : decode cX9_read 69 = .ok (.getfield 7, 3) := by decide +kernel
theorem dX9_read_72 : decode cX9_read 72 = .ok (.iload_n 2, 1) := by decide +kernel
theorem dX9_read_73 : decode cX9_read 73 = .ok (.iconst 5, 1) := by decide +kernel
theorem dX9_read_74 : decode cX9_read 74 = .ok (.invokestatic 60, 3) := by decide +kernel
theorem dX9_read_77 : decode cX9_read 77 = .ok (.iload 6, 2) := by decide +kernel
theorem dX9_read_79 : decode cX9_read 79 = .ok (.iload 4, 2) := by decide +kernel
theorem dX9_read_81 : decode cX9_read 81 = .ok (.irem, 1) := by decide +kernel
theorem dX9_read_82 : decode cX9_read 82 = .ok (.iastore, 1) := by decide +kernel
theorem dX9_read_83 : decode cX9_read 83 = .ok (.aload_n 0, 1) := by decide +kernel
theorem dX9_read_84 : decode cX9_read 84 = .ok (.iload 5, 2) := by decide +kernel
theorem dX9_read_86 : decode cX9_read 86 = .ok (.aload_n 0, 1) := by decide +kernel
theorem dX9_read_87 : decode cX9_read 87 = .ok (.iload_n 1, 1) := by decide +kernel
theorem dX9_read_88 : decode cX9_read 88 = .ok (.iload_n 2, 1) := by decide +kernel
theorem dX9_read_89 : decode cX9_read 89 = .ok (.invokevirtual 312, 3) := by decide +kernel
theorem dX9_read_92 : decode cX9_read 92 = .ok (.ifCond .eq 7, 3) := by decide +kernel
theorem dX9_read_95 : decode cX9_read 95 = .ok (.iconst 1, 1) := by decide +kernel
theorem dX9_read_96 : decode cX9_read 96 = .ok (.goto 4, 3) := by decide +kernel
theorem dX9_read_99 : decode cX9_read 99 = .ok (.iconst 0, 1) := by decide +kernel
theorem dX9_read_100 : decode cX9_read 100 = .ok (.iadd, 1) := by decide +kernel
theorem dX9_read_101 : decode cX9_read 101 = .ok (.invokevirtual 157, 3) := by decide +kernel
theorem dX9_read_104 : decode cX9_read 104 = .ok (.istore 5, 2) := by decide +kernel
theorem dX9_read_106 : decode cX9_read 106 = .ok (.iinc 6 1, 3) := by decide +kernel
theorem dX9_read_109 : decode cX9_read 109 = .ok (.goto (-66), 3) := by decide +kernel
theorem dX9_read_112 : decode cX9_read 112 = .ok (.iload 5, 2) := by decide +kernel
theorem dX9_read_114 : decode cX9_read 114 = .ok (.ireturn, 1) := by decide +kernel
theorem dX9_image_0 : decode cX9_image 0 = .ok (.iconst 0, 1) := by decide +kernel
theorem dX9_image_1 : decode cX9_image 1 = .ok (.istore_n 1, 1) := by decide +kernel
theorem dX9_image_2 : decode cX9_image 2 = .ok (.iload_n 1, 1) := by decide +kernel
theorem dX9_image_3 : decode cX9_image 3 = .ok (.bipush 55, 2) := by decide +kernel
theorem dX9_image_5 : decode cX9_image 5 = .ok (.if_icmp .ge 21, 3) := by decide +kernel
theorem dX9_image_8 : decode cX9_image 8 = .ok (.aload_n 0, 1) := by decide +kernel
theorem dX9_image_9 : decode cX9_image 9 = .ok (.getfield 13, 3) := by decide +kernel
theorem dX9_image_12 : decode cX9_image 12 = .ok (.iload_n 1, 1) := by decide +kernel
theorem dX9_image_13 : decode cX9_image 13 = .ok (.aload_n 0, 1) := by decide +kernel
theorem dX9_image_14 : decode cX9_image 14 = .ok (.getfield 7, 3) := by decide +kernel
theorem dX9_image_17 : decode cX9_image 17 = .ok (.iload_n 1, 1) := by decide +kernel
theorem dX9_image_18 : decode cX9_image 18 = .ok (.iaload, 1) := by decide +kernel
theorem dX9_image_19 : decode cX9_image 19 = .ok (.iastore, 1) := by decide +kernel
theorem dX9_image_20 : decode cX9_image 20 = .ok (.iinc 1 1, 3) := by decide +kernel
theorem dX9_image_23 : decode cX9_image 23 = .ok (.goto (-21), 3) := by decide +kernel
theorem dX9_image_26 : decode cX9_image 26 = .ok (.aload_n 0, 1) := by decide +kernel
theorem dX9_image_27 : decode cX9_image 27 = .ok (.iconst 1, 1) := by decide +kernel
theorem dX9_image_28 : decode cX9_image 28 = .ok (.putfield 315, 3) := by decide +kernel
theorem dX9_image_31 : decode cX9_image 31 = .ok (.iconst 1, 1) := by decide +kernel
theorem dX9_image_32 : decode cX9_image 32 = .ok (.ireturn, 1) := by decide +kernel
theorem dX9_undo_0 : decode cX9_undo 0 = .ok (.aload_n 0, 1) := by decide +kernel
theorem dX9_undo_1 : decode cX9_undo 1 = .ok (.getfield 315, 3) := by decide +kernel
theorem dX9_undo_4 : decode cX9_undo 4 = .ok (.ifCond .ne 10, 3) := by decide +kernel
theorem dX9_undo_7 : decode cX9_undo 7 = .ok (.aload_n 0, 1) := by decide +kernel
theorem dX9_undo_8 : decode cX9_undo 8 = .ok (.ldc 163, 2) := by decide +kernel
theorem dX9_undo_10 : decode cX9_undo 10 = .ok (.invokevirtual 75, 3) := by decide +kernel
theorem dX9_undo_13 : decode cX9_undo 13 = .ok (.ireturn, 1) := by decide +kernel
theorem dX9_undo_14 : decode cX9_undo 14 = .ok (.iconst 0, 1) := by decide +kernel
theorem dX9_undo_15 : decode cX9_undo 15 = .ok (.istore_n 1, 1) := by decide +kernel
theorem dX9_undo_16 : decode cX9_undo 16 = .ok (.iload_n 1, 1) := by decide +kernel
theorem dX9_undo_17 : decode cX9_undo 17 = .ok (.bipush 55, 2) := by decide +kernel
theorem dX9_undo_19 : decode cX9_undo 19 = .ok (.if_icmp .ge 21, 3) := by decide +kernel
theorem dX9_undo_22 : decode cX9_undo 22 = .ok (.aload_n 0, 1) := by decide +kernel
theorem dX9_undo_23 : decode cX9_undo 23 = .ok (.getfield 7, 3) := by decide +kernel
theorem dX9_undo_26 : decode cX9_undo 26 = .ok (.iload_n 1, 1) := by decide +kernel
theorem dX9_undo_27 : decode cX9_undo 27 = .ok (.aload_n 0, 1) := by decide +kernel
theorem dX9_undo_28 : decode cX9_undo 28 = .ok (.getfield 13, 3) := by decide +kernel
theorem dX9_undo_31 : decode cX9_undo 31 = .ok (.iload_n 1, 1) := by decide +kernel
theorem dX9_undo_32 : decode cX9_undo 32 = .ok (.iaload, 1) := by decide +kernel
theorem dX9_undo_33 : decode cX9_undo 33 = .ok (.iastore, 1) := by decide +kernel
theorem dX9_undo_34 : decode cX9_undo 34 = .ok (.iinc 1 1, 3) := by decide +kernel
theorem dX9_undo_37 : decode cX9_undo 37 = .ok (.goto (-21), 3) := by decide +kernel
theorem dX9_undo_40 : decode cX9_undo 40 = .ok (.aload_n 0, 1) := by decide +kernel
theorem dX9_undo_41 : decode cX9_undo 41 = .ok (.getfield 7, 3) := by decide +kernel
theorem dX9_undo_44 : decode cX9_undo 44 = .ok (.iconst 0, 1) := by decide +kernel
theorem dX9_undo_45 : decode cX9_undo 45 = .ok (.iaload, 1) := by decide +kernel
theorem dX9_undo_46 : decode cX9_undo 46 = .ok (.ireturn, 1) := by decide +kernel
theorem dX9_tear_0 : decode cX9_tear 0 = .ok (.aload_n 0, 1) := by decide +kernel
theorem dX9_tear_1 : decode cX9_tear 1 = .ok (.getfield 315, 3) := by decide +kernel
theorem dX9_tear_4 : decode cX9_tear 4 = .ok (.ifCond .eq 7, 3) := by decide +kernel
theorem dX9_tear_7 : decode cX9_tear 7 = .ok (.iconst 1, 1) := by decide +kernel
theorem dX9_tear_8 : decode cX9_tear 8 = .ok (.goto 4, 3) := by decide +kernel
theorem dX9_tear_11 : decode cX9_tear 11 = .ok (.iconst 0, 1) := by decide +kernel
theorem dX9_tear_12 : decode cX9_tear 12 = .ok (.istore_n 1, 1) := by decide +kernel
theorem dX9_tear_13 : decode cX9_tear 13 = .ok (.aload_n 0, 1) := by decide +kernel
theorem dX9_tear_14 : decode cX9_tear 14 = .ok (.iconst 0, 1) := by decide +kernel
theorem dX9_tear_15 : decode cX9_tear 15 = .ok (.putfield 315, 3) := by decide +kernel
theorem dX9_tear_18 : decode cX9_tear 18 = .ok (.iload_n 1, 1) := by decide +kernel
theorem dX9_tear_19 : decode cX9_tear 19 = .ok (.ireturn, 1) := by decide +kernel
theorem dX9_wears_0 : decode cX9_wears 0 = .ok (.aload_n 0, 1) := by decide +kernel
theorem dX9_wears_1 : decode cX9_wears 1 = .ok (.iconst 0, 1) := by decide +kernel
theorem dX9_wears_2 : decode cX9_wears 2 = .ok (.iconst 3, 1) := by decide +kernel
theorem dX9_wears_3 : decode cX9_wears 3 = .ok (.invokevirtual 63, 3) := by decide +kernel
theorem dX9_wears_6 : decode cX9_wears 6 = .ok (.aload_n 0, 1) := by decide +kernel
theorem dX9_wears_7 : decode cX9_wears 7 = .ok (.iconst 1, 1) := by decide +kernel
theorem dX9_wears_8 : decode cX9_wears 8 = .ok (.iconst 3, 1) := by decide +kernel
theorem dX9_wears_9 : decode cX9_wears 9 = .ok (.invokevirtual 63, 3) := by decide +kernel
theorem dX9_wears_12 : decode cX9_wears 12 = .ok (.iadd, 1) := by decide +kernel
theorem dX9_wears_13 : decode cX9_wears 13 = .ok (.aload_n 0, 1) := by decide +kernel
theorem dX9_wears_14 : decode cX9_wears 14 = .ok (.iconst 2, 1) := by decide +kernel
theorem dX9_wears_15 : decode cX9_wears 15 = .ok (.iconst 3, 1) := by decide +kernel
theorem dX9_wears_16 : decode cX9_wears 16 = .ok (.invokevirtual 63, 3) := by decide +kernel
theorem dX9_wears_19 : decode cX9_wears 19 = .ok (.iadd, 1) := by decide +kernel
theorem dX9_wears_20 : decode cX9_wears 20 = .ok (.ireturn, 1) := by decide +kernel
theorem dX9_count_0 : decode cX9_count 0 = .ok (.iload_n 1, 1) := by decide +kernel
theorem dX9_count_1 : decode cX9_count 1 = .ok (.tableswitch 56 0 3 #[31, 38, 43, 51], 31) := by decide +kernel
theorem dX9_count_32 : decode cX9_count 32 = .ok (.aload_n 0, 1) := by decide +kernel
theorem dX9_count_33 : decode cX9_count 33 = .ok (.getfield 7, 3) := by decide +kernel
theorem dX9_count_36 : decode cX9_count 36 = .ok (.iconst 0, 1) := by decide +kernel
theorem dX9_count_37 : decode cX9_count 37 = .ok (.iaload, 1) := by decide +kernel
theorem dX9_count_38 : decode cX9_count 38 = .ok (.ireturn, 1) := by decide +kernel
theorem dX9_count_39 : decode cX9_count 39 = .ok (.aload_n 0, 1) := by decide +kernel
theorem dX9_count_40 : decode cX9_count 40 = .ok (.getfield 190, 3) := by decide +kernel
theorem dX9_count_43 : decode cX9_count 43 = .ok (.ireturn, 1) := by decide +kernel
theorem dX9_count_44 : decode cX9_count 44 = .ok (.aload_n 0, 1) := by decide +kernel
theorem dX9_count_45 : decode cX9_count 45 = .ok (.invokevirtual 147, 3) := by decide +kernel
theorem dX9_count_48 : decode cX9_count 48 = .ok (.invokestatic 167, 3) := by decide +kernel
theorem dX9_count_51 : decode cX9_count 51 = .ok (.ireturn, 1) := by decide +kernel
theorem dX9_count_52 : decode cX9_count 52 = .ok (.aload_n 0, 1) := by decide +kernel
theorem dX9_count_53 : decode cX9_count 53 = .ok (.invokevirtual 318, 3) := by decide +kernel
theorem dX9_count_56 : decode cX9_count 56 = .ok (.ireturn, 1) := by decide +kernel
theorem dX9_count_57 : decode cX9_count 57 = .ok (.aload_n 0, 1) := by decide +kernel
theorem dX9_count_58 : decode cX9_count 58 = .ok (.ldc 51, 2) := by decide +kernel
theorem dX9_count_60 : decode cX9_count 60 = .ok (.invokevirtual 75, 3) := by decide +kernel
theorem dX9_count_63 : decode cX9_count 63 = .ok (.ireturn, 1) := by decide +kernel
theorem dX9_status_0 : decode cX9_status 0 = .ok (.iload_n 1, 1) := by decide +kernel
theorem dX9_status_1 : decode cX9_status 1 = .ok (.i2l, 1) := by decide +kernel
theorem dX9_status_2 : decode cX9_status 2 = .ok (.ldc2_w 321, 3) := by decide +kernel
theorem dX9_status_5 : decode cX9_status 5 = .ok (.ldc2_w 323, 3) := by decide +kernel
theorem dX9_status_8 : decode cX9_status 8 = .ok (.invokestatic 54, 3) := by decide +kernel
theorem dX9_status_11 : decode cX9_status 11 = .ok (.ifCond .ne 10, 3) := by decide +kernel
theorem dX9_status_14 : decode cX9_status 14 = .ok (.aload_n 0, 1) := by decide +kernel
theorem dX9_status_15 : decode cX9_status 15 = .ok (.ldc 51, 2) := by decide +kernel
theorem dX9_status_17 : decode cX9_status 17 = .ok (.invokevirtual 75, 3) := by decide +kernel
theorem dX9_status_20 : decode cX9_status 20 = .ok (.ireturn, 1) := by decide +kernel
theorem dX9_status_21 : decode cX9_status 21 = .ok (.iconst 0, 1) := by decide +kernel
theorem dX9_status_22 : decode cX9_status 22 = .ok (.istore_n 2, 1) := by decide +kernel
theorem dX9_status_23 : decode cX9_status 23 = .ok (.iconst 0, 1) := by decide +kernel
theorem dX9_status_24 : decode cX9_status 24 = .ok (.istore_n 3, 1) := by decide +kernel
theorem dX9_status_25 : decode cX9_status 25 = .ok (.iload_n 3, 1) := by decide +kernel
theorem dX9_status_26 : decode cX9_status 26 = .ok (.bipush 7, 2) := by decide +kernel
theorem dX9_status_28 : decode cX9_status 28 = .ok (.if_icmp .ge 31, 3) := by decide +kernel
theorem dX9_status_31 : decode cX9_status 31 = .ok (.iload_n 2, 1) := by decide +kernel
theorem dX9_status_32 : decode cX9_status 32 = .ok (.iload_n 1, 1) := by decide +kernel
theorem dX9_status_33 : decode cX9_status 33 = .ok (.ifCond .lt 8, 3) := by decide +kernel
theorem dX9_status_36 : decode cX9_status 36 = .ok (.iload_n 3, 1) := by decide +kernel
theorem dX9_status_37 : decode cX9_status 37 = .ok (.iload_n 1, 1) := by decide +kernel
theorem dX9_status_38 : decode cX9_status 38 = .ok (.if_icmp .ne 12, 3) := by decide +kernel
theorem dX9_status_41 : decode cX9_status 41 = .ok (.aload_n 0, 1) := by decide +kernel
theorem dX9_status_42 : decode cX9_status 42 = .ok (.getfield 22, 3) := by decide +kernel
theorem dX9_status_45 : decode cX9_status 45 = .ok (.iload_n 3, 1) := by decide +kernel
theorem dX9_status_46 : decode cX9_status 46 = .ok (.iaload, 1) := by decide +kernel
theorem dX9_status_47 : decode cX9_status 47 = .ok (.goto 4, 3) := by decide +kernel
theorem dX9_status_50 : decode cX9_status 50 = .ok (.iconst 0, 1) := by decide +kernel
theorem dX9_status_51 : decode cX9_status 51 = .ok (.iadd, 1) := by decide +kernel
theorem dX9_status_52 : decode cX9_status 52 = .ok (.istore_n 2, 1) := by decide +kernel
theorem dX9_status_53 : decode cX9_status 53 = .ok (.iinc 3 1, 3) := by decide +kernel
theorem dX9_status_56 : decode cX9_status 56 = .ok (.goto (-31), 3) := by decide +kernel
theorem dX9_status_59 : decode cX9_status 59 = .ok (.iload_n 2, 1) := by decide +kernel
theorem dX9_status_60 : decode cX9_status 60 = .ok (.ireturn, 1) := by decide +kernel
end
section
theorem dL_law_0 : decode cL_law 0 = .ok (.new 7, 3) := by decide +kernel
theorem dL_law_3 : decode cL_law 3 = .ok (.dup, 1) := by decide +kernel
theorem dL_law_4 : decode cL_law 4 = .ok (.invokespecial 9, 3) := by decide +kernel
theorem dL_law_7 : decode cL_law 7 = .ok (.astore_n 1, 1) := by decide +kernel
theorem dL_law_8 : decode cL_law 8 = .ok (.new 10, 3) := by decide +kernel
theorem dL_law_11 : decode cL_law 11 = .ok (.dup, 1) := by decide +kernel
theorem dL_law_12 : decode cL_law 12 = .ok (.invokespecial 12, 3) := by decide +kernel
theorem dL_law_15 : decode cL_law 15 = .ok (.astore_n 2, 1) := by decide +kernel
theorem dL_law_16 : decode cL_law 16 = .ok (.iconst 0, 1) := by decide +kernel
theorem dL_law_17 : decode cL_law 17 = .ok (.istore_n 3, 1) := by decide +kernel
theorem dL_law_18 : decode cL_law 18 = .ok (.iload_n 3, 1) := by decide +kernel
theorem dL_law_19 : decode cL_law 19 = .ok (.aload_n 0, 1) := by decide +kernel
theorem dL_law_20 : decode cL_law 20 = .ok (.arraylength, 1) := by decide +kernel
theorem dL_law_21 : decode cL_law 21 = .ok (.bipush 6, 2) := by decide +kernel
theorem dL_law_23 : decode cL_law 23 = .ok (.isub, 1) := by decide +kernel
theorem dL_law_24 : decode cL_law 24 = .ok (.if_icmp .gt 1398, 3) := by decide +kernel
theorem dL_law_27 : decode cL_law 27 = .ok (.aload_n 0, 1) := by decide +kernel
theorem dL_law_28 : decode cL_law 28 = .ok (.iload_n 3, 1) := by decide +kernel
theorem dL_law_29 : decode cL_law 29 = .ok (.iaload, 1) := by decide +kernel
theorem dL_law_30 : decode cL_law 30 = .ok (.bipush 63, 2) := by decide +kernel
theorem dL_law_32 : decode cL_law 32 = .ok (.iand, 1) := by decide +kernel
theorem dL_law_33 : decode cL_law 33 = .ok (.tableswitch 1383 0 40 #[179, 222, 255, 278, 301, 334, 377, 410, 443, 476, 509, 542, 565, 588, 611, 634, 677, 700, 713, 736, 759, 782, 815, 848, 881, 914, 947, 970, 1003, 1016, 1029, 1072, 1146, 1209, 1232, 1265, 1298, 1311, 1324, 1337, 1360], 179) := by decide +kernel
theorem dL_law_212 : decode cL_law 212 = .ok (.aload_n 1, 1) := by decide +kernel
theorem dL_law_213 : decode cL_law 213 = .ok (.aload_n 0, 1) := by decide +kernel
theorem dL_law_214 : decode cL_law 214 = .ok (.iload_n 3, 1) := by decide +kernel
theorem dL_law_215 : decode cL_law 215 = .ok (.iconst 1, 1) := by decide +kernel
theorem dL_law_216 : decode cL_law 216 = .ok (.iadd, 1) := by decide +kernel
theorem dL_law_217 : decode cL_law 217 = .ok (.iaload, 1) := by decide +kernel
theorem dL_law_218 : decode cL_law 218 = .ok (.aload_n 0, 1) := by decide +kernel
theorem dL_law_219 : decode cL_law 219 = .ok (.iload_n 3, 1) := by decide +kernel
theorem dL_law_220 : decode cL_law 220 = .ok (.iconst 2, 1) := by decide +kernel
theorem dL_law_221 : decode cL_law 221 = .ok (.iadd, 1) := by decide +kernel
theorem dL_law_222 : decode cL_law 222 = .ok (.iaload, 1) := by decide +kernel
theorem dL_law_223 : decode cL_law 223 = .ok (.aload_n 0, 1) := by decide +kernel
theorem dL_law_224 : decode cL_law 224 = .ok (.iload_n 3, 1) := by decide +kernel
theorem dL_law_225 : decode cL_law 225 = .ok (.iconst 3, 1) := by decide +kernel
theorem dL_law_226 : decode cL_law 226 = .ok (.iadd, 1) := by decide +kernel
theorem dL_law_227 : decode cL_law 227 = .ok (.iaload, 1) := by decide +kernel
theorem dL_law_228 : decode cL_law 228 = .ok (.invokevirtual 13, 3) := by decide +kernel
theorem dL_law_231 : decode cL_law 231 = .ok (.aload_n 2, 1) := by decide +kernel
theorem dL_law_232 : decode cL_law 232 = .ok (.aload_n 0, 1) := by decide +kernel
theorem dL_law_233 : decode cL_law 233 = .ok (.iload_n 3, 1) := by decide +kernel
theorem dL_law_234 : decode cL_law 234 = .ok (.iconst 1, 1) := by decide +kernel
theorem dL_law_235 : decode cL_law 235 = .ok (.iadd, 1) := by decide +kernel
theorem dL_law_236 : decode cL_law 236 = .ok (.iaload, 1) := by decide +kernel
theorem dL_law_237 : decode cL_law 237 = .ok (.aload_n 0, 1) := by decide +kernel
theorem dL_law_238 : decode cL_law 238 = .ok (.iload_n 3, 1) := by decide +kernel
theorem dL_law_239 : decode cL_law 239 = .ok (.iconst 2, 1) := by decide +kernel
theorem dL_law_240 : decode cL_law 240 = .ok (.iadd, 1) := by decide +kernel
theorem dL_law_241 : decode cL_law 241 = .ok (.iaload, 1) := by decide +kernel
theorem dL_law_242 : decode cL_law 242 = .ok (.aload_n 0, 1) := by decide +kernel
theorem dL_law_243 : decode cL_law 243 = .ok (.iload_n 3, 1) := by decide +kernel
theorem dL_law_244 : decode cL_law 244 = .ok (.iconst 3, 1) := by decide +kernel
theorem dL_law_245 : decode cL_law 245 = .ok (.iadd, 1) := by decide +kernel
theorem dL_law_246 : decode cL_law 246 = .ok (.iaload, 1) := by decide +kernel
theorem dL_law_247 : decode cL_law 247 = .ok (.invokevirtual 17, 3) := by decide +kernel
theorem dL_law_250 : decode cL_law 250 = .ok (.if_icmp .eq 1166, 3) := by decide +kernel
theorem dL_law_253 : decode cL_law 253 = .ok (.iconst 0, 1) := by decide +kernel
theorem dL_law_254 : decode cL_law 254 = .ok (.ireturn, 1) := by decide +kernel
theorem dL_law_255 : decode cL_law 255 = .ok (.aload_n 1, 1) := by decide +kernel
theorem dL_law_256 : decode cL_law 256 = .ok (.aload_n 0, 1) := by decide +kernel
theorem dL_law_257 : decode cL_law 257 = .ok (.iload_n 3, 1) := by decide +kernel
theorem dL_law_258 : decode cL_law 258 = .ok (.iconst 1, 1) := by decide +kernel
theorem dL_law_259 : decode cL_law 259 = .ok (.iadd, 1) := by decide +kernel
theorem dL_law_260 : decode cL_law 260 = .ok (.iaload, 1) := by decide +kernel
theorem dL_law_261 : decode cL_law 261 = .ok (.aload_n 0, 1) := by decide +kernel
theorem dL_law_262 : decode cL_law 262 = .ok (.iload_n 3, 1) := by decide +kernel
theorem dL_law_263 : decode cL_law 263 = .ok (.iconst 2, 1) := by decide +kernel
theorem dL_law_264 : decode cL_law 264 = .ok (.iadd, 1) := by decide +kernel
theorem dL_law_265 : decode cL_law 265 = .ok (.iaload, 1) := by decide +kernel
theorem dL_law_266 : decode cL_law 266 = .ok (.invokevirtual 18, 3) := by decide +kernel
theorem dL_law_269 : decode cL_law 269 = .ok (.aload_n 2, 1) := by decide +kernel
theorem dL_law_270 : decode cL_law 270 = .ok (.aload_n 0, 1) := by decide +kernel
theorem dL_law_271 : decode cL_law 271 = .ok (.iload_n 3, 1) := by decide +kernel
theorem dL_law_272 : decode cL_law 272 = .ok (.iconst 1, 1) := by decide +kernel
theorem dL_law_273 : decode cL_law 273 = .ok (.iadd, 1) := by decide +kernel
theorem dL_law_274 : decode cL_law 274 = .ok (.iaload, 1) := by decide +kernel
theorem dL_law_275 : decode cL_law 275 = .ok (.aload_n 0, 1) := by decide +kernel
theorem dL_law_276 : decode cL_law 276 = .ok (.iload_n 3, 1) := by decide +kernel
theorem dL_law_277 : decode cL_law 277 = .ok (.iconst 2, 1) := by decide +kernel
theorem dL_law_278 : decode cL_law 278 = .ok (.iadd, 1) := by decide +kernel
theorem dL_law_279 : decode cL_law 279 = .ok (.iaload, 1) := by decide +kernel
theorem dL_law_280 : decode cL_law 280 = .ok (.invokevirtual 22, 3) := by decide +kernel
theorem dL_law_283 : decode cL_law 283 = .ok (.if_icmp .eq 1133, 3) := by decide +kernel
theorem dL_law_286 : decode cL_law 286 = .ok (.iconst 0, 1) := by decide +kernel
theorem dL_law_287 : decode cL_law 287 = .ok (.ireturn, 1) := by decide +kernel
theorem dL_law_288 : decode cL_law 288 = .ok (.aload_n 1, 1) := by decide +kernel
theorem dL_law_289 : decode cL_law 289 = .ok (.aload_n 0, 1) := by decide +kernel
theorem dL_law_290 : decode cL_law 290 = .ok (.iload_n 3, 1) := by decide +kernel
theorem dL_law_291 : decode cL_law 291 = .ok (.iconst 1, 1) := by decide +kernel
theorem dL_law_292 : decode cL_law 292 = .ok (.iadd, 1) := by decide +kernel
theorem dL_law_293 : decode cL_law 293 = .ok (.iaload, 1) := by decide +kernel
theorem dL_law_294 : decode cL_law 294 = .ok (.invokevirtual 23, 3) := by decide +kernel
theorem dL_law_297 : decode cL_law 297 = .ok (.aload_n 2, 1) := by decide +kernel
theorem dL_law_298 : decode cL_law 298 = .ok (.aload_n 0, 1) := by decide +kernel
theorem dL_law_299 : decode cL_law 299 = .ok (.iload_n 3, 1) := by decide +kernel
theorem dL_law_300 : decode cL_law 300 = .ok (.iconst 1, 1) := by decide +kernel
theorem dL_law_301 : decode cL_law 301 = .ok (.iadd, 1) := by decide +kernel
theorem dL_law_302 : decode cL_law 302 = .ok (.iaload, 1) := by decide +kernel
theorem dL_law_303 : decode cL_law 303 = .ok (.invokevirtual 27, 3) := by decide +kernel
theorem dL_law_306 : decode cL_law 306 = .ok (.if_icmp .eq 1110, 3) := by decide +kernel
theorem dL_law_309 : decode cL_law 309 = .ok (.iconst 0, 1) := by decide +kernel
theorem dL_law_310 : decode cL_law 310 = .ok (.ireturn, 1) := by decide +kernel
theorem dL_law_311 : decode cL_law 311 = .ok (.aload_n 1, 1) := by decide +kernel
theorem dL_law_312 : decode cL_law 312 = .ok (.aload_n 0, 1) := by decide +kernel
theorem dL_law_313 : decode cL_law 313 = .ok (.iload_n 3, 1) := by decide +kernel
theorem dL_law_314 : decode cL_law 314 = .ok (.iconst 1, 1) := by decide +kernel
theorem dL_law_315 : decode cL_law 315 = .ok (.iadd, 1) := by decide +kernel
theorem dL_law_316 : decode cL_law 316 = .ok (.iaload, 1) := by decide +kernel
theorem dL_law_317 : decode cL_law 317 = .ok (.invokevirtual 28, 3) := by decide +kernel
theorem dL_law_320 : decode cL_law 320 = .ok (.aload_n 2, 1) := by decide +kernel
theorem dL_law_321 : decode cL_law 321 = .ok (.aload_n 0, 1) := by decide +kernel
theorem dL_law_322 : decode cL_law 322 = .ok (.iload_n 3, 1) := by decide +kernel
theorem dL_law_323 : decode cL_law 323 = .ok (.iconst 1, 1) := by decide +kernel
theorem dL_law_324 : decode cL_law 324 = .ok (.iadd, 1) := by decide +kernel
theorem dL_law_325 : decode cL_law 325 = .ok (.iaload, 1) := by decide +kernel
theorem dL_law_326 : decode cL_law 326 = .ok (.invokevirtual 31, 3) := by decide +kernel
theorem dL_law_329 : decode cL_law 329 = .ok (.if_icmp .eq 1087, 3) := by decide +kernel
theorem dL_law_332 : decode cL_law 332 = .ok (.iconst 0, 1) := by decide +kernel
theorem dL_law_333 : decode cL_law 333 = .ok (.ireturn, 1) := by decide +kernel
theorem dL_law_334 : decode cL_law 334 = .ok (.aload_n 1, 1) := by decide +kernel
theorem dL_law_335 : decode cL_law 335 = .ok (.aload_n 0, 1) := by decide +kernel
theorem dL_law_336 : decode cL_law 336 = .ok (.iload_n 3, 1) := by decide +kernel
theorem dL_law_337 : decode cL_law 337 = .ok (.iconst 1, 1) := by decide +kernel
theorem dL_law_338 : decode cL_law 338 = .ok (.iadd, 1) := by decide +kernel
theorem dL_law_339 : decode cL_law 339 = .ok (.iaload, 1) := by decide +kernel
theorem dL_law_340 : decode cL_law 340 = .ok (.aload_n 0, 1) := by decide +kernel
theorem dL_law_341 : decode cL_law 341 = .ok (.iload_n 3, 1) := by decide +kernel
theorem dL_law_342 : decode cL_law 342 = .ok (.iconst 2, 1) := by decide +kernel
theorem dL_law_343 : decode cL_law 343 = .ok (.iadd, 1) := by decide +kernel
theorem dL_law_344 : decode cL_law 344 = .ok (.iaload, 1) := by decide +kernel
theorem dL_law_345 : decode cL_law 345 = .ok (.invokevirtual 32, 3) := by decide +kernel
theorem dL_law_348 : decode cL_law 348 = .ok (.aload_n 2, 1) := by decide +kernel
theorem dL_law_349 : decode cL_law 349 = .ok (.aload_n 0, 1) := by decide +kernel
theorem dL_law_350 : decode cL_law 350 = .ok (.iload_n 3, 1) := by decide +kernel
theorem dL_law_351 : decode cL_law 351 = .ok (.iconst 1, 1) := by decide +kernel
theorem dL_law_352 : decode cL_law 352 = .ok (.iadd, 1) := by decide +kernel
theorem dL_law_353 : decode cL_law 353 = .ok (.iaload, 1) := by decide +kernel
theorem dL_law_354 : decode cL_law 354 = .ok (.aload_n 0, 1) := by decide +kernel
theorem dL_law_355 : decode cL_law 355 = .ok (.iload_n 3, 1) := by decide +kernel
theorem dL_law_356 : decode cL_law 356 = .ok (.iconst 2, 1) := by decide +kernel
theorem dL_law_357 : decode cL_law 357 = .ok (.iadd, 1) := by decide +kernel
theorem dL_law_358 : decode cL_law 358 = .ok (.iaload, 1) := by decide +kernel
theorem dL_law_359 : decode cL_law 359 = .ok (.invokevirtual 35, 3) := by decide +kernel
theorem dL_law_362 : decode cL_law 362 = .ok (.if_icmp .eq 1054, 3) := by decide +kernel
theorem dL_law_365 : decode cL_law 365 = .ok (.iconst 0, 1) := by decide +kernel
theorem dL_law_366 : decode cL_law 366 = .ok (.ireturn, 1) := by decide +kernel
theorem dL_law_367 : decode cL_law 367 = .ok (.aload_n 1, 1) := by decide +kernel
theorem dL_law_368 : decode cL_law 368 = .ok (.aload_n 0, 1) := by decide +kernel
theorem dL_law_369 : decode cL_law 369 = .ok (.iload_n 3, 1) := by decide +kernel
theorem dL_law_370 : decode cL_law 370 = .ok (.iconst 1, 1) := by decide +kernel
theorem dL_law_371 : decode cL_law 371 = .ok (.iadd, 1) := by decide +kernel
theorem dL_law_372 : decode cL_law 372 = .ok (.iaload, 1) := by decide +kernel
theorem dL_law_373 : decode cL_law 373 = .ok (.aload_n 0, 1) := by decide +kernel
theorem dL_law_374 : decode cL_law 374 = .ok (.iload_n 3, 1) := by decide +kernel
theorem dL_law_375 : decode cL_law 375 = .ok (.iconst 2, 1) := by decide +kernel
theorem dL_law_376 : decode cL_law 376 = .ok (.iadd, 1) := by decide +kernel
theorem dL_law_377 : decode cL_law 377 = .ok (.iaload, 1) := by decide +kernel
theorem dL_law_378 : decode cL_law 378 = .ok (.aload_n 0, 1) := by decide +kernel
theorem dL_law_379 : decode cL_law 379 = .ok (.iload_n 3, 1) := by decide +kernel
theorem dL_law_380 : decode cL_law 380 = .ok (.iconst 3, 1) := by decide +kernel
theorem dL_law_381 : decode cL_law 381 = .ok (.iadd, 1) := by decide +kernel
theorem dL_law_382 : decode cL_law 382 = .ok (.iaload, 1) := by decide +kernel
theorem dL_law_383 : decode cL_law 383 = .ok (.invokevirtual 36, 3) := by decide +kernel
theorem dL_law_386 : decode cL_law 386 = .ok (.aload_n 2, 1) := by decide +kernel
theorem dL_law_387 : decode cL_law 387 = .ok (.aload_n 0, 1) := by decide +kernel
theorem dL_law_388 : decode cL_law 388 = .ok (.iload_n 3, 1) := by decide +kernel
theorem dL_law_389 : decode cL_law 389 = .ok (.iconst 1, 1) := by decide +kernel
theorem dL_law_390 : decode cL_law 390 = .ok (.iadd, 1) := by decide +kernel
theorem dL_law_391 : decode cL_law 391 = .ok (.iaload, 1) := by decide +kernel
theorem dL_law_392 : decode cL_law 392 = .ok (.aload_n 0, 1) := by decide +kernel
theorem dL_law_393 : decode cL_law 393 = .ok (.iload_n 3, 1) := by decide +kernel
theorem dL_law_394 : decode cL_law 394 = .ok (.iconst 2, 1) := by decide +kernel
theorem dL_law_395 : decode cL_law 395 = .ok (.iadd, 1) := by decide +kernel
theorem dL_law_396 : decode cL_law 396 = .ok (.iaload, 1) := by decide +kernel
theorem dL_law_397 : decode cL_law 397 = .ok (.aload_n 0, 1) := by decide +kernel
theorem dL_law_398 : decode cL_law 398 = .ok (.iload_n 3, 1) := by decide +kernel
theorem dL_law_399 : decode cL_law 399 = .ok (.iconst 3, 1) := by decide +kernel
theorem dL_law_400 : decode cL_law 400 = .ok (.iadd, 1) := by decide +kernel
theorem dL_law_401 : decode cL_law 401 = .ok (.iaload, 1) := by decide +kernel
theorem dL_law_402 : decode cL_law 402 = .ok (.invokevirtual 39, 3) := by decide +kernel
theorem dL_law_405 : decode cL_law 405 = .ok (.if_icmp .eq 1011, 3) := by decide +kernel
theorem dL_law_408 : decode cL_law 408 = .ok (.iconst 0, 1) := by decide +kernel
theorem dL_law_409 : decode cL_law 409 = .ok (.ireturn, 1) := by decide +kernel
theorem dL_law_410 : decode cL_law 410 = .ok (.aload_n 1, 1) := by decide +kernel
theorem dL_law_411 : decode cL_law 411 = .ok (.aload_n 0, 1) := by decide +kernel
theorem dL_law_412 : decode cL_law 412 = .ok (.iload_n 3, 1) := by decide +kernel
theorem dL_law_413 : decode cL_law 413 = .ok (.iconst 1, 1) := by decide +kernel
theorem dL_law_414 : decode cL_law 414 = .ok (.iadd, 1) := by decide +kernel
theorem dL_law_415 : decode cL_law 415 = .ok (.iaload, 1) := by decide +kernel
theorem dL_law_416 : decode cL_law 416 = .ok (.aload_n 0, 1) := by decide +kernel
theorem dL_law_417 : decode cL_law 417 = .ok (.iload_n 3, 1) := by decide +kernel
theorem dL_law_418 : decode cL_law 418 = .ok (.iconst 2, 1) := by decide +kernel
theorem dL_law_419 : decode cL_law 419 = .ok (.iadd, 1) := by decide +kernel
theorem dL_law_420 : decode cL_law 420 = .ok (.iaload, 1) := by decide +kernel
theorem dL_law_421 : decode cL_law 421 = .ok (.invokevirtual 40, 3) := by decide +kernel
theorem dL_law_424 : decode cL_law 424 = .ok (.aload_n 2, 1) := by decide +kernel
theorem dL_law_425 : decode cL_law 425 = .ok (.aload_n 0, 1) := by decide +kernel
theorem dL_law_426 : decode cL_law 426 = .ok (.iload_n 3, 1) := by decide +kernel
theorem dL_law_427 : decode cL_law 427 = .ok (.iconst 1, 1) := by decide +kernel
theorem dL_law_428 : decode cL_law 428 = .ok (.iadd, 1) := by decide +kernel
theorem dL_law_429 : decode cL_law 429 = .ok (.iaload, 1) := by decide +kernel
theorem dL_law_430 : decode cL_law 430 = .ok (.aload_n 0, 1) := by decide +kernel
theorem dL_law_431 : decode cL_law 431 = .ok (.iload_n 3, 1) := by decide +kernel
theorem dL_law_432 : decode cL_law 432 = .ok (.iconst 2, 1) := by decide +kernel
theorem dL_law_433 : decode cL_law 433 = .ok (.iadd, 1) := by decide +kernel
theorem dL_law_434 : decode cL_law 434 = .ok (.iaload, 1) := by decide +kernel
theorem dL_law_435 : decode cL_law 435 = .ok (.invokevirtual 43, 3) := by decide +kernel
theorem dL_law_438 : decode cL_law 438 = .ok (.if_icmp .eq 978, 3) := by decide +kernel
theorem dL_law_441 : decode cL_law 441 = .ok (.iconst 0, 1) := by decide +kernel
theorem dL_law_442 : decode cL_law 442 = .ok (.ireturn, 1) := by decide +kernel
theorem dL_law_443 : decode cL_law 443 = .ok (.aload_n 1, 1) := by decide +kernel
theorem dL_law_444 : decode cL_law 444 = .ok (.aload_n 0, 1) := by decide +kernel
theorem dL_law_445 : decode cL_law 445 = .ok (.iload_n 3, 1) := by decide +kernel
theorem dL_law_446 : decode cL_law 446 = .ok (.iconst 1, 1) := by decide +kernel
theorem dL_law_447 : decode cL_law 447 = .ok (.iadd, 1) := by decide +kernel
theorem dL_law_448 : decode cL_law 448 = .ok (.iaload, 1) := by decide +kernel
theorem dL_law_449 : decode cL_law 449 = .ok (.aload_n 0, 1) := by decide +kernel
theorem dL_law_450 : decode cL_law 450 = .ok (.iload_n 3, 1) := by decide +kernel
theorem dL_law_451 : decode cL_law 451 = .ok (.iconst 2, 1) := by decide +kernel
theorem dL_law_452 : decode cL_law 452 = .ok (.iadd, 1) := by decide +kernel
theorem dL_law_453 : decode cL_law 453 = .ok (.iaload, 1) := by decide +kernel
theorem dL_law_454 : decode cL_law 454 = .ok (.invokevirtual 44, 3) := by decide +kernel
theorem dL_law_457 : decode cL_law 457 = .ok (.aload_n 2, 1) := by decide +kernel
theorem dL_law_458 : decode cL_law 458 = .ok (.aload_n 0, 1) := by decide +kernel
theorem dL_law_459 : decode cL_law 459 = .ok (.iload_n 3, 1) := by decide +kernel
theorem dL_law_460 : decode cL_law 460 = .ok (.iconst 1, 1) := by decide +kernel
theorem dL_law_461 : decode cL_law 461 = .ok (.iadd, 1) := by decide +kernel
theorem dL_law_462 : decode cL_law 462 = .ok (.iaload, 1) := by decide +kernel
theorem dL_law_463 : decode cL_law 463 = .ok (.aload_n 0, 1) := by decide +kernel
theorem dL_law_464 : decode cL_law 464 = .ok (.iload_n 3, 1) := by decide +kernel
theorem dL_law_465 : decode cL_law 465 = .ok (.iconst 2, 1) := by decide +kernel
theorem dL_law_466 : decode cL_law 466 = .ok (.iadd, 1) := by decide +kernel
theorem dL_law_467 : decode cL_law 467 = .ok (.iaload, 1) := by decide +kernel
theorem dL_law_468 : decode cL_law 468 = .ok (.invokevirtual 47, 3) := by decide +kernel
theorem dL_law_471 : decode cL_law 471 = .ok (.if_icmp .eq 945, 3) := by decide +kernel
theorem dL_law_474 : decode cL_law 474 = .ok (.iconst 0, 1) := by decide +kernel
theorem dL_law_475 : decode cL_law 475 = .ok (.ireturn, 1) := by decide +kernel
theorem dL_law_476 : decode cL_law 476 = .ok (.aload_n 1, 1) := by decide +kernel
theorem dL_law_477 : decode cL_law 477 = .ok (.aload_n 0, 1) := by decide +kernel
theorem dL_law_478 : decode cL_law 478 = .ok (.iload_n 3, 1) := by decide +kernel
theorem dL_law_479 : decode cL_law 479 = .ok (.iconst 1, 1) := by decide +kernel
theorem dL_law_480 : decode cL_law 480 = .ok (.iadd, 1) := by decide +kernel
theorem dL_law_481 : decode cL_law 481 = .ok (.iaload, 1) := by decide +kernel
theorem dL_law_482 : decode cL_law 482 = .ok (.aload_n 0, 1) := by decide +kernel
theorem dL_law_483 : decode cL_law 483 = .ok (.iload_n 3, 1) := by decide +kernel
theorem dL_law_484 : decode cL_law 484 = .ok (.iconst 2, 1) := by decide +kernel
theorem dL_law_485 : decode cL_law 485 = .ok (.iadd, 1) := by decide +kernel
theorem dL_law_486 : decode cL_law 486 = .ok (.iaload, 1) := by decide +kernel
theorem dL_law_487 : decode cL_law 487 = .ok (.invokevirtual 48, 3) := by decide +kernel
theorem dL_law_490 : decode cL_law 490 = .ok (.aload_n 2, 1) := by decide +kernel
theorem dL_law_491 : decode cL_law 491 = .ok (.aload_n 0, 1) := by decide +kernel
theorem dL_law_492 : decode cL_law 492 = .ok (.iload_n 3, 1) := by decide +kernel
theorem dL_law_493 : decode cL_law 493 = .ok (.iconst 1, 1) := by decide +kernel
theorem dL_law_494 : decode cL_law 494 = .ok (.iadd, 1) := by decide +kernel
theorem dL_law_495 : decode cL_law 495 = .ok (.iaload, 1) := by decide +kernel
theorem dL_law_496 : decode cL_law 496 = .ok (.aload_n 0, 1) := by decide +kernel
theorem dL_law_497 : decode cL_law 497 = .ok (.iload_n 3, 1) := by decide +kernel
theorem dL_law_498 : decode cL_law 498 = .ok (.iconst 2, 1) := by decide +kernel
theorem dL_law_499 : decode cL_law 499 = .ok (.iadd, 1) := by decide +kernel
theorem dL_law_500 : decode cL_law 500 = .ok (.iaload, 1) := by decide +kernel
theorem dL_law_501 : decode cL_law 501 = .ok (.invokevirtual 51, 3) := by decide +kernel
theorem dL_law_504 : decode cL_law 504 = .ok (.if_icmp .eq 912, 3) := by decide +kernel
theorem dL_law_507 : decode cL_law 507 = .ok (.iconst 0, 1) := by decide +kernel
theorem dL_law_508 : decode cL_law 508 = .ok (.ireturn, 1) := by decide +kernel
theorem dL_law_509 : decode cL_law 509 = .ok (.aload_n 1, 1) := by decide +kernel
theorem dL_law_510 : decode cL_law 510 = .ok (.aload_n 0, 1) := by decide +kernel
theorem dL_law_511 : decode cL_law 511 = .ok (.iload_n 3, 1) := by decide +kernel
theorem dL_law_512 : decode cL_law 512 = .ok (.iconst 1, 1) := by decide +kernel
theorem dL_law_513 : decode cL_law 513 = .ok (.iadd, 1) := by decide +kernel
theorem dL_law_514 : decode cL_law 514 = .ok (.iaload, 1) := by decide +kernel
theorem dL_law_515 : decode cL_law 515 = .ok (.aload_n 0, 1) := by decide +kernel
theorem dL_law_516 : decode cL_law 516 = .ok (.iload_n 3, 1) := by decide +kernel
theorem dL_law_517 : decode cL_law 517 = .ok (.iconst 2, 1) := by decide +kernel
theorem dL_law_518 : decode cL_law 518 = .ok (.iadd, 1) := by decide +kernel
theorem dL_law_519 : decode cL_law 519 = .ok (.iaload, 1) := by decide +kernel
theorem dL_law_520 : decode cL_law 520 = .ok (.invokevirtual 52, 3) := by decide +kernel
theorem dL_law_523 : decode cL_law 523 = .ok (.aload_n 2, 1) := by decide +kernel
theorem dL_law_524 : decode cL_law 524 = .ok (.aload_n 0, 1) := by decide +kernel
theorem dL_law_525 : decode cL_law 525 = .ok (.iload_n 3, 1) := by decide +kernel
theorem dL_law_526 : decode cL_law 526 = .ok (.iconst 1, 1) := by decide +kernel
theorem dL_law_527 : decode cL_law 527 = .ok (.iadd, 1) := by decide +kernel
theorem dL_law_528 : decode cL_law 528 = .ok (.iaload, 1) := by decide +kernel
theorem dL_law_529 : decode cL_law 529 = .ok (.aload_n 0, 1) := by decide +kernel
theorem dL_law_530 : decode cL_law 530 = .ok (.iload_n 3, 1) := by decide +kernel
theorem dL_law_531 : decode cL_law 531 = .ok (.iconst 2, 1) := by decide +kernel
theorem dL_law_532 : decode cL_law 532 = .ok (.iadd, 1) := by decide +kernel
theorem dL_law_533 : decode cL_law 533 = .ok (.iaload, 1) := by decide +kernel
theorem dL_law_534 : decode cL_law 534 = .ok (.invokevirtual 55, 3) := by decide +kernel
theorem dL_law_537 : decode cL_law 537 = .ok (.if_icmp .eq 879, 3) := by decide +kernel
theorem dL_law_540 : decode cL_law 540 = .ok (.iconst 0, 1) := by decide +kernel
theorem dL_law_541 : decode cL_law 541 = .ok (.ireturn, 1) := by decide +kernel
theorem dL_law_542 : decode cL_law 542 = .ok (.aload_n 1, 1) := by decide +kernel
theorem dL_law_543 : decode cL_law 543 = .ok (.aload_n 0, 1) := by decide +kernel
theorem dL_law_544 : decode cL_law 544 = .ok (.iload_n 3, 1) := by decide +kernel
theorem dL_law_545 : decode cL_law 545 = .ok (.iconst 1, 1) := by decide +kernel
theorem dL_law_546 : decode cL_law 546 = .ok (.iadd, 1) := by decide +kernel
theorem dL_law_547 : decode cL_law 547 = .ok (.iaload, 1) := by decide +kernel
theorem dL_law_548 : decode cL_law 548 = .ok (.aload_n 0, 1) := by decide +kernel
theorem dL_law_549 : decode cL_law 549 = .ok (.iload_n 3, 1) := by decide +kernel
theorem dL_law_550 : decode cL_law 550 = .ok (.iconst 2, 1) := by decide +kernel
theorem dL_law_551 : decode cL_law 551 = .ok (.iadd, 1) := by decide +kernel
theorem dL_law_552 : decode cL_law 552 = .ok (.iaload, 1) := by decide +kernel
theorem dL_law_553 : decode cL_law 553 = .ok (.invokevirtual 56, 3) := by decide +kernel
theorem dL_law_556 : decode cL_law 556 = .ok (.aload_n 2, 1) := by decide +kernel
theorem dL_law_557 : decode cL_law 557 = .ok (.aload_n 0, 1) := by decide +kernel
theorem dL_law_558 : decode cL_law 558 = .ok (.iload_n 3, 1) := by decide +kernel
theorem dL_law_559 : decode cL_law 559 = .ok (.iconst 1, 1) := by decide +kernel
theorem dL_law_560 : decode cL_law 560 = .ok (.iadd, 1) := by decide +kernel
theorem dL_law_561 : decode cL_law 561 = .ok (.iaload, 1) := by decide +kernel
theorem dL_law_562 : decode cL_law 562 = .ok (.aload_n 0, 1) := by decide +kernel
theorem dL_law_563 : decode cL_law 563 = .ok (.iload_n 3, 1) := by decide +kernel
theorem dL_law_564 : decode cL_law 564 = .ok (.iconst 2, 1) := by decide +kernel
theorem dL_law_565 : decode cL_law 565 = .ok (.iadd, 1) := by decide +kernel
theorem dL_law_566 : decode cL_law 566 = .ok (.iaload, 1) := by decide +kernel
theorem dL_law_567 : decode cL_law 567 = .ok (.invokevirtual 59, 3) := by decide +kernel
theorem dL_law_570 : decode cL_law 570 = .ok (.if_icmp .eq 846, 3) := by decide +kernel
theorem dL_law_573 : decode cL_law 573 = .ok (.iconst 0, 1) := by decide +kernel
theorem dL_law_574 : decode cL_law 574 = .ok (.ireturn, 1) := by decide +kernel
theorem dL_law_575 : decode cL_law 575 = .ok (.aload_n 1, 1) := by decide +kernel
theorem dL_law_576 : decode cL_law 576 = .ok (.aload_n 0, 1) := by decide +kernel
theorem dL_law_577 : decode cL_law 577 = .ok (.iload_n 3, 1) := by decide +kernel
theorem dL_law_578 : decode cL_law 578 = .ok (.iconst 1, 1) := by decide +kernel
theorem dL_law_579 : decode cL_law 579 = .ok (.iadd, 1) := by decide +kernel
theorem dL_law_580 : decode cL_law 580 = .ok (.iaload, 1) := by decide +kernel
theorem dL_law_581 : decode cL_law 581 = .ok (.invokevirtual 60, 3) := by decide +kernel
theorem dL_law_584 : decode cL_law 584 = .ok (.aload_n 2, 1) := by decide +kernel
theorem dL_law_585 : decode cL_law 585 = .ok (.aload_n 0, 1) := by decide +kernel
theorem dL_law_586 : decode cL_law 586 = .ok (.iload_n 3, 1) := by decide +kernel
theorem dL_law_587 : decode cL_law 587 = .ok (.iconst 1, 1) := by decide +kernel
theorem dL_law_588 : decode cL_law 588 = .ok (.iadd, 1) := by decide +kernel
theorem dL_law_589 : decode cL_law 589 = .ok (.iaload, 1) := by decide +kernel
theorem dL_law_590 : decode cL_law 590 = .ok (.invokevirtual 63, 3) := by decide +kernel
theorem dL_law_593 : decode cL_law 593 = .ok (.if_icmp .eq 823, 3) := by decide +kernel
theorem dL_law_596 : decode cL_law 596 = .ok (.iconst 0, 1) := by decide +kernel
theorem dL_law_597 : decode cL_law 597 = .ok (.ireturn, 1) := by decide +kernel
theorem dL_law_598 : decode cL_law 598 = .ok (.aload_n 1, 1) := by decide +kernel
theorem dL_law_599 : decode cL_law 599 = .ok (.aload_n 0, 1) := by decide +kernel
theorem dL_law_600 : decode cL_law 600 = .ok (.iload_n 3, 1) := by decide +kernel
theorem dL_law_601 : decode cL_law 601 = .ok (.iconst 1, 1) := by decide +kernel
theorem dL_law_602 : decode cL_law 602 = .ok (.iadd, 1) := by decide +kernel
theorem dL_law_603 : decode cL_law 603 = .ok (.iaload, 1) := by decide +kernel
theorem dL_law_604 : decode cL_law 604 = .ok (.invokevirtual 64, 3) := by decide +kernel
theorem dL_law_607 : decode cL_law 607 = .ok (.aload_n 2, 1) := by decide +kernel
theorem dL_law_608 : decode cL_law 608 = .ok (.aload_n 0, 1) := by decide +kernel
theorem dL_law_609 : decode cL_law 609 = .ok (.iload_n 3, 1) := by decide +kernel
theorem dL_law_610 : decode cL_law 610 = .ok (.iconst 1, 1) := by decide +kernel
theorem dL_law_611 : decode cL_law 611 = .ok (.iadd, 1) := by decide +kernel
theorem dL_law_612 : decode cL_law 612 = .ok (.iaload, 1) := by decide +kernel
theorem dL_law_613 : decode cL_law 613 = .ok (.invokevirtual 67, 3) := by decide +kernel
theorem dL_law_616 : decode cL_law 616 = .ok (.if_icmp .eq 800, 3) := by decide +kernel
theorem dL_law_619 : decode cL_law 619 = .ok (.iconst 0, 1) := by decide +kernel
theorem dL_law_620 : decode cL_law 620 = .ok (.ireturn, 1) := by decide +kernel
theorem dL_law_621 : decode cL_law 621 = .ok (.aload_n 1, 1) := by decide +kernel
theorem dL_law_622 : decode cL_law 622 = .ok (.aload_n 0, 1) := by decide +kernel
theorem dL_law_623 : decode cL_law 623 = .ok (.iload_n 3, 1) := by decide +kernel
theorem dL_law_624 : decode cL_law 624 = .ok (.iconst 1, 1) := by decide +kernel
theorem dL_law_625 : decode cL_law 625 = .ok (.iadd, 1) := by decide +kernel
theorem dL_law_626 : decode cL_law 626 = .ok (.iaload, 1) := by decide +kernel
theorem dL_law_627 : decode cL_law 627 = .ok (.invokevirtual 68, 3) := by decide +kernel
theorem dL_law_630 : decode cL_law 630 = .ok (.aload_n 2, 1) := by decide +kernel
theorem dL_law_631 : decode cL_law 631 = .ok (.aload_n 0, 1) := by decide +kernel
theorem dL_law_632 : decode cL_law 632 = .ok (.iload_n 3, 1) := by decide +kernel
theorem dL_law_633 : decode cL_law 633 = .ok (.iconst 1, 1) := by decide +kernel
theorem dL_law_634 : decode cL_law 634 = .ok (.iadd, 1) := by decide +kernel
theorem dL_law_635 : decode cL_law 635 = .ok (.iaload, 1) := by decide +kernel
theorem dL_law_636 : decode cL_law 636 = .ok (.invokevirtual 71, 3) := by decide +kernel
theorem dL_law_639 : decode cL_law 639 = .ok (.if_icmp .eq 777, 3) := by decide +kernel
theorem dL_law_642 : decode cL_law 642 = .ok (.iconst 0, 1) := by decide +kernel
theorem dL_law_643 : decode cL_law 643 = .ok (.ireturn, 1) := by decide +kernel
theorem dL_law_644 : decode cL_law 644 = .ok (.aload_n 1, 1) := by decide +kernel
theorem dL_law_645 : decode cL_law 645 = .ok (.aload_n 0, 1) := by decide +kernel
theorem dL_law_646 : decode cL_law 646 = .ok (.iload_n 3, 1) := by decide +kernel
theorem dL_law_647 : decode cL_law 647 = .ok (.iconst 1, 1) := by decide +kernel
theorem dL_law_648 : decode cL_law 648 = .ok (.iadd, 1) := by decide +kernel
theorem dL_law_649 : decode cL_law 649 = .ok (.iaload, 1) := by decide +kernel
theorem dL_law_650 : decode cL_law 650 = .ok (.invokevirtual 72, 3) := by decide +kernel
theorem dL_law_653 : decode cL_law 653 = .ok (.aload_n 2, 1) := by decide +kernel
theorem dL_law_654 : decode cL_law 654 = .ok (.aload_n 0, 1) := by decide +kernel
theorem dL_law_655 : decode cL_law 655 = .ok (.iload_n 3, 1) := by decide +kernel
theorem dL_law_656 : decode cL_law 656 = .ok (.iconst 1, 1) := by decide +kernel
theorem dL_law_657 : decode cL_law 657 = .ok (.iadd, 1) := by decide +kernel
theorem dL_law_658 : decode cL_law 658 = .ok (.iaload, 1) := by decide +kernel
theorem dL_law_659 : decode cL_law 659 = .ok (.invokevirtual 75, 3) := by decide +kernel
theorem dL_law_662 : decode cL_law 662 = .ok (.if_icmp .eq 754, 3) := by decide +kernel
theorem dL_law_665 : decode cL_law 665 = .ok (.iconst 0, 1) := by decide +kernel
theorem dL_law_666 : decode cL_law 666 = .ok (.ireturn, 1) := by decide +kernel
theorem dL_law_667 : decode cL_law 667 = .ok (.aload_n 1, 1) := by decide +kernel
theorem dL_law_668 : decode cL_law 668 = .ok (.aload_n 0, 1) := by decide +kernel
theorem dL_law_669 : decode cL_law 669 = .ok (.iload_n 3, 1) := by decide +kernel
theorem dL_law_670 : decode cL_law 670 = .ok (.iconst 1, 1) := by decide +kernel
theorem dL_law_671 : decode cL_law 671 = .ok (.iadd, 1) := by decide +kernel
theorem dL_law_672 : decode cL_law 672 = .ok (.iaload, 1) := by decide +kernel
theorem dL_law_673 : decode cL_law 673 = .ok (.aload_n 0, 1) := by decide +kernel
theorem dL_law_674 : decode cL_law 674 = .ok (.iload_n 3, 1) := by decide +kernel
theorem dL_law_675 : decode cL_law 675 = .ok (.iconst 2, 1) := by decide +kernel
theorem dL_law_676 : decode cL_law 676 = .ok (.iadd, 1) := by decide +kernel
theorem dL_law_677 : decode cL_law 677 = .ok (.iaload, 1) := by decide +kernel
theorem dL_law_678 : decode cL_law 678 = .ok (.aload_n 0, 1) := by decide +kernel
theorem dL_law_679 : decode cL_law 679 = .ok (.iload_n 3, 1) := by decide +kernel
theorem dL_law_680 : decode cL_law 680 = .ok (.iconst 3, 1) := by decide +kernel
theorem dL_law_681 : decode cL_law 681 = .ok (.iadd, 1) := by decide +kernel
theorem dL_law_682 : decode cL_law 682 = .ok (.iaload, 1) := by decide +kernel
theorem dL_law_683 : decode cL_law 683 = .ok (.invokevirtual 76, 3) := by decide +kernel
theorem dL_law_686 : decode cL_law 686 = .ok (.aload_n 2, 1) := by decide +kernel
theorem dL_law_687 : decode cL_law 687 = .ok (.aload_n 0, 1) := by decide +kernel
theorem dL_law_688 : decode cL_law 688 = .ok (.iload_n 3, 1) := by decide +kernel
theorem dL_law_689 : decode cL_law 689 = .ok (.iconst 1, 1) := by decide +kernel
theorem dL_law_690 : decode cL_law 690 = .ok (.iadd, 1) := by decide +kernel
theorem dL_law_691 : decode cL_law 691 = .ok (.iaload, 1) := by decide +kernel
theorem dL_law_692 : decode cL_law 692 = .ok (.aload_n 0, 1) := by decide +kernel
theorem dL_law_693 : decode cL_law 693 = .ok (.iload_n 3, 1) := by decide +kernel
theorem dL_law_694 : decode cL_law 694 = .ok (.iconst 2, 1) := by decide +kernel
theorem dL_law_695 : decode cL_law 695 = .ok (.iadd, 1) := by decide +kernel
theorem dL_law_696 : decode cL_law 696 = .ok (.iaload, 1) := by decide +kernel
theorem dL_law_697 : decode cL_law 697 = .ok (.aload_n 0, 1) := by decide +kernel
theorem dL_law_698 : decode cL_law 698 = .ok (.iload_n 3, 1) := by decide +kernel
theorem dL_law_699 : decode cL_law 699 = .ok (.iconst 3, 1) := by decide +kernel
theorem dL_law_700 : decode cL_law 700 = .ok (.iadd, 1) := by decide +kernel
theorem dL_law_701 : decode cL_law 701 = .ok (.iaload, 1) := by decide +kernel
theorem dL_law_702 : decode cL_law 702 = .ok (.invokevirtual 79, 3) := by decide +kernel
theorem dL_law_705 : decode cL_law 705 = .ok (.if_icmp .eq 711, 3) := by decide +kernel
theorem dL_law_708 : decode cL_law 708 = .ok (.iconst 0, 1) := by decide +kernel
theorem dL_law_709 : decode cL_law 709 = .ok (.ireturn, 1) := by decide +kernel
theorem dL_law_710 : decode cL_law 710 = .ok (.aload_n 1, 1) := by decide +kernel
theorem dL_law_711 : decode cL_law 711 = .ok (.aload_n 0, 1) := by decide +kernel
theorem dL_law_712 : decode cL_law 712 = .ok (.iload_n 3, 1) := by decide +kernel
theorem dL_law_713 : decode cL_law 713 = .ok (.iconst 1, 1) := by decide +kernel
theorem dL_law_714 : decode cL_law 714 = .ok (.iadd, 1) := by decide +kernel
theorem dL_law_715 : decode cL_law 715 = .ok (.iaload, 1) := by decide +kernel
theorem dL_law_716 : decode cL_law 716 = .ok (.invokevirtual 80, 3) := by decide +kernel
theorem dL_law_719 : decode cL_law 719 = .ok (.aload_n 2, 1) := by decide +kernel
theorem dL_law_720 : decode cL_law 720 = .ok (.aload_n 0, 1) := by decide +kernel
theorem dL_law_721 : decode cL_law 721 = .ok (.iload_n 3, 1) := by decide +kernel
theorem dL_law_722 : decode cL_law 722 = .ok (.iconst 1, 1) := by decide +kernel
theorem dL_law_723 : decode cL_law 723 = .ok (.iadd, 1) := by decide +kernel
theorem dL_law_724 : decode cL_law 724 = .ok (.iaload, 1) := by decide +kernel
theorem dL_law_725 : decode cL_law 725 = .ok (.invokevirtual 83, 3) := by decide +kernel
theorem dL_law_728 : decode cL_law 728 = .ok (.if_icmp .eq 688, 3) := by decide +kernel
theorem dL_law_731 : decode cL_law 731 = .ok (.iconst 0, 1) := by decide +kernel
theorem dL_law_732 : decode cL_law 732 = .ok (.ireturn, 1) := by decide +kernel
theorem dL_law_733 : decode cL_law 733 = .ok (.aload_n 1, 1) := by decide +kernel
theorem dL_law_734 : decode cL_law 734 = .ok (.invokevirtual 84, 3) := by decide +kernel
theorem dL_law_737 : decode cL_law 737 = .ok (.aload_n 2, 1) := by decide +kernel
theorem dL_law_738 : decode cL_law 738 = .ok (.invokevirtual 88, 3) := by decide +kernel
theorem dL_law_741 : decode cL_law 741 = .ok (.if_icmp .eq 675, 3) := by decide +kernel
theorem dL_law_744 : decode cL_law 744 = .ok (.iconst 0, 1) := by decide +kernel
theorem dL_law_745 : decode cL_law 745 = .ok (.ireturn, 1) := by decide +kernel
theorem dL_law_746 : decode cL_law 746 = .ok (.aload_n 1, 1) := by decide +kernel
theorem dL_law_747 : decode cL_law 747 = .ok (.aload_n 0, 1) := by decide +kernel
theorem dL_law_748 : decode cL_law 748 = .ok (.iload_n 3, 1) := by decide +kernel
theorem dL_law_749 : decode cL_law 749 = .ok (.iconst 1, 1) := by decide +kernel
theorem dL_law_750 : decode cL_law 750 = .ok (.iadd, 1) := by decide +kernel
theorem dL_law_751 : decode cL_law 751 = .ok (.iaload, 1) := by decide +kernel
theorem dL_law_752 : decode cL_law 752 = .ok (.invokevirtual 89, 3) := by decide +kernel
theorem dL_law_755 : decode cL_law 755 = .ok (.aload_n 2, 1) := by decide +kernel
theorem dL_law_756 : decode cL_law 756 = .ok (.aload_n 0, 1) := by decide +kernel
theorem dL_law_757 : decode cL_law 757 = .ok (.iload_n 3, 1) := by decide +kernel
theorem dL_law_758 : decode cL_law 758 = .ok (.iconst 1, 1) := by decide +kernel
theorem dL_law_759 : decode cL_law 759 = .ok (.iadd, 1) := by decide +kernel
theorem dL_law_760 : decode cL_law 760 = .ok (.iaload, 1) := by decide +kernel
theorem dL_law_761 : decode cL_law 761 = .ok (.invokevirtual 92, 3) := by decide +kernel
theorem dL_law_764 : decode cL_law 764 = .ok (.if_icmp .eq 652, 3) := by decide +kernel
theorem dL_law_767 : decode cL_law 767 = .ok (.iconst 0, 1) := by decide +kernel
theorem dL_law_768 : decode cL_law 768 = .ok (.ireturn, 1) := by decide +kernel
theorem dL_law_769 : decode cL_law 769 = .ok (.aload_n 1, 1) := by decide +kernel
theorem dL_law_770 : decode cL_law 770 = .ok (.aload_n 0, 1) := by decide +kernel
theorem dL_law_771 : decode cL_law 771 = .ok (.iload_n 3, 1) := by decide +kernel
theorem dL_law_772 : decode cL_law 772 = .ok (.iconst 1, 1) := by decide +kernel
theorem dL_law_773 : decode cL_law 773 = .ok (.iadd, 1) := by decide +kernel
theorem dL_law_774 : decode cL_law 774 = .ok (.iaload, 1) := by decide +kernel
theorem dL_law_775 : decode cL_law 775 = .ok (.invokevirtual 93, 3) := by decide +kernel
theorem dL_law_778 : decode cL_law 778 = .ok (.aload_n 2, 1) := by decide +kernel
theorem dL_law_779 : decode cL_law 779 = .ok (.aload_n 0, 1) := by decide +kernel
theorem dL_law_780 : decode cL_law 780 = .ok (.iload_n 3, 1) := by decide +kernel
theorem dL_law_781 : decode cL_law 781 = .ok (.iconst 1, 1) := by decide +kernel
theorem dL_law_782 : decode cL_law 782 = .ok (.iadd, 1) := by decide +kernel
theorem dL_law_783 : decode cL_law 783 = .ok (.iaload, 1) := by decide +kernel
theorem dL_law_784 : decode cL_law 784 = .ok (.invokevirtual 96, 3) := by decide +kernel
theorem dL_law_787 : decode cL_law 787 = .ok (.if_icmp .eq 629, 3) := by decide +kernel
theorem dL_law_790 : decode cL_law 790 = .ok (.iconst 0, 1) := by decide +kernel
theorem dL_law_791 : decode cL_law 791 = .ok (.ireturn, 1) := by decide +kernel
theorem dL_law_792 : decode cL_law 792 = .ok (.aload_n 1, 1) := by decide +kernel
theorem dL_law_793 : decode cL_law 793 = .ok (.aload_n 0, 1) := by decide +kernel
theorem dL_law_794 : decode cL_law 794 = .ok (.iload_n 3, 1) := by decide +kernel
theorem dL_law_795 : decode cL_law 795 = .ok (.iconst 1, 1) := by decide +kernel
theorem dL_law_796 : decode cL_law 796 = .ok (.iadd, 1) := by decide +kernel
theorem dL_law_797 : decode cL_law 797 = .ok (.iaload, 1) := by decide +kernel
theorem dL_law_798 : decode cL_law 798 = .ok (.invokevirtual 97, 3) := by decide +kernel
theorem dL_law_801 : decode cL_law 801 = .ok (.aload_n 2, 1) := by decide +kernel
theorem dL_law_802 : decode cL_law 802 = .ok (.aload_n 0, 1) := by decide +kernel
theorem dL_law_803 : decode cL_law 803 = .ok (.iload_n 3, 1) := by decide +kernel
theorem dL_law_804 : decode cL_law 804 = .ok (.iconst 1, 1) := by decide +kernel
theorem dL_law_805 : decode cL_law 805 = .ok (.iadd, 1) := by decide +kernel
theorem dL_law_806 : decode cL_law 806 = .ok (.iaload, 1) := by decide +kernel
theorem dL_law_807 : decode cL_law 807 = .ok (.invokevirtual 100, 3) := by decide +kernel
theorem dL_law_810 : decode cL_law 810 = .ok (.if_icmp .eq 606, 3) := by decide +kernel
theorem dL_law_813 : decode cL_law 813 = .ok (.iconst 0, 1) := by decide +kernel
theorem dL_law_814 : decode cL_law 814 = .ok (.ireturn, 1) := by decide +kernel
theorem dL_law_815 : decode cL_law 815 = .ok (.aload_n 1, 1) := by decide +kernel
theorem dL_law_816 : decode cL_law 816 = .ok (.aload_n 0, 1) := by decide +kernel
theorem dL_law_817 : decode cL_law 817 = .ok (.iload_n 3, 1) := by decide +kernel
theorem dL_law_818 : decode cL_law 818 = .ok (.iconst 1, 1) := by decide +kernel
theorem dL_law_819 : decode cL_law 819 = .ok (.iadd, 1) := by decide +kernel
theorem dL_law_820 : decode cL_law 820 = .ok (.iaload, 1) := by decide +kernel
theorem dL_law_821 : decode cL_law 821 = .ok (.aload_n 0, 1) := by decide +kernel
theorem dL_law_822 : decode cL_law 822 = .ok (.iload_n 3, 1) := by decide +kernel
theorem dL_law_823 : decode cL_law 823 = .ok (.iconst 2, 1) := by decide +kernel
theorem dL_law_824 : decode cL_law 824 = .ok (.iadd, 1) := by decide +kernel
theorem dL_law_825 : decode cL_law 825 = .ok (.iaload, 1) := by decide +kernel
theorem dL_law_826 : decode cL_law 826 = .ok (.invokevirtual 101, 3) := by decide +kernel
theorem dL_law_829 : decode cL_law 829 = .ok (.aload_n 2, 1) := by decide +kernel
theorem dL_law_830 : decode cL_law 830 = .ok (.aload_n 0, 1) := by decide +kernel
theorem dL_law_831 : decode cL_law 831 = .ok (.iload_n 3, 1) := by decide +kernel
theorem dL_law_832 : decode cL_law 832 = .ok (.iconst 1, 1) := by decide +kernel
theorem dL_law_833 : decode cL_law 833 = .ok (.iadd, 1) := by decide +kernel
theorem dL_law_834 : decode cL_law 834 = .ok (.iaload, 1) := by decide +kernel
theorem dL_law_835 : decode cL_law 835 = .ok (.aload_n 0, 1) := by decide +kernel
theorem dL_law_836 : decode cL_law 836 = .ok (.iload_n 3, 1) := by decide +kernel
theorem dL_law_837 : decode cL_law 837 = .ok (.iconst 2, 1) := by decide +kernel
theorem dL_law_838 : decode cL_law 838 = .ok (.iadd, 1) := by decide +kernel
theorem dL_law_839 : decode cL_law 839 = .ok (.iaload, 1) := by decide +kernel
theorem dL_law_840 : decode cL_law 840 = .ok (.invokevirtual 104, 3) := by decide +kernel
theorem dL_law_843 : decode cL_law 843 = .ok (.if_icmp .eq 573, 3) := by decide +kernel
theorem dL_law_846 : decode cL_law 846 = .ok (.iconst 0, 1) := by decide +kernel
theorem dL_law_847 : decode cL_law 847 = .ok (.ireturn, 1) := by decide +kernel
theorem dL_law_848 : decode cL_law 848 = .ok (.aload_n 1, 1) := by decide +kernel
theorem dL_law_849 : decode cL_law 849 = .ok (.aload_n 0, 1) := by decide +kernel
theorem dL_law_850 : decode cL_law 850 = .ok (.iload_n 3, 1) := by decide +kernel
theorem dL_law_851 : decode cL_law 851 = .ok (.iconst 1, 1) := by decide +kernel
theorem dL_law_852 : decode cL_law 852 = .ok (.iadd, 1) := by decide +kernel
theorem dL_law_853 : decode cL_law 853 = .ok (.iaload, 1) := by decide +kernel
theorem dL_law_854 : decode cL_law 854 = .ok (.aload_n 0, 1) := by decide +kernel
theorem dL_law_855 : decode cL_law 855 = .ok (.iload_n 3, 1) := by decide +kernel
theorem dL_law_856 : decode cL_law 856 = .ok (.iconst 2, 1) := by decide +kernel
theorem dL_law_857 : decode cL_law 857 = .ok (.iadd, 1) := by decide +kernel
theorem dL_law_858 : decode cL_law 858 = .ok (.iaload, 1) := by decide +kernel
theorem dL_law_859 : decode cL_law 859 = .ok (.invokevirtual 105, 3) := by decide +kernel
theorem dL_law_862 : decode cL_law 862 = .ok (.aload_n 2, 1) := by decide +kernel
theorem dL_law_863 : decode cL_law 863 = .ok (.aload_n 0, 1) := by decide +kernel
theorem dL_law_864 : decode cL_law 864 = .ok (.iload_n 3, 1) := by decide +kernel
theorem dL_law_865 : decode cL_law 865 = .ok (.iconst 1, 1) := by decide +kernel
theorem dL_law_866 : decode cL_law 866 = .ok (.iadd, 1) := by decide +kernel
theorem dL_law_867 : decode cL_law 867 = .ok (.iaload, 1) := by decide +kernel
theorem dL_law_868 : decode cL_law 868 = .ok (.aload_n 0, 1) := by decide +kernel
theorem dL_law_869 : decode cL_law 869 = .ok (.iload_n 3, 1) := by decide +kernel
theorem dL_law_870 : decode cL_law 870 = .ok (.iconst 2, 1) := by decide +kernel
theorem dL_law_871 : decode cL_law 871 = .ok (.iadd, 1) := by decide +kernel
theorem dL_law_872 : decode cL_law 872 = .ok (.iaload, 1) := by decide +kernel
theorem dL_law_873 : decode cL_law 873 = .ok (.invokevirtual 108, 3) := by decide +kernel
theorem dL_law_876 : decode cL_law 876 = .ok (.if_icmp .eq 540, 3) := by decide +kernel
theorem dL_law_879 : decode cL_law 879 = .ok (.iconst 0, 1) := by decide +kernel
theorem dL_law_880 : decode cL_law 880 = .ok (.ireturn, 1) := by decide +kernel
theorem dL_law_881 : decode cL_law 881 = .ok (.aload_n 1, 1) := by decide +kernel
theorem dL_law_882 : decode cL_law 882 = .ok (.aload_n 0, 1) := by decide +kernel
theorem dL_law_883 : decode cL_law 883 = .ok (.iload_n 3, 1) := by decide +kernel
theorem dL_law_884 : decode cL_law 884 = .ok (.iconst 1, 1) := by decide +kernel
theorem dL_law_885 : decode cL_law 885 = .ok (.iadd, 1) := by decide +kernel
theorem dL_law_886 : decode cL_law 886 = .ok (.iaload, 1) := by decide +kernel
theorem dL_law_887 : decode cL_law 887 = .ok (.aload_n 0, 1) := by decide +kernel
theorem dL_law_888 : decode cL_law 888 = .ok (.iload_n 3, 1) := by decide +kernel
theorem dL_law_889 : decode cL_law 889 = .ok (.iconst 2, 1) := by decide +kernel
theorem dL_law_890 : decode cL_law 890 = .ok (.iadd, 1) := by decide +kernel
theorem dL_law_891 : decode cL_law 891 = .ok (.iaload, 1) := by decide +kernel
theorem dL_law_892 : decode cL_law 892 = .ok (.invokevirtual 109, 3) := by decide +kernel
theorem dL_law_895 : decode cL_law 895 = .ok (.aload_n 2, 1) := by decide +kernel
theorem dL_law_896 : decode cL_law 896 = .ok (.aload_n 0, 1) := by decide +kernel
theorem dL_law_897 : decode cL_law 897 = .ok (.iload_n 3, 1) := by decide +kernel
theorem dL_law_898 : decode cL_law 898 = .ok (.iconst 1, 1) := by decide +kernel
theorem dL_law_899 : decode cL_law 899 = .ok (.iadd, 1) := by decide +kernel
theorem dL_law_900 : decode cL_law 900 = .ok (.iaload, 1) := by decide +kernel
theorem dL_law_901 : decode cL_law 901 = .ok (.aload_n 0, 1) := by decide +kernel
theorem dL_law_902 : decode cL_law 902 = .ok (.iload_n 3, 1) := by decide +kernel
theorem dL_law_903 : decode cL_law 903 = .ok (.iconst 2, 1) := by decide +kernel
theorem dL_law_904 : decode cL_law 904 = .ok (.iadd, 1) := by decide +kernel
theorem dL_law_905 : decode cL_law 905 = .ok (.iaload, 1) := by decide +kernel
theorem dL_law_906 : decode cL_law 906 = .ok (.invokevirtual 112, 3) := by decide +kernel
theorem dL_law_909 : decode cL_law 909 = .ok (.if_icmp .eq 507, 3) := by decide +kernel
theorem dL_law_912 : decode cL_law 912 = .ok (.iconst 0, 1) := by decide +kernel
theorem dL_law_913 : decode cL_law 913 = .ok (.ireturn, 1) := by decide +kernel
theorem dL_law_914 : decode cL_law 914 = .ok (.aload_n 1, 1) := by decide +kernel
theorem dL_law_915 : decode cL_law 915 = .ok (.aload_n 0, 1) := by decide +kernel
theorem dL_law_916 : decode cL_law 916 = .ok (.iload_n 3, 1) := by decide +kernel
theorem dL_law_917 : decode cL_law 917 = .ok (.iconst 1, 1) := by decide +kernel
theorem dL_law_918 : decode cL_law 918 = .ok (.iadd, 1) := by decide +kernel
theorem dL_law_919 : decode cL_law 919 = .ok (.iaload, 1) := by decide +kernel
theorem dL_law_920 : decode cL_law 920 = .ok (.aload_n 0, 1) := by decide +kernel
theorem dL_law_921 : decode cL_law 921 = .ok (.iload_n 3, 1) := by decide +kernel
theorem dL_law_922 : decode cL_law 922 = .ok (.iconst 2, 1) := by decide +kernel
theorem dL_law_923 : decode cL_law 923 = .ok (.iadd, 1) := by decide +kernel
theorem dL_law_924 : decode cL_law 924 = .ok (.iaload, 1) := by decide +kernel
theorem dL_law_925 : decode cL_law 925 = .ok (.invokevirtual 113, 3) := by decide +kernel
theorem dL_law_928 : decode cL_law 928 = .ok (.aload_n 2, 1) := by decide +kernel
theorem dL_law_929 : decode cL_law 929 = .ok (.aload_n 0, 1) := by decide +kernel
theorem dL_law_930 : decode cL_law 930 = .ok (.iload_n 3, 1) := by decide +kernel
theorem dL_law_931 : decode cL_law 931 = .ok (.iconst 1, 1) := by decide +kernel
theorem dL_law_932 : decode cL_law 932 = .ok (.iadd, 1) := by decide +kernel
theorem dL_law_933 : decode cL_law 933 = .ok (.iaload, 1) := by decide +kernel
theorem dL_law_934 : decode cL_law 934 = .ok (.aload_n 0, 1) := by decide +kernel
theorem dL_law_935 : decode cL_law 935 = .ok (.iload_n 3, 1) := by decide +kernel
theorem dL_law_936 : decode cL_law 936 = .ok (.iconst 2, 1) := by decide +kernel
theorem dL_law_937 : decode cL_law 937 = .ok (.iadd, 1) := by decide +kernel
theorem dL_law_938 : decode cL_law 938 = .ok (.iaload, 1) := by decide +kernel
theorem dL_law_939 : decode cL_law 939 = .ok (.invokevirtual 116, 3) := by decide +kernel
theorem dL_law_942 : decode cL_law 942 = .ok (.if_icmp .eq 474, 3) := by decide +kernel
theorem dL_law_945 : decode cL_law 945 = .ok (.iconst 0, 1) := by decide +kernel
theorem dL_law_946 : decode cL_law 946 = .ok (.ireturn, 1) := by decide +kernel
theorem dL_law_947 : decode cL_law 947 = .ok (.aload_n 1, 1) := by decide +kernel
theorem dL_law_948 : decode cL_law 948 = .ok (.aload_n 0, 1) := by decide +kernel
theorem dL_law_949 : decode cL_law 949 = .ok (.iload_n 3, 1) := by decide +kernel
theorem dL_law_950 : decode cL_law 950 = .ok (.iconst 1, 1) := by decide +kernel
theorem dL_law_951 : decode cL_law 951 = .ok (.iadd, 1) := by decide +kernel
theorem dL_law_952 : decode cL_law 952 = .ok (.iaload, 1) := by decide +kernel
theorem dL_law_953 : decode cL_law 953 = .ok (.aload_n 0, 1) := by decide +kernel
theorem dL_law_954 : decode cL_law 954 = .ok (.iload_n 3, 1) := by decide +kernel
theorem dL_law_955 : decode cL_law 955 = .ok (.iconst 2, 1) := by decide +kernel
theorem dL_law_956 : decode cL_law 956 = .ok (.iadd, 1) := by decide +kernel
theorem dL_law_957 : decode cL_law 957 = .ok (.iaload, 1) := by decide +kernel
theorem dL_law_958 : decode cL_law 958 = .ok (.invokevirtual 117, 3) := by decide +kernel
theorem dL_law_961 : decode cL_law 961 = .ok (.aload_n 2, 1) := by decide +kernel
theorem dL_law_962 : decode cL_law 962 = .ok (.aload_n 0, 1) := by decide +kernel
theorem dL_law_963 : decode cL_law 963 = .ok (.iload_n 3, 1) := by decide +kernel
theorem dL_law_964 : decode cL_law 964 = .ok (.iconst 1, 1) := by decide +kernel
theorem dL_law_965 : decode cL_law 965 = .ok (.iadd, 1) := by decide +kernel
theorem dL_law_966 : decode cL_law 966 = .ok (.iaload, 1) := by decide +kernel
theorem dL_law_967 : decode cL_law 967 = .ok (.aload_n 0, 1) := by decide +kernel
theorem dL_law_968 : decode cL_law 968 = .ok (.iload_n 3, 1) := by decide +kernel
theorem dL_law_969 : decode cL_law 969 = .ok (.iconst 2, 1) := by decide +kernel
theorem dL_law_970 : decode cL_law 970 = .ok (.iadd, 1) := by decide +kernel
theorem dL_law_971 : decode cL_law 971 = .ok (.iaload, 1) := by decide +kernel
theorem dL_law_972 : decode cL_law 972 = .ok (.invokevirtual 120, 3) := by decide +kernel
theorem dL_law_975 : decode cL_law 975 = .ok (.if_icmp .eq 441, 3) := by decide +kernel
theorem dL_law_978 : decode cL_law 978 = .ok (.iconst 0, 1) := by decide +kernel
theorem dL_law_979 : decode cL_law 979 = .ok (.ireturn, 1) := by decide +kernel
theorem dL_law_980 : decode cL_law 980 = .ok (.aload_n 1, 1) := by decide +kernel
theorem dL_law_981 : decode cL_law 981 = .ok (.aload_n 0, 1) := by decide +kernel
theorem dL_law_982 : decode cL_law 982 = .ok (.iload_n 3, 1) := by decide +kernel
theorem dL_law_983 : decode cL_law 983 = .ok (.iconst 1, 1) := by decide +kernel
theorem dL_law_984 : decode cL_law 984 = .ok (.iadd, 1) := by decide +kernel
theorem dL_law_985 : decode cL_law 985 = .ok (.iaload, 1) := by decide +kernel
theorem dL_law_986 : decode cL_law 986 = .ok (.invokevirtual 121, 3) := by decide +kernel
theorem dL_law_989 : decode cL_law 989 = .ok (.aload_n 2, 1) := by decide +kernel
theorem dL_law_990 : decode cL_law 990 = .ok (.aload_n 0, 1) := by decide +kernel
theorem dL_law_991 : decode cL_law 991 = .ok (.iload_n 3, 1) := by decide +kernel
theorem dL_law_992 : decode cL_law 992 = .ok (.iconst 1, 1) := by decide +kernel
theorem dL_law_993 : decode cL_law 993 = .ok (.iadd, 1) := by decide +kernel
theorem dL_law_994 : decode cL_law 994 = .ok (.iaload, 1) := by decide +kernel
theorem dL_law_995 : decode cL_law 995 = .ok (.invokevirtual 124, 3) := by decide +kernel
theorem dL_law_998 : decode cL_law 998 = .ok (.if_icmp .eq 418, 3) := by decide +kernel
theorem dL_law_1001 : decode cL_law 1001 = .ok (.iconst 0, 1) := by decide +kernel
theorem dL_law_1002 : decode cL_law 1002 = .ok (.ireturn, 1) := by decide +kernel
theorem dL_law_1003 : decode cL_law 1003 = .ok (.aload_n 1, 1) := by decide +kernel
theorem dL_law_1004 : decode cL_law 1004 = .ok (.aload_n 0, 1) := by decide +kernel
theorem dL_law_1005 : decode cL_law 1005 = .ok (.iload_n 3, 1) := by decide +kernel
theorem dL_law_1006 : decode cL_law 1006 = .ok (.iconst 1, 1) := by decide +kernel
theorem dL_law_1007 : decode cL_law 1007 = .ok (.iadd, 1) := by decide +kernel
theorem dL_law_1008 : decode cL_law 1008 = .ok (.iaload, 1) := by decide +kernel
theorem dL_law_1009 : decode cL_law 1009 = .ok (.aload_n 0, 1) := by decide +kernel
theorem dL_law_1010 : decode cL_law 1010 = .ok (.iload_n 3, 1) := by decide +kernel
theorem dL_law_1011 : decode cL_law 1011 = .ok (.iconst 2, 1) := by decide +kernel
theorem dL_law_1012 : decode cL_law 1012 = .ok (.iadd, 1) := by decide +kernel
theorem dL_law_1013 : decode cL_law 1013 = .ok (.iaload, 1) := by decide +kernel
theorem dL_law_1014 : decode cL_law 1014 = .ok (.invokevirtual 125, 3) := by decide +kernel
theorem dL_law_1017 : decode cL_law 1017 = .ok (.aload_n 2, 1) := by decide +kernel
theorem dL_law_1018 : decode cL_law 1018 = .ok (.aload_n 0, 1) := by decide +kernel
theorem dL_law_1019 : decode cL_law 1019 = .ok (.iload_n 3, 1) := by decide +kernel
theorem dL_law_1020 : decode cL_law 1020 = .ok (.iconst 1, 1) := by decide +kernel
theorem dL_law_1021 : decode cL_law 1021 = .ok (.iadd, 1) := by decide +kernel
theorem dL_law_1022 : decode cL_law 1022 = .ok (.iaload, 1) := by decide +kernel
theorem dL_law_1023 : decode cL_law 1023 = .ok (.aload_n 0, 1) := by decide +kernel
theorem dL_law_1024 : decode cL_law 1024 = .ok (.iload_n 3, 1) := by decide +kernel
theorem dL_law_1025 : decode cL_law 1025 = .ok (.iconst 2, 1) := by decide +kernel
theorem dL_law_1026 : decode cL_law 1026 = .ok (.iadd, 1) := by decide +kernel
theorem dL_law_1027 : decode cL_law 1027 = .ok (.iaload, 1) := by decide +kernel
theorem dL_law_1028 : decode cL_law 1028 = .ok (.invokevirtual 128, 3) := by decide +kernel
theorem dL_law_1031 : decode cL_law 1031 = .ok (.if_icmp .eq 385, 3) := by decide +kernel
theorem dL_law_1034 : decode cL_law 1034 = .ok (.iconst 0, 1) := by decide +kernel
theorem dL_law_1035 : decode cL_law 1035 = .ok (.ireturn, 1) := by decide +kernel
theorem dL_law_1036 : decode cL_law 1036 = .ok (.aload_n 1, 1) := by decide +kernel
theorem dL_law_1037 : decode cL_law 1037 = .ok (.invokevirtual 129, 3) := by decide +kernel
theorem dL_law_1040 : decode cL_law 1040 = .ok (.aload_n 2, 1) := by decide +kernel
theorem dL_law_1041 : decode cL_law 1041 = .ok (.invokevirtual 132, 3) := by decide +kernel
theorem dL_law_1044 : decode cL_law 1044 = .ok (.if_icmp .eq 372, 3) := by decide +kernel
theorem dL_law_1047 : decode cL_law 1047 = .ok (.iconst 0, 1) := by decide +kernel
theorem dL_law_1048 : decode cL_law 1048 = .ok (.ireturn, 1) := by decide +kernel
theorem dL_law_1049 : decode cL_law 1049 = .ok (.aload_n 1, 1) := by decide +kernel
theorem dL_law_1050 : decode cL_law 1050 = .ok (.invokevirtual 133, 3) := by decide +kernel
theorem dL_law_1053 : decode cL_law 1053 = .ok (.aload_n 2, 1) := by decide +kernel
theorem dL_law_1054 : decode cL_law 1054 = .ok (.invokevirtual 136, 3) := by decide +kernel
theorem dL_law_1057 : decode cL_law 1057 = .ok (.if_icmp .eq 359, 3) := by decide +kernel
theorem dL_law_1060 : decode cL_law 1060 = .ok (.iconst 0, 1) := by decide +kernel
theorem dL_law_1061 : decode cL_law 1061 = .ok (.ireturn, 1) := by decide +kernel
theorem dL_law_1062 : decode cL_law 1062 = .ok (.aload_n 1, 1) := by decide +kernel
theorem dL_law_1063 : decode cL_law 1063 = .ok (.aload_n 0, 1) := by decide +kernel
theorem dL_law_1064 : decode cL_law 1064 = .ok (.iload_n 3, 1) := by decide +kernel
theorem dL_law_1065 : decode cL_law 1065 = .ok (.iconst 1, 1) := by decide +kernel
theorem dL_law_1066 : decode cL_law 1066 = .ok (.iadd, 1) := by decide +kernel
theorem dL_law_1067 : decode cL_law 1067 = .ok (.iaload, 1) := by decide +kernel
theorem dL_law_1068 : decode cL_law 1068 = .ok (.aload_n 0, 1) := by decide +kernel
theorem dL_law_1069 : decode cL_law 1069 = .ok (.iload_n 3, 1) := by decide +kernel
theorem dL_law_1070 : decode cL_law 1070 = .ok (.iconst 2, 1) := by decide +kernel
theorem dL_law_1071 : decode cL_law 1071 = .ok (.iadd, 1) := by decide +kernel
theorem dL_law_1072 : decode cL_law 1072 = .ok (.iaload, 1) := by decide +kernel
theorem dL_law_1073 : decode cL_law 1073 = .ok (.aload_n 0, 1) := by decide +kernel
theorem dL_law_1074 : decode cL_law 1074 = .ok (.iload_n 3, 1) := by decide +kernel
theorem dL_law_1075 : decode cL_law 1075 = .ok (.iconst 3, 1) := by decide +kernel
theorem dL_law_1076 : decode cL_law 1076 = .ok (.iadd, 1) := by decide +kernel
theorem dL_law_1077 : decode cL_law 1077 = .ok (.iaload, 1) := by decide +kernel
theorem dL_law_1078 : decode cL_law 1078 = .ok (.invokevirtual 137, 3) := by decide +kernel
theorem dL_law_1081 : decode cL_law 1081 = .ok (.aload_n 2, 1) := by decide +kernel
theorem dL_law_1082 : decode cL_law 1082 = .ok (.aload_n 0, 1) := by decide +kernel
theorem dL_law_1083 : decode cL_law 1083 = .ok (.iload_n 3, 1) := by decide +kernel
theorem dL_law_1084 : decode cL_law 1084 = .ok (.iconst 1, 1) := by decide +kernel
theorem dL_law_1085 : decode cL_law 1085 = .ok (.iadd, 1) := by decide +kernel
theorem dL_law_1086 : decode cL_law 1086 = .ok (.iaload, 1) := by decide +kernel
theorem dL_law_1087 : decode cL_law 1087 = .ok (.aload_n 0, 1) := by decide +kernel
theorem dL_law_1088 : decode cL_law 1088 = .ok (.iload_n 3, 1) := by decide +kernel
theorem dL_law_1089 : decode cL_law 1089 = .ok (.iconst 2, 1) := by decide +kernel
theorem dL_law_1090 : decode cL_law 1090 = .ok (.iadd, 1) := by decide +kernel
theorem dL_law_1091 : decode cL_law 1091 = .ok (.iaload, 1) := by decide +kernel
theorem dL_law_1092 : decode cL_law 1092 = .ok (.aload_n 0, 1) := by decide +kernel
theorem dL_law_1093 : decode cL_law 1093 = .ok (.iload_n 3, 1) := by decide +kernel
theorem dL_law_1094 : decode cL_law 1094 = .ok (.iconst 3, 1) := by decide +kernel
theorem dL_law_1095 : decode cL_law 1095 = .ok (.iadd, 1) := by decide +kernel
theorem dL_law_1096 : decode cL_law 1096 = .ok (.iaload, 1) := by decide +kernel
theorem dL_law_1097 : decode cL_law 1097 = .ok (.invokevirtual 140, 3) := by decide +kernel
theorem dL_law_1100 : decode cL_law 1100 = .ok (.if_icmp .eq 316, 3) := by decide +kernel
theorem dL_law_1103 : decode cL_law 1103 = .ok (.iconst 0, 1) := by decide +kernel
theorem dL_law_1104 : decode cL_law 1104 = .ok (.ireturn, 1) := by decide +kernel
theorem dL_law_1105 : decode cL_law 1105 = .ok (.aload_n 1, 1) := by decide +kernel
theorem dL_law_1106 : decode cL_law 1106 = .ok (.aload_n 0, 1) := by decide +kernel
theorem dL_law_1107 : decode cL_law 1107 = .ok (.iload_n 3, 1) := by decide +kernel
theorem dL_law_1108 : decode cL_law 1108 = .ok (.iconst 1, 1) := by decide +kernel
theorem dL_law_1109 : decode cL_law 1109 = .ok (.iadd, 1) := by decide +kernel
theorem dL_law_1110 : decode cL_law 1110 = .ok (.iaload, 1) := by decide +kernel
theorem dL_law_1111 : decode cL_law 1111 = .ok (.aload_n 0, 1) := by decide +kernel
theorem dL_law_1112 : decode cL_law 1112 = .ok (.iload_n 3, 1) := by decide +kernel
theorem dL_law_1113 : decode cL_law 1113 = .ok (.iconst 2, 1) := by decide +kernel
theorem dL_law_1114 : decode cL_law 1114 = .ok (.iadd, 1) := by decide +kernel
theorem dL_law_1115 : decode cL_law 1115 = .ok (.iaload, 1) := by decide +kernel
theorem dL_law_1116 : decode cL_law 1116 = .ok (.aload_n 0, 1) := by decide +kernel
theorem dL_law_1117 : decode cL_law 1117 = .ok (.iload_n 3, 1) := by decide +kernel
theorem dL_law_1118 : decode cL_law 1118 = .ok (.iconst 3, 1) := by decide +kernel
theorem dL_law_1119 : decode cL_law 1119 = .ok (.iadd, 1) := by decide +kernel
theorem dL_law_1120 : decode cL_law 1120 = .ok (.iaload, 1) := by decide +kernel
theorem dL_law_1121 : decode cL_law 1121 = .ok (.i2l, 1) := by decide +kernel
theorem dL_law_1122 : decode cL_law 1122 = .ok (.bipush 32, 2) := by decide +kernel
theorem dL_law_1124 : decode cL_law 1124 = .ok (.lshl, 1) := by decide +kernel
theorem dL_law_1125 : decode cL_law 1125 = .ok (.aload_n 0, 1) := by decide +kernel
theorem dL_law_1126 : decode cL_law 1126 = .ok (.iload_n 3, 1) := by decide +kernel
theorem dL_law_1127 : decode cL_law 1127 = .ok (.iconst 4, 1) := by decide +kernel
theorem dL_law_1128 : decode cL_law 1128 = .ok (.iadd, 1) := by decide +kernel
theorem dL_law_1129 : decode cL_law 1129 = .ok (.iaload, 1) := by decide +kernel
theorem dL_law_1130 : decode cL_law 1130 = .ok (.i2l, 1) := by decide +kernel
theorem dL_law_1131 : decode cL_law 1131 = .ok (.ldc2_w 141, 3) := by decide +kernel
theorem dL_law_1134 : decode cL_law 1134 = .ok (.land, 1) := by decide +kernel
theorem dL_law_1135 : decode cL_law 1135 = .ok (.lor, 1) := by decide +kernel
theorem dL_law_1136 : decode cL_law 1136 = .ok (.invokevirtual 143, 3) := by decide +kernel
theorem dL_law_1139 : decode cL_law 1139 = .ok (.aload_n 2, 1) := by decide +kernel
theorem dL_law_1140 : decode cL_law 1140 = .ok (.aload_n 0, 1) := by decide +kernel
theorem dL_law_1141 : decode cL_law 1141 = .ok (.iload_n 3, 1) := by decide +kernel
theorem dL_law_1142 : decode cL_law 1142 = .ok (.iconst 1, 1) := by decide +kernel
theorem dL_law_1143 : decode cL_law 1143 = .ok (.iadd, 1) := by decide +kernel
theorem dL_law_1144 : decode cL_law 1144 = .ok (.iaload, 1) := by decide +kernel
theorem dL_law_1145 : decode cL_law 1145 = .ok (.aload_n 0, 1) := by decide +kernel
theorem dL_law_1146 : decode cL_law 1146 = .ok (.iload_n 3, 1) := by decide +kernel
theorem dL_law_1147 : decode cL_law 1147 = .ok (.iconst 2, 1) := by decide +kernel
theorem dL_law_1148 : decode cL_law 1148 = .ok (.iadd, 1) := by decide +kernel
theorem dL_law_1149 : decode cL_law 1149 = .ok (.iaload, 1) := by decide +kernel
theorem dL_law_1150 : decode cL_law 1150 = .ok (.aload_n 0, 1) := by decide +kernel
theorem dL_law_1151 : decode cL_law 1151 = .ok (.iload_n 3, 1) := by decide +kernel
theorem dL_law_1152 : decode cL_law 1152 = .ok (.iconst 3, 1) := by decide +kernel
theorem dL_law_1153 : decode cL_law 1153 = .ok (.iadd, 1) := by decide +kernel
theorem dL_law_1154 : decode cL_law 1154 = .ok (.iaload, 1) := by decide +kernel
theorem dL_law_1155 : decode cL_law 1155 = .ok (.i2l, 1) := by decide +kernel
theorem dL_law_1156 : decode cL_law 1156 = .ok (.bipush 32, 2) := by decide +kernel
theorem dL_law_1158 : decode cL_law 1158 = .ok (.lshl, 1) := by decide +kernel
theorem dL_law_1159 : decode cL_law 1159 = .ok (.aload_n 0, 1) := by decide +kernel
theorem dL_law_1160 : decode cL_law 1160 = .ok (.iload_n 3, 1) := by decide +kernel
theorem dL_law_1161 : decode cL_law 1161 = .ok (.iconst 4, 1) := by decide +kernel
theorem dL_law_1162 : decode cL_law 1162 = .ok (.iadd, 1) := by decide +kernel
theorem dL_law_1163 : decode cL_law 1163 = .ok (.iaload, 1) := by decide +kernel
theorem dL_law_1164 : decode cL_law 1164 = .ok (.i2l, 1) := by decide +kernel
theorem dL_law_1165 : decode cL_law 1165 = .ok (.ldc2_w 141, 3) := by decide +kernel
theorem dL_law_1168 : decode cL_law 1168 = .ok (.land, 1) := by decide +kernel
theorem dL_law_1169 : decode cL_law 1169 = .ok (.lor, 1) := by decide +kernel
theorem dL_law_1170 : decode cL_law 1170 = .ok (.invokevirtual 147, 3) := by decide +kernel
theorem dL_law_1173 : decode cL_law 1173 = .ok (.lcmp, 1) := by decide +kernel
theorem dL_law_1174 : decode cL_law 1174 = .ok (.ifCond .eq 242, 3) := by decide +kernel
theorem dL_law_1177 : decode cL_law 1177 = .ok (.iconst 0, 1) := by decide +kernel
theorem dL_law_1178 : decode cL_law 1178 = .ok (.ireturn, 1) := by decide +kernel
theorem dL_law_1179 : decode cL_law 1179 = .ok (.aload_n 1, 1) := by decide +kernel
theorem dL_law_1180 : decode cL_law 1180 = .ok (.aload_n 0, 1) := by decide +kernel
theorem dL_law_1181 : decode cL_law 1181 = .ok (.iload_n 3, 1) := by decide +kernel
theorem dL_law_1182 : decode cL_law 1182 = .ok (.iconst 1, 1) := by decide +kernel
theorem dL_law_1183 : decode cL_law 1183 = .ok (.iadd, 1) := by decide +kernel
theorem dL_law_1184 : decode cL_law 1184 = .ok (.iaload, 1) := by decide +kernel
theorem dL_law_1185 : decode cL_law 1185 = .ok (.aload_n 0, 1) := by decide +kernel
theorem dL_law_1186 : decode cL_law 1186 = .ok (.iload_n 3, 1) := by decide +kernel
theorem dL_law_1187 : decode cL_law 1187 = .ok (.iconst 2, 1) := by decide +kernel
theorem dL_law_1188 : decode cL_law 1188 = .ok (.iadd, 1) := by decide +kernel
theorem dL_law_1189 : decode cL_law 1189 = .ok (.iaload, 1) := by decide +kernel
theorem dL_law_1190 : decode cL_law 1190 = .ok (.aload_n 0, 1) := by decide +kernel
theorem dL_law_1191 : decode cL_law 1191 = .ok (.iload_n 3, 1) := by decide +kernel
theorem dL_law_1192 : decode cL_law 1192 = .ok (.iconst 3, 1) := by decide +kernel
theorem dL_law_1193 : decode cL_law 1193 = .ok (.iadd, 1) := by decide +kernel
theorem dL_law_1194 : decode cL_law 1194 = .ok (.iaload, 1) := by decide +kernel
theorem dL_law_1195 : decode cL_law 1195 = .ok (.aload_n 0, 1) := by decide +kernel
theorem dL_law_1196 : decode cL_law 1196 = .ok (.iload_n 3, 1) := by decide +kernel
theorem dL_law_1197 : decode cL_law 1197 = .ok (.iconst 4, 1) := by decide +kernel
theorem dL_law_1198 : decode cL_law 1198 = .ok (.iadd, 1) := by decide +kernel
theorem dL_law_1199 : decode cL_law 1199 = .ok (.iaload, 1) := by decide +kernel
theorem dL_law_1200 : decode cL_law 1200 = .ok (.aload_n 0, 1) := by decide +kernel
theorem dL_law_1201 : decode cL_law 1201 = .ok (.iload_n 3, 1) := by decide +kernel
theorem dL_law_1202 : decode cL_law 1202 = .ok (.iconst 5, 1) := by decide +kernel
theorem dL_law_1203 : decode cL_law 1203 = .ok (.iadd, 1) := by decide +kernel
theorem dL_law_1204 : decode cL_law 1204 = .ok (.iaload, 1) := by decide +kernel
theorem dL_law_1205 : decode cL_law 1205 = .ok (.invokevirtual 148, 3) := by decide +kernel
theorem dL_law_1208 : decode cL_law 1208 = .ok (.aload_n 2, 1) := by decide +kernel
theorem dL_law_1209 : decode cL_law 1209 = .ok (.aload_n 0, 1) := by decide +kernel
theorem dL_law_1210 : decode cL_law 1210 = .ok (.iload_n 3, 1) := by decide +kernel
theorem dL_law_1211 : decode cL_law 1211 = .ok (.iconst 1, 1) := by decide +kernel
theorem dL_law_1212 : decode cL_law 1212 = .ok (.iadd, 1) := by decide +kernel
theorem dL_law_1213 : decode cL_law 1213 = .ok (.iaload, 1) := by decide +kernel
theorem dL_law_1214 : decode cL_law 1214 = .ok (.aload_n 0, 1) := by decide +kernel
theorem dL_law_1215 : decode cL_law 1215 = .ok (.iload_n 3, 1) := by decide +kernel
theorem dL_law_1216 : decode cL_law 1216 = .ok (.iconst 2, 1) := by decide +kernel
theorem dL_law_1217 : decode cL_law 1217 = .ok (.iadd, 1) := by decide +kernel
theorem dL_law_1218 : decode cL_law 1218 = .ok (.iaload, 1) := by decide +kernel
theorem dL_law_1219 : decode cL_law 1219 = .ok (.aload_n 0, 1) := by decide +kernel
theorem dL_law_1220 : decode cL_law 1220 = .ok (.iload_n 3, 1) := by decide +kernel
theorem dL_law_1221 : decode cL_law 1221 = .ok (.iconst 3, 1) := by decide +kernel
theorem dL_law_1222 : decode cL_law 1222 = .ok (.iadd, 1) := by decide +kernel
theorem dL_law_1223 : decode cL_law 1223 = .ok (.iaload, 1) := by decide +kernel
theorem dL_law_1224 : decode cL_law 1224 = .ok (.aload_n 0, 1) := by decide +kernel
theorem dL_law_1225 : decode cL_law 1225 = .ok (.iload_n 3, 1) := by decide +kernel
theorem dL_law_1226 : decode cL_law 1226 = .ok (.iconst 4, 1) := by decide +kernel
theorem dL_law_1227 : decode cL_law 1227 = .ok (.iadd, 1) := by decide +kernel
theorem dL_law_1228 : decode cL_law 1228 = .ok (.iaload, 1) := by decide +kernel
theorem dL_law_1229 : decode cL_law 1229 = .ok (.aload_n 0, 1) := by decide +kernel
theorem dL_law_1230 : decode cL_law 1230 = .ok (.iload_n 3, 1) := by decide +kernel
theorem dL_law_1231 : decode cL_law 1231 = .ok (.iconst 5, 1) := by decide +kernel
theorem dL_law_1232 : decode cL_law 1232 = .ok (.iadd, 1) := by decide +kernel
theorem dL_law_1233 : decode cL_law 1233 = .ok (.iaload, 1) := by decide +kernel
theorem dL_law_1234 : decode cL_law 1234 = .ok (.invokevirtual 152, 3) := by decide +kernel
theorem dL_law_1237 : decode cL_law 1237 = .ok (.if_icmp .eq 179, 3) := by decide +kernel
theorem dL_law_1240 : decode cL_law 1240 = .ok (.iconst 0, 1) := by decide +kernel
theorem dL_law_1241 : decode cL_law 1241 = .ok (.ireturn, 1) := by decide +kernel
theorem dL_law_1242 : decode cL_law 1242 = .ok (.aload_n 1, 1) := by decide +kernel
theorem dL_law_1243 : decode cL_law 1243 = .ok (.aload_n 0, 1) := by decide +kernel
theorem dL_law_1244 : decode cL_law 1244 = .ok (.iload_n 3, 1) := by decide +kernel
theorem dL_law_1245 : decode cL_law 1245 = .ok (.iconst 1, 1) := by decide +kernel
theorem dL_law_1246 : decode cL_law 1246 = .ok (.iadd, 1) := by decide +kernel
theorem dL_law_1247 : decode cL_law 1247 = .ok (.iaload, 1) := by decide +kernel
theorem dL_law_1248 : decode cL_law 1248 = .ok (.invokevirtual 153, 3) := by decide +kernel
theorem dL_law_1251 : decode cL_law 1251 = .ok (.aload_n 2, 1) := by decide +kernel
theorem dL_law_1252 : decode cL_law 1252 = .ok (.aload_n 0, 1) := by decide +kernel
theorem dL_law_1253 : decode cL_law 1253 = .ok (.iload_n 3, 1) := by decide +kernel
theorem dL_law_1254 : decode cL_law 1254 = .ok (.iconst 1, 1) := by decide +kernel
theorem dL_law_1255 : decode cL_law 1255 = .ok (.iadd, 1) := by decide +kernel
theorem dL_law_1256 : decode cL_law 1256 = .ok (.iaload, 1) := by decide +kernel
theorem dL_law_1257 : decode cL_law 1257 = .ok (.invokevirtual 156, 3) := by decide +kernel
theorem dL_law_1260 : decode cL_law 1260 = .ok (.if_icmp .eq 156, 3) := by decide +kernel
theorem dL_law_1263 : decode cL_law 1263 = .ok (.iconst 0, 1) := by decide +kernel
theorem dL_law_1264 : decode cL_law 1264 = .ok (.ireturn, 1) := by decide +kernel
theorem dL_law_1265 : decode cL_law 1265 = .ok (.aload_n 1, 1) := by decide +kernel
theorem dL_law_1266 : decode cL_law 1266 = .ok (.aload_n 0, 1) := by decide +kernel
theorem dL_law_1267 : decode cL_law 1267 = .ok (.iload_n 3, 1) := by decide +kernel
theorem dL_law_1268 : decode cL_law 1268 = .ok (.iconst 1, 1) := by decide +kernel
theorem dL_law_1269 : decode cL_law 1269 = .ok (.iadd, 1) := by decide +kernel
theorem dL_law_1270 : decode cL_law 1270 = .ok (.iaload, 1) := by decide +kernel
theorem dL_law_1271 : decode cL_law 1271 = .ok (.aload_n 0, 1) := by decide +kernel
theorem dL_law_1272 : decode cL_law 1272 = .ok (.iload_n 3, 1) := by decide +kernel
theorem dL_law_1273 : decode cL_law 1273 = .ok (.iconst 2, 1) := by decide +kernel
theorem dL_law_1274 : decode cL_law 1274 = .ok (.iadd, 1) := by decide +kernel
theorem dL_law_1275 : decode cL_law 1275 = .ok (.iaload, 1) := by decide +kernel
theorem dL_law_1276 : decode cL_law 1276 = .ok (.invokevirtual 157, 3) := by decide +kernel
theorem dL_law_1279 : decode cL_law 1279 = .ok (.aload_n 2, 1) := by decide +kernel
theorem dL_law_1280 : decode cL_law 1280 = .ok (.aload_n 0, 1) := by decide +kernel
theorem dL_law_1281 : decode cL_law 1281 = .ok (.iload_n 3, 1) := by decide +kernel
theorem dL_law_1282 : decode cL_law 1282 = .ok (.iconst 1, 1) := by decide +kernel
theorem dL_law_1283 : decode cL_law 1283 = .ok (.iadd, 1) := by decide +kernel
theorem dL_law_1284 : decode cL_law 1284 = .ok (.iaload, 1) := by decide +kernel
theorem dL_law_1285 : decode cL_law 1285 = .ok (.aload_n 0, 1) := by decide +kernel
theorem dL_law_1286 : decode cL_law 1286 = .ok (.iload_n 3, 1) := by decide +kernel
theorem dL_law_1287 : decode cL_law 1287 = .ok (.iconst 2, 1) := by decide +kernel
theorem dL_law_1288 : decode cL_law 1288 = .ok (.iadd, 1) := by decide +kernel
theorem dL_law_1289 : decode cL_law 1289 = .ok (.iaload, 1) := by decide +kernel
theorem dL_law_1290 : decode cL_law 1290 = .ok (.invokevirtual 160, 3) := by decide +kernel
theorem dL_law_1293 : decode cL_law 1293 = .ok (.if_icmp .eq 123, 3) := by decide +kernel
theorem dL_law_1296 : decode cL_law 1296 = .ok (.iconst 0, 1) := by decide +kernel
theorem dL_law_1297 : decode cL_law 1297 = .ok (.ireturn, 1) := by decide +kernel
theorem dL_law_1298 : decode cL_law 1298 = .ok (.aload_n 1, 1) := by decide +kernel
theorem dL_law_1299 : decode cL_law 1299 = .ok (.aload_n 0, 1) := by decide +kernel
theorem dL_law_1300 : decode cL_law 1300 = .ok (.iload_n 3, 1) := by decide +kernel
theorem dL_law_1301 : decode cL_law 1301 = .ok (.iconst 1, 1) := by decide +kernel
theorem dL_law_1302 : decode cL_law 1302 = .ok (.iadd, 1) := by decide +kernel
theorem dL_law_1303 : decode cL_law 1303 = .ok (.iaload, 1) := by decide +kernel
theorem dL_law_1304 : decode cL_law 1304 = .ok (.aload_n 0, 1) := by decide +kernel
theorem dL_law_1305 : decode cL_law 1305 = .ok (.iload_n 3, 1) := by decide +kernel
theorem dL_law_1306 : decode cL_law 1306 = .ok (.iconst 2, 1) := by decide +kernel
theorem dL_law_1307 : decode cL_law 1307 = .ok (.iadd, 1) := by decide +kernel
theorem dL_law_1308 : decode cL_law 1308 = .ok (.iaload, 1) := by decide +kernel
theorem dL_law_1309 : decode cL_law 1309 = .ok (.invokevirtual 161, 3) := by decide +kernel
theorem dL_law_1312 : decode cL_law 1312 = .ok (.aload_n 2, 1) := by decide +kernel
theorem dL_law_1313 : decode cL_law 1313 = .ok (.aload_n 0, 1) := by decide +kernel
theorem dL_law_1314 : decode cL_law 1314 = .ok (.iload_n 3, 1) := by decide +kernel
theorem dL_law_1315 : decode cL_law 1315 = .ok (.iconst 1, 1) := by decide +kernel
theorem dL_law_1316 : decode cL_law 1316 = .ok (.iadd, 1) := by decide +kernel
theorem dL_law_1317 : decode cL_law 1317 = .ok (.iaload, 1) := by decide +kernel
theorem dL_law_1318 : decode cL_law 1318 = .ok (.aload_n 0, 1) := by decide +kernel
theorem dL_law_1319 : decode cL_law 1319 = .ok (.iload_n 3, 1) := by decide +kernel
theorem dL_law_1320 : decode cL_law 1320 = .ok (.iconst 2, 1) := by decide +kernel
theorem dL_law_1321 : decode cL_law 1321 = .ok (.iadd, 1) := by decide +kernel
theorem dL_law_1322 : decode cL_law 1322 = .ok (.iaload, 1) := by decide +kernel
theorem dL_law_1323 : decode cL_law 1323 = .ok (.invokevirtual 164, 3) := by decide +kernel
theorem dL_law_1326 : decode cL_law 1326 = .ok (.if_icmp .eq 90, 3) := by decide +kernel
theorem dL_law_1329 : decode cL_law 1329 = .ok (.iconst 0, 1) := by decide +kernel
theorem dL_law_1330 : decode cL_law 1330 = .ok (.ireturn, 1) := by decide +kernel
theorem dL_law_1331 : decode cL_law 1331 = .ok (.aload_n 1, 1) := by decide +kernel
theorem dL_law_1332 : decode cL_law 1332 = .ok (.invokevirtual 165, 3) := by decide +kernel
theorem dL_law_1335 : decode cL_law 1335 = .ok (.aload_n 2, 1) := by decide +kernel
theorem dL_law_1336 : decode cL_law 1336 = .ok (.invokevirtual 168, 3) := by decide +kernel
theorem dL_law_1339 : decode cL_law 1339 = .ok (.if_icmp .eq 77, 3) := by decide +kernel
theorem dL_law_1342 : decode cL_law 1342 = .ok (.iconst 0, 1) := by decide +kernel
theorem dL_law_1343 : decode cL_law 1343 = .ok (.ireturn, 1) := by decide +kernel
theorem dL_law_1344 : decode cL_law 1344 = .ok (.aload_n 1, 1) := by decide +kernel
theorem dL_law_1345 : decode cL_law 1345 = .ok (.invokevirtual 169, 3) := by decide +kernel
theorem dL_law_1348 : decode cL_law 1348 = .ok (.aload_n 2, 1) := by decide +kernel
theorem dL_law_1349 : decode cL_law 1349 = .ok (.invokevirtual 172, 3) := by decide +kernel
theorem dL_law_1352 : decode cL_law 1352 = .ok (.if_icmp .eq 64, 3) := by decide +kernel
theorem dL_law_1355 : decode cL_law 1355 = .ok (.iconst 0, 1) := by decide +kernel
theorem dL_law_1356 : decode cL_law 1356 = .ok (.ireturn, 1) := by decide +kernel
theorem dL_law_1357 : decode cL_law 1357 = .ok (.aload_n 1, 1) := by decide +kernel
theorem dL_law_1358 : decode cL_law 1358 = .ok (.invokevirtual 173, 3) := by decide +kernel
theorem dL_law_1361 : decode cL_law 1361 = .ok (.aload_n 2, 1) := by decide +kernel
theorem dL_law_1362 : decode cL_law 1362 = .ok (.invokevirtual 176, 3) := by decide +kernel
theorem dL_law_1365 : decode cL_law 1365 = .ok (.if_icmp .eq 51, 3) := by decide +kernel
theorem dL_law_1368 : decode cL_law 1368 = .ok (.iconst 0, 1) := by decide +kernel
theorem dL_law_1369 : decode cL_law 1369 = .ok (.ireturn, 1) := by decide +kernel
theorem dL_law_1370 : decode cL_law 1370 = .ok (.aload_n 1, 1) := by decide +kernel
theorem dL_law_1371 : decode cL_law 1371 = .ok (.aload_n 0, 1) := by decide +kernel
theorem dL_law_1372 : decode cL_law 1372 = .ok (.iload_n 3, 1) := by decide +kernel
theorem dL_law_1373 : decode cL_law 1373 = .ok (.iconst 1, 1) := by decide +kernel
theorem dL_law_1374 : decode cL_law 1374 = .ok (.iadd, 1) := by decide +kernel
theorem dL_law_1375 : decode cL_law 1375 = .ok (.iaload, 1) := by decide +kernel
theorem dL_law_1376 : decode cL_law 1376 = .ok (.invokevirtual 177, 3) := by decide +kernel
theorem dL_law_1379 : decode cL_law 1379 = .ok (.aload_n 2, 1) := by decide +kernel
theorem dL_law_1380 : decode cL_law 1380 = .ok (.aload_n 0, 1) := by decide +kernel
theorem dL_law_1381 : decode cL_law 1381 = .ok (.iload_n 3, 1) := by decide +kernel
theorem dL_law_1382 : decode cL_law 1382 = .ok (.iconst 1, 1) := by decide +kernel
theorem dL_law_1383 : decode cL_law 1383 = .ok (.iadd, 1) := by decide +kernel
theorem dL_law_1384 : decode cL_law 1384 = .ok (.iaload, 1) := by decide +kernel
theorem dL_law_1385 : decode cL_law 1385 = .ok (.invokevirtual 180, 3) := by decide +kernel
theorem dL_law_1388 : decode cL_law 1388 = .ok (.if_icmp .eq 28, 3) := by decide +kernel
theorem dL_law_1391 : decode cL_law 1391 = .ok (.iconst 0, 1) := by decide +kernel
theorem dL_law_1392 : decode cL_law 1392 = .ok (.ireturn, 1) := by decide +kernel
theorem dL_law_1393 : decode cL_law 1393 = .ok (.aload_n 1, 1) := by decide +kernel
theorem dL_law_1394 : decode cL_law 1394 = .ok (.aload_n 0, 1) := by decide +kernel
theorem dL_law_1395 : decode cL_law 1395 = .ok (.iload_n 3, 1) := by decide +kernel
theorem dL_law_1396 : decode cL_law 1396 = .ok (.iconst 1, 1) := by decide +kernel
theorem dL_law_1397 : decode cL_law 1397 = .ok (.iadd, 1) := by decide +kernel
theorem dL_law_1398 : decode cL_law 1398 = .ok (.iaload, 1) := by decide +kernel
theorem dL_law_1399 : decode cL_law 1399 = .ok (.invokevirtual 181, 3) := by decide +kernel
theorem dL_law_1402 : decode cL_law 1402 = .ok (.aload_n 2, 1) := by decide +kernel
theorem dL_law_1403 : decode cL_law 1403 = .ok (.aload_n 0, 1) := by decide +kernel
theorem dL_law_1404 : decode cL_law 1404 = .ok (.iload_n 3, 1) := by decide +kernel
theorem dL_law_1405 : decode cL_law 1405 = .ok (.iconst 1, 1) := by decide +kernel
theorem dL_law_1406 : decode cL_law 1406 = .ok (.iadd, 1) := by decide +kernel
theorem dL_law_1407 : decode cL_law 1407 = .ok (.iaload, 1) := by decide +kernel
theorem dL_law_1408 : decode cL_law 1408 = .ok (.invokevirtual 184, 3) := by decide +kernel
theorem dL_law_1411 : decode cL_law 1411 = .ok (.if_icmp .eq 5, 3) := by decide +kernel
theorem dL_law_1414 : decode cL_law 1414 = .ok (.iconst 0, 1) := by decide +kernel
theorem dL_law_1415 : decode cL_law 1415 = .ok (.ireturn, 1) := by decide +kernel
theorem dL_law_1416 : decode cL_law 1416 = .ok (.iinc 3 6, 3) := by decide +kernel
theorem dL_law_1419 : decode cL_law 1419 = .ok (.goto (-1401), 3) := by decide +kernel
theorem dL_law_1422 : decode cL_law 1422 = .ok (.iconst 1, 1) := by decide +kernel
theorem dL_law_1423 : decode cL_law 1423 = .ok (.ireturn, 1) := by decide +kernel
end
section
/-! THE WORLD: one memory of whole numbers, cells by (segment, number): 0-3 the four cars, 4 the rest of the class, 5 the reference -/
def zi (z : Int) : Int32 := Int32.ofInt z
def zl (z : Int) : Int64 := Int64.ofInt z
abbrev zMem : Type := Nat → Int → Int → Int
def zup (μ : zMem) (g : Nat) (k i v : Int) : zMem := fun g' k' i' => if g' = g ∧ k' = k ∧ i' = i then v else μ g' k' i'
/-- the shape of a cell: an object of a class with its fields (none: a number; some: the cell it names), a row of ints, of longs, of cells that follow each other -/
abbrev zShp : Type := (Nat × List (Option (Nat × Int))) ⊕ (Nat ⊕ (Nat ⊕ (Nat × Nat × Nat × Int)))
def zshCar (g : Nat) (k : Int) : Option zShp :=
  if k = 0 then some (.inl (0, [some (g, 1), some (g, 2), none, none, none, none]))
  else if k = 1 then some (.inr (.inr (.inr (0, 3, g, 3))))
  else if k = 2 then some (.inr (.inr (.inr (1, 6, g, 6))))
  else if 3 ≤ k ∧ k < 6 then some (.inl (3, [none, none, none, none, none]))
  else if 6 ≤ k ∧ k < 12 then some (.inl (2, [none, none, none, none, none, none, none]))
  else none
def zshCls (k : Int) : Option zShp :=
  if k = 0 then some (.inl (7, [some (0, 0), some (1, 0), some (2, 0), some (4, 1), some (4, 4), some (4, 8), some (4, 17), none]))
  else if k = 1 then some (.inl (1, [some (4, 2), none]))
  else if k = 2 then some (.inl (5, [some (4, 3), none, none, none, none, none]))
  else if k = 3 then some (.inr (.inl 120))
  else if k = 4 then some (.inl (6, [some (3, 0), some (4, 5), some (4, 6), some (4, 7), none]))
  else if 5 ≤ k ∧ k < 8 then some (.inr (.inl 3))
  else if k = 8 then some (.inr (.inr (.inr (2, 4, 4, 9))))
  else if 9 ≤ k ∧ k < 13 then some (.inl (4, [some (4, k + 4), none, none]))
  else if 13 ≤ k ∧ k < 17 then some (.inr (.inr (.inl 40)))
  else if k = 17 then some (.inr (.inl 7))
  else none
def zshRef (k : Int) : Option zShp :=
  if k = 0 then some (.inl (8, [some (5, 1), some (5, 2), some (5, 3), some (5, 4), some (5, 5), none, some (5, 6), some (5, 7), none, some (5, 8), none, none, none, none, none, some (5, 9), some (5, 10), some (5, 11), some (5, 12)]))
  else if 1 ≤ k ∧ k < 5 then some (.inr (.inl 55))
  else if k = 5 then some (.inr (.inl 7))
  else if 6 ≤ k ∧ k < 8 then some (.inr (.inl 3))
  else if k = 8 then some (.inr (.inl 120))
  else if 9 ≤ k ∧ k < 11 then some (.inr (.inl 4))
  else if k = 11 then some (.inr (.inr (.inl 160)))
  else if k = 12 then some (.inr (.inr (.inl 40)))
  else none
def zsh (g : Nat) (k : Int) : Option zShp := if g < 4 then zshCar g k else if g = 4 then zshCls k else if g = 5 then zshRef k else none
def zseg (g n : Nat) : List (Nat × Int) := (List.range n).map (fun (j : Nat) => (g, (j : Int)))
/-- all cells -/
def zcL : List (Nat × Int) := zseg 0 12 ++ (zseg 1 12 ++ (zseg 2 12 ++ (zseg 3 12 ++ (zseg 4 18 ++ zseg 5 13))))
theorem zseg_mem {g n : Nat} {k : Int} (h0 : 0 ≤ k) (h1 : k < n) : (g, k) ∈ zseg g n := by
  refine List.mem_map.mpr ⟨k.toNat, List.mem_range.mpr (by omega), ?_⟩
  rw [Int.toNat_of_nonneg h0]
theorem zcL_mem {g : Nat} {k : Int} {x : zShp} (h : zsh g k = some x) : (g, k) ∈ zcL := by
  unfold zsh at h
  split at h
  · rename_i hg
    have hk : 0 ≤ k ∧ k < 12 := by
      unfold zshCar at h
      repeat (first | (split at h; · omega) | cases h)
    unfold zcL
    have h4 : g = 0 ∨ g = 1 ∨ g = 2 ∨ g = 3 := by omega
    rcases h4 with rfl | rfl | rfl | rfl
    · exact List.mem_append_left _ (zseg_mem hk.1 hk.2)
    · exact List.mem_append_right _ (List.mem_append_left _ (zseg_mem hk.1 hk.2))
    · exact List.mem_append_right _ (List.mem_append_right _ (List.mem_append_left _ (zseg_mem hk.1 hk.2)))
    · exact List.mem_append_right _ (List.mem_append_right _ (List.mem_append_right _ (List.mem_append_left _ (zseg_mem hk.1 hk.2))))
  · split at h
    · rename_i hg
      subst hg
      have hk : 0 ≤ k ∧ k < 18 := by
        unfold zshCls at h
        repeat (first | (split at h; · omega) | cases h)
      exact List.mem_append_right _ (List.mem_append_right _ (List.mem_append_right _ (List.mem_append_right _ (List.mem_append_left _ (zseg_mem hk.1 hk.2)))))
    · split at h
      · rename_i hg
        subst hg
        have hk : 0 ≤ k ∧ k < 13 := by
          unfold zshRef at h
          repeat (first | (split at h; · omega) | cases h)
        exact List.mem_append_right _ (List.mem_append_right _ (List.mem_append_right _ (List.mem_append_right _ (List.mem_append_right _ (zseg_mem hk.1 hk.2)))))
      · cases h
theorem zcL_nd : zcL.Nodup := by decide +kernel
theorem zcL_some : ∀ q ∈ zcL, (zsh q.1 q.2).isSome = true := by decide +kernel
/-- the context of a world: the classes' numbers and slots, the array classes, the cells' addresses, the constants' addresses -/
abbrev zC : Type := va_G × (Nat → ClassId) × (Nat → Int → Nat) × Nat × (Nat → Nat) × (Nat → Nat)
abbrev zD (Γ : zC) : va_G := Γ.1
abbrev zY (Γ : zC) : Nat → ClassId := Γ.2.1
abbrev za (Γ : zC) : Nat → Int → Nat := Γ.2.2.1
abbrev zt (Γ : zC) : Nat := Γ.2.2.2.1
abbrev zaK (Γ : zC) : Nat → Nat := Γ.2.2.2.2.1
abbrev zaV (Γ : zC) : Nat → Nat := Γ.2.2.2.2.2
def zobj (Γ : zC) (f : Int → Int) : Int → List (Option (Nat × Int)) → List Value
  | _, [] => []
  | i, none :: r => .int (zi (f i)) :: zobj Γ f (i + 1) r
  | i, some q :: r => .ref (za Γ q.1 q.2) :: zobj Γ f (i + 1) r
def zcell (Γ : zC) (f : Int → Int) (x : zShp) : va_E := match x with
  | .inl q => .inr (q.1, zobj Γ f 0 q.2)
  | .inr (.inl n) => .inl (zY Γ 0, n, .inl (fun j : Nat => zi (f (j : Int))))
  | .inr (.inr (.inl n)) => .inl (zY Γ 1, n, .inr (.inl (fun j : Nat => zl (f (j : Int)))))
  | .inr (.inr (.inr q)) => .inl (zY Γ (2 + q.1), q.2.1, .inr (.inr (.inr (.inr (fun j : Nat => some (za Γ q.2.2.1 (q.2.2.2 + (j : Int))))))))
def zent (Γ : zC) (μ : zMem) (q : Nat × Int) : Nat × va_E := (za Γ q.1 q.2, zcell Γ (μ q.1 q.2) ((zsh q.1 q.2).getD (.inr (.inl 0))))
def zws (Γ : zC) (μ : zMem) : va_W := zcL.map (zent Γ μ)
theorem zws_at {Γ : zC} {g : Nat} {k : Int} {x : zShp} (h : zsh g k = some x) : ∃ q0 : Nat, zcL[q0]? = some (g, k) ∧ ∀ μ, (zws Γ μ)[q0]? = some (za Γ g k, zcell Γ (μ g k) x) := by
  obtain ⟨q0, hq⟩ := List.getElem?_of_mem (zcL_mem h)
  refine ⟨q0, hq, fun μ => ?_⟩
  simp [zws, hq, zent, h]
theorem zws_set {Γ : zC} {μ μ' : zMem} {g : Nat} {k : Int} {x : zShp} {q0 : Nat} (hs : zsh g k = some x) (h : zcL[q0]? = some (g, k)) (hm : ∀ g' k', (g' = g ∧ k' = k) ∨ μ' g' k' = μ g' k') :
    (zws Γ μ).set q0 (za Γ g k, zcell Γ (μ' g k) x) = zws Γ μ' := by
  refine List.ext_getElem? fun j => ?_
  rw [List.getElem?_set]
  by_cases hj : q0 = j
  · subst hj
    have hl : q0 < zcL.length := (List.getElem?_eq_some_iff.mp h).1
    simp only [if_true, zws, List.length_map, hl, List.getElem?_map, h, Option.map_some, zent, hs, Option.getD_some]
  · simp only [hj, if_false, zws, List.getElem?_map]
    cases hc : zcL[j]? with
    | none => rfl
    | some q =>
      have hne : ¬ (q.1 = g ∧ q.2 = k) := by
        intro he
        have hqe : q = (g, k) := by
          obtain ⟨a, b⟩ := q
          simp only [Prod.mk.injEq]
          exact he
        subst hqe
        exact hj ((List.getElem?_inj (List.getElem?_eq_some_iff.mp h).1 zcL_nd).mp (h.trans hc.symm))
      have := (hm q.1 q.2).resolve_left hne
      simp [zent, this]
def ztys (Γ : zC) : List (ClassId × FieldType) := [(zY Γ 0, .int), (zY Γ 1, .long), (zY Γ 2, .object RX4), (zY Γ 3, .object RX2), (zY Γ 4, .object RX5)]
def zAA (Γ : zC) : Nat → Prop := fun q => ∃ x ∈ zcL, q = za Γ x.1 x.2
def zApart (Γ : zC) : Prop := ∀ x ∈ zcL, ∀ y ∈ zcL, za Γ x.1 x.2 = za Γ y.1 y.2 → x = y
theorem zws_D {Γ : zC} {μ : zMem} {A : Nat → Prop} (h : zApart Γ) (hA : ∀ q, zAA Γ q → A q) : va_D A (zws Γ μ) := by
  refine ⟨fun i j p q hi hj he => ?_, fun k q hk => ?_⟩
  · simp only [zws, List.getElem?_map, Option.map_eq_some_iff] at hi hj
    obtain ⟨x, hx, rfl⟩ := hi
    obtain ⟨y, hy, rfl⟩ := hj
    have hxy := h x (List.mem_of_getElem? hx) y (List.mem_of_getElem? hy) he
    subst hxy
    exact (List.getElem?_inj (List.getElem?_eq_some_iff.mp hx).1 zcL_nd).mp (hx.trans hy.symm)
  · simp only [zws, List.getElem?_map, Option.map_eq_some_iff] at hk
    obtain ⟨x, hx, rfl⟩ := hk
    exact hA _ ⟨x, List.mem_of_getElem? hx, rfl⟩
theorem zobj_get {Γ : zC} {f : Int → Int} {sp : List (Option (Nat × Int))} : ∀ {i : Int} {n : Nat}, (zobj Γ f i sp)[n]? = (sp[n]?).map (fun o => match o with | none => Value.int (zi (f (i + n))) | some q => .ref (za Γ q.1 q.2)) := by
  induction sp with
  | nil => intro i n; simp [zobj]
  | cons o r ih =>
    intro i n
    cases n with
    | zero => cases o <;> simp [zobj]
    | succ n =>
      have e : i + 1 + (n : Int) = i + ((n + 1 : Nat) : Int) := by omega
      cases o <;> simp only [zobj, List.getElem?_cons_succ, ih, e]
theorem zobj_len {Γ : zC} {f : Int → Int} {sp : List (Option (Nat × Int))} : ∀ {i : Int}, (zobj Γ f i sp).length = sp.length := by
  induction sp with
  | nil => intro i; rfl
  | cons o r ih => intro i; cases o <;> simp [zobj, ih]
theorem zobj_set {Γ : zC} {f f' : Int → Int} {sp : List (Option (Nat × Int))} {n : Nat} {v : Int} (hn : sp[n]? = some none) (hf : ∀ j : Int, f' j = if j = n then v else f j) : (zobj Γ f 0 sp).set n (.int (zi v)) = zobj Γ f' 0 sp := by
  refine List.ext_getElem? fun j => ?_
  rw [List.getElem?_set, zobj_get, zobj_get]
  by_cases hj : n = j
  · subst hj
    have hl : n < sp.length := (List.getElem?_eq_some_iff.mp hn).1
    simp only [if_true, zobj_len, hl, hn, Option.map_some, hf, Int.zero_add]
  · have e : ∀ x : Int, x = (0 : Int) + (j : Int) → f' x = f x := fun x hx => by rw [hf, if_neg (by omega)]
    simp only [hj, if_false]
    congr 1
    funext o
    cases o with
    | none => simp only [e _ rfl]
    | some q => rfl
end
section
/-! THE JUDGEMENTS: zRet (a call of a method answers so, and the memory is so then), zV (the machine, now here, comes to Q) -/
def tblG : List Cond := lw_tbl.filter goodWord
theorem tg {w : Cond} (h : w ∈ lw_tbl) (g : goodWord w = true) : w ∈ tblG := List.mem_filter.mpr ⟨h, g⟩
theorem tgi {w : Cond} (i : Nat) (h : lw_tbl[i]? = some w) (g : goodWord w = true) : w ∈ tblG := tg (List.mem_of_getElem? h) g
def zabove (j : Nat) : Int := [-1, 0, 0, 0, 1, 2].getD j 0
def zstr : List (Nat × String) := [(135, "child"), (125, "archer"), (127, "big"), (129, "baby"), (131, "howler"), (133, "self"), (54, "seat"), (63, "rain"), (83, "size"), (89, "mood"), (93, "coat"), (109, "twists"), (113, "crumbs"), (117, "turned")]
def zlen : List Nat := [5, 6, 3, 4, 6, 4, 4, 4, 4, 4, 4, 6, 6, 6]
def zbyt : List (List Int32) := [[99, 104, 105, 108, 100], [97, 114, 99, 104, 101, 114], [98, 105, 103], [98, 97, 98, 121], [104, 111, 119, 108, 101, 114], [115, 101, 108, 102], [115, 101, 97, 116], [114, 97, 105, 110], [115, 105, 122, 101], [109, 111, 111, 100], [99, 111, 97, 116], [116, 119, 105, 115, 116, 115], [99, 114, 117, 109, 98, 115], [116, 117, 114, 110, 101, 100]]
def znest : List (String × Nat × MethodName × String) := [("SeatStraps$Car", 125, ⟨"SeatStraps", "isSeat", "(I)Z"⟩, "SeatStraps"), ("SeatStraps$CarText", 46, ⟨"SeatStraps", "isKind", "(I)Z"⟩, "SeatStraps"), ("SeatStraps$CarText", 97, ⟨"SeatStraps", "isSeat", "(I)Z"⟩, "SeatStraps"), ("SeatStraps$Kinds", 9, ⟨"SeatStraps", "isKind", "(I)Z"⟩, "SeatStraps")]
/-- what nobody writes: the table of kinds, the strings, the links to private members of a nest mate -/
def zEv (Γ : zC) (A : Nat → Prop) (U : State) (H : Heap) : Prop :=
  va_Z "SeatStraps$Kinds" "ABOVE" "[I" (.ref (zt Γ)) A U H ∧ va_T .int (zt Γ) 6 (fun j => .int (zi (zabove j))) A U H ∧ va_Z "java/lang/String" "COMPACT_STRINGS" "Z" (.int 1) A U H ∧
  va_Zq "jdk/internal/util/Preconditions" "SIOOBE_FORMATTER" "Ljava/util/function/BiFunction;" A U H ∧ vk_S 14 zlen zbyt (zaK Γ) (zaV Γ) A U H ∧
  (∀ i : Nat, i < 14 → vk_R RX1 (zstr.getD i (0, "")).1 (zstr.getD i (0, "")).2 (zaK Γ i) U) ∧ (∀ w ∈ znest, va_Nw (.methodLinkNest w.1 w.2.1 w.2.2.1 w.2.2.2) U)
theorem va_Zq.kept9 {C n d : String} {A : Nat → Prop} {U : State} {H H1 : Heap} (h : va_Zq C n d A U H) (hq : ∀ a : Nat, a < H.size → ¬ A a → H1[a]? = H[a]?) : va_Zq C n d A U H1 := by
  rcases h with h | ⟨t, h⟩
  · exact Or.inl (h.kept hq)
  · exact Or.inr ⟨t, h.kept hq⟩
theorem va_Zq.moved9 {C n d : String} {A : Nat → Prop} {u U : State} {H : Heap} (hvm : u.vm.Alike U.vm) (h : va_Zq C n d A u H) : va_Zq C n d A U H := by
  rcases h with h | ⟨t, h⟩
  · exact Or.inl (h.moved hvm)
  · exact Or.inr ⟨t, h.moved hvm⟩
theorem va_Zq.narrow9 {C n d : String} {A B : Nat → Prop} {U : State} {H : Heap} (h : va_Zq C n d A U H) (hAB : ∀ q, B q → A q) : va_Zq C n d B U H := by
  rcases h with h | ⟨t, h⟩
  · exact Or.inl (h.narrow hAB)
  · exact Or.inr ⟨t, h.narrow hAB⟩
theorem zEv.kept {Γ : zC} {A : Nat → Prop} {U : State} {H H1 : Heap} (h : zEv Γ A U H) (hq : ∀ a : Nat, a < H.size → ¬ A a → H1[a]? = H[a]?) : zEv Γ A U H1 := by
  obtain ⟨h1, h2, h3, h4, h5, h6, h7⟩ := h
  exact ⟨h1.kept hq, h2.kept hq, h3.kept hq, h4.kept9 hq, h5.kept hq, h6, h7⟩
theorem zEv.narrow {Γ : zC} {A B : Nat → Prop} {U : State} {H : Heap} (h : zEv Γ A U H) (hAB : ∀ q, B q → A q) : zEv Γ B U H := by
  obtain ⟨h1, h2, h3, h4, h5, h6, h7⟩ := h
  exact ⟨h1.narrow hAB, h2.narrow hAB, h3.narrow hAB, h4.narrow9 hAB, h5.narrow hAB, h6, h7⟩
theorem zEv.warm {Γ : zC} {A : Nat → Prop} {s U : State} {H : Heap} (hW : s.WarmedH U.vm) (h : zEv Γ A s H) : zEv Γ A U H := by
  obtain ⟨h1, h2, h3, h4, h5, h6, h7⟩ := h
  exact ⟨h1.moved hW.alike, h2.moved hW.alike, h3.moved hW.alike, h4.moved9 hW.alike, h5.moved hW.alike, fun i hi => (h6 i hi).warm hW, fun w hw => va_Nw.warmM hW (h7 w hw)⟩
theorem zEv.same {Γ : zC} {A : Nat → Prop} {u U : State} {H : Heap} (hv : U.vm = u.vm) (h : zEv Γ A u H) : zEv Γ A U H := by
  obtain ⟨h1, h2, h3, h4, h5, h6, h7⟩ := h
  have ha : u.vm.Alike U.vm := by rw [hv]; exact Vm.Alike.refl _
  exact ⟨h1.moved ha, h2.moved ha, h3.moved ha, h4.moved9 ha, h5.moved ha, fun i hi => (h6 i hi).same hv, fun w hw => va_Nw.same rfl hv.symm (h7 w hw)⟩
/-- a world at a method's start -/
def zWd (Γ : zC) (μ : zMem) (U : State) : Prop := zApart Γ ∧ va_P (zD Γ) vwCl (zws Γ μ) U.heap ∧ va_K (zD Γ) vwCl (ztys Γ) U ∧ zEv Γ (zAA Γ) U U.heap
/-- a method: its name, code, locals, answer -/
abbrev zM : Type := MethodName × ByteArray × Nat × Option FieldType
def zcode (y : zM) : Cond := .code y.1 y.2.1 y.2.2.1 y.2.2.2
def zRm (d : Nat) : Room := { frames := d, cells := 0, slots := 0, locals := 36 * d }
def zQc (Γ : zC) (r : Option Value) (μ' : zMem) : Array Value → State → Outcome → State → Prop := fun _ st o t => o = .returned r ∧ va_P (zD Γ) vwCl (zws Γ μ') t.heap ∧ va_F (zAA Γ) st t
def zRet (Γ : zC) (l : Launch) (d : Nat) (y : zM) (av : List Value) (μ : zMem) (r : Option Value) (μ' : zMem) : Prop :=
  Met l y.1 (zcode y :: tblG) (zRm d) (va_Pc av (zWd Γ μ)) (zQc Γ r μ') 0 0 (zAA Γ)
theorem zblind {Γ : zC} {av : List Value} {μ : zMem} : FrameBlind (va_Pc av (zWd Γ μ)) := by
  intro a U g mk q
  obtain ⟨q0, q1, qP, qK, qE⟩ := q
  exact ⟨q0, q1, qP, va_K.moved (u := U) (U := U.calling g mk a) (Vm.Alike.refl U.vm) qK, zEv.same (u := U) (U := U.calling g mk a) rfl qE⟩
/-- the fixed things of a walk -/
def zCx (Γ : zC) (A : Nat → Prop) (p : Program) (s : State) (m : MethodId) (args : Array Value) (c : Code) (own : String) (cc : ByteArray) (nL : Nat) : Prop :=
  p.tables.exec = Jvm.exec ∧ c.code = cc ∧ c.maxLocals = nL ∧ s.vm.findClass own = some m.cls ∧ (∀ w ∈ tblG, w.before args s = true) ∧ va_K (zD Γ) vwCl (ztys Γ) s ∧ zApart Γ ∧ zEv Γ A s s.heap ∧ (∀ q, zAA Γ q → A q)
/-- the locals: a list by places; null: nothing is said -/
def zlv (ls : Array Slot) (n : Nat) (lv : List Value) : Prop := ls.size = n ∧ lv_wf ls ∧ ∀ (i : Nat) (v : Value), lv[i]? = some v → v = .null ∨ ls[i]? = some (.val v)
def zV (Γ : zC) (A : Nat → Prop) (p : Program) (l : Launch) (e : Env) (R : Room) (s : State) (m : MethodId) (args : Array Value) (below : List Frame) (meth : Method) (c : Code) (cells slots : Nat) (Q : State → Prop) (pc : Nat) (lv st : List Value) (μ : zMem) : Prop :=
  ∀ (H : Heap) (locs : List Loc) (ls : Array Slot), zlv ls c.maxLocals lv → va_P (zD Γ) vwCl (zws Γ μ) H → va_S A s.heap H locs → W p l e R s m args below meth c H locs cells slots Q (F0 m pc ls st)
theorem zlv_at {ls : Array Slot} {n : Nat} {lv : List Value} (h : zlv ls n lv) {i : Nat} {v : Value} (hi : lv[i]? = some v) (hv : v ≠ .null) : ls[i]? = some (.val v) := (h.2.2 i v hi).resolve_left hv
theorem zlv_entry {vs lv : List Value} {n : Nat} (hn : (lg_sl vs).length ≤ n) (h : ∀ (i : Nat) (v : Value), lv[i]? = some v → v = .null ∨ (i, v) ∈ lv_args 0 vs) : zlv ((lg_sl vs ++ List.replicate (n - (lg_sl vs).length) Slot.unset).toArray) n lv := by
  have h0 := lv_entry vs hn
  exact ⟨h0.1, h0.2.1, fun i v hi => (h i v hi).imp id (fun hm => h0.2.2 (i, v) hm)⟩
/-- a store of one slot -/
theorem zlv_store {ls : Array Slot} {n : Nat} {lv : List Value} {i : Nat} {v : Value} (h : zlv ls n lv) (hi : i < n) (hc : v.category = 1) (hp : ∀ w, lv[i - 1]? = some w → i ≠ 0 → w.category = 1) :
    ∃ ls', storeLocals ls i v = some ls' ∧ zlv ls' n (lv.set i v) := by
  classical
  obtain ⟨h1, h2, h3⟩ := h
  let l : List (Nat × Value) := ((List.range lv.length).map (fun j => (j, lv.getD j .null))).filter (fun q => decide (ls[q.1]? = some (.val q.2)))
  have hl : lv_has ls n l := ⟨h1, h2, fun q hq => by simpa using (List.mem_filter.mp hq).2⟩
  obtain ⟨ls', e', hs', hw', hl'⟩ := lv_store1 (v := v) hl hi hc
  refine ⟨ls', e', hs', hw', fun j w hj => ?_⟩
  rw [List.getElem?_set] at hj
  by_cases hij : i = j
  · subst hij
    simp only [if_true] at hj
    split at hj
    · cases hj
      exact Or.inr (hl' (i, v) List.mem_cons_self)
    · cases hj
  · rw [if_neg hij] at hj
    rcases h3 j w hj with hw | hw
    · exact Or.inl hw
    · right
      refine hl' (j, w) (List.mem_cons_of_mem _ (List.mem_filter.mpr ⟨List.mem_filter.mpr ⟨List.mem_map.mpr ⟨j, List.mem_range.mpr (List.getElem?_eq_some_iff.mp hj).1, ?_⟩, by simpa using hw⟩, ?_⟩))
      · simp [List.getD, hj]
      · have hji : ¬ j = i := fun q => hij q.symm
        by_cases hj1 : j + 1 = i
        · have := hp w (by rw [← hj1]; simpa using hj) (by omega)
          simp [hji, this]
        · simp [hji, hj1]
/-- a store of two slots -/
theorem zlv_store2 {ls : Array Slot} {n : Nat} {lv : List Value} {i : Nat} {v : Value} (h : zlv ls n lv) (hi : i + 1 < n) (hc : v.category = 2) (hp : ∀ w, lv[i - 1]? = some w → i ≠ 0 → w.category = 1) :
    ∃ ls', storeLocals ls i v = some ls' ∧ zlv ls' n ((lv.set i v).set (i + 1) .null) := by
  classical
  obtain ⟨h1, h2, h3⟩ := h
  let l : List (Nat × Value) := ((List.range lv.length).map (fun j => (j, lv.getD j .null))).filter (fun q => decide (ls[q.1]? = some (.val q.2)))
  have hl : lv_has ls n l := ⟨h1, h2, fun q hq => by simpa using (List.mem_filter.mp hq).2⟩
  obtain ⟨ls', e', hs', hw', hl'⟩ := lv_store2 (v := v) hl hi hc
  refine ⟨ls', e', hs', hw', fun j w hj => ?_⟩
  rw [List.getElem?_set, List.getElem?_set] at hj
  by_cases hij : i + 1 = j
  · subst hij
    simp only [if_true] at hj
    split at hj
    · cases hj
      exact Or.inl rfl
    · cases hj
  · rw [if_neg hij] at hj
    by_cases hij2 : i = j
    · subst hij2
      simp only [if_true] at hj
      split at hj
      · cases hj
        exact Or.inr (hl' (i, v) List.mem_cons_self)
      · cases hj
    · rw [if_neg hij2] at hj
      rcases h3 j w hj with hw | hw
      · exact Or.inl hw
      · right
        refine hl' (j, w) (List.mem_cons_of_mem _ (List.mem_filter.mpr ⟨List.mem_filter.mpr ⟨List.mem_map.mpr ⟨j, List.mem_range.mpr (List.getElem?_eq_some_iff.mp hj).1, ?_⟩, by simpa using hw⟩, ?_⟩))
        · simp [List.getD, hj]
        · have hji : ¬ j = i := fun q => hij2 q.symm
          have hji2 : ¬ j = i + 1 := fun q => hij q.symm
          by_cases hj1 : j + 1 = i
          · have := hp w (by rw [← hj1]; simpa using hj) (by omega)
            simp [hji, hji2, this]
          · simp [hji, hji2, hj1]
/-- a method out of its walk -/
theorem zRet.of {Γ : zC} {l : Launch} {d : Nat} {y : MethodName} {cc : ByteArray} {maxL : Nat} {ret : Option FieldType} {av lv : List Value} {μ μ' : zMem} {r : Option Value} (hy : plainName y.cls = true) (hn : (lg_sl av).length ≤ maxL)
    (hlv : ∀ (i : Nat) (v : Value), lv[i]? = some v → v = .null ∨ (i, v) ∈ lv_args 0 av)
    (k : ∀ p e s m below meth c, zCx Γ (zAA Γ) p s m av.toArray c y.cls cc maxL → meth.sig.returnType = ret → meth.locks = false →
      zV Γ (zAA Γ) p l e (zRm d) s m av.toArray below meth c 0 0 (MQ below (zQc Γ r μ') av.toArray s 0 0 (zAA Γ)) 0 lv [] μ) : zRet Γ l d (y, cc, maxL, ret) av μ r μ' := by
  refine Met.ofW (cc := cc) (maxL := maxL) (ret := ret) hy rfl ?_
  intro p e s m args below meth c s₁ B hml hv
  obtain ⟨rfl, hAp, hP, hK, hE⟩ := hv
  have hts := atoms_spec (ws := zcode (y, cc, maxL, ret) :: tblG) B.pre
  have hown : s.vm.findClass y.cls = some m.cls := findClass_of_methodNamed B.named
  rw [lg_entry_eq]
  have h0 := zlv_entry (n := maxL) hn hlv
  refine k p e s m below meth c ⟨B.exec, B.bytes, hml, hown, fun w hw => hts w (List.mem_cons_of_mem _ hw), hK, hAp, hE, fun _ h => h⟩ B.returns B.notSynchronized s.heap [] _ (by rw [hml]; exact h0) hP va_S.rf
end
section
/-! whole numbers as ints and longs -/
theorem zi_add (x y : Int) : zi (x + y) = zi x + zi y := Int32.ofInt_add x y
theorem zi_sub (x y : Int) : zi (x - y) = zi x - zi y := Int32.ofInt_sub x y
theorem zi_mul (x y : Int) : zi (x * y) = zi x * zi y := Int32.ofInt_mul x y
theorem zl_add (x y : Int) : zl (x + y) = zl x + zl y := Int64.ofInt_add x y
theorem zl_sub (x y : Int) : zl (x - y) = zl x - zl y := Int64.ofInt_sub x y
theorem zl_mul (x y : Int) : zl (x * y) = zl x * zl y := Int64.ofInt_mul x y
theorem zi_toInt {x : Int} (h : -2147483648 ≤ x ∧ x ≤ 2147483647) : (zi x).toInt = x := Int32.toInt_ofInt_of_le (by omega) (by omega)
theorem zl_toInt {x : Int} (h : -9223372036854775808 ≤ x ∧ x ≤ 9223372036854775807) : (zl x).toInt = x := Int64.toInt_ofInt_of_le (by omega) (by omega)
theorem zi_of (x : Int32) : zi x.toInt = x := Int32.ofInt_toInt x
theorem zl_of (x : Int64) : zl x.toInt = x := Int64.ofInt_toInt x
theorem z32 (x : Int32) : -2147483648 ≤ x.toInt ∧ x.toInt ≤ 2147483647 := by
  have h1 := Int32.toInt_lt x
  have h2 := Int32.le_toInt x
  omega
theorem z64 (x : Int64) : -9223372036854775808 ≤ x.toInt ∧ x.toInt ≤ 9223372036854775807 := by
  have h1 := Int64.toInt_lt x
  have h2 := Int64.le_toInt x
  omega
theorem zi_lt {x y : Int} (hx : -2147483648 ≤ x ∧ x ≤ 2147483647) (hy : -2147483648 ≤ y ∧ y ≤ 2147483647) : zi x < zi y ↔ x < y := by
  rw [Int32.lt_iff_toInt_lt, zi_toInt hx, zi_toInt hy]
theorem zi_le {x y : Int} (hx : -2147483648 ≤ x ∧ x ≤ 2147483647) (hy : -2147483648 ≤ y ∧ y ≤ 2147483647) : zi x ≤ zi y ↔ x ≤ y := by
  rw [Int32.le_iff_toInt_le, zi_toInt hx, zi_toInt hy]
theorem zi_eq {x y : Int} (hx : -2147483648 ≤ x ∧ x ≤ 2147483647) (hy : -2147483648 ≤ y ∧ y ≤ 2147483647) : zi x = zi y ↔ x = y := by
  rw [← Int32.toInt_inj, zi_toInt hx, zi_toInt hy]
theorem zl_lt {x y : Int} (hx : -9223372036854775808 ≤ x ∧ x ≤ 9223372036854775807) (hy : -9223372036854775808 ≤ y ∧ y ≤ 9223372036854775807) : zl x < zl y ↔ x < y := by
  rw [Int64.lt_iff_toInt_lt, zl_toInt hx, zl_toInt hy]
theorem zl_le {x y : Int} (hx : -9223372036854775808 ≤ x ∧ x ≤ 9223372036854775807) (hy : -9223372036854775808 ≤ y ∧ y ≤ 9223372036854775807) : zl x ≤ zl y ↔ x ≤ y := by
  rw [Int64.le_iff_toInt_le, zl_toInt hx, zl_toInt hy]
theorem zl_eq {x y : Int} (hx : -9223372036854775808 ≤ x ∧ x ≤ 9223372036854775807) (hy : -9223372036854775808 ≤ y ∧ y ≤ 9223372036854775807) : zl x = zl y ↔ x = y := by
  rw [← Int64.toInt_inj, zl_toInt hx, zl_toInt hy]
theorem zi_0 : zi 0 = 0 := rfl
theorem zi_div {x y : Int} (hx : 0 ≤ x ∧ x ≤ 2147483647) (hy : 0 < y ∧ y ≤ 2147483647) : zi x / zi y = zi (x / y) := by
  have e1 : Int32.minValue.toInt = -2147483648 := by decide
  have e2 : Int32.maxValue.toInt = 2147483647 := by decide
  have h := Int32.ofInt_tdiv (a := x) (b := y) (by omega) (by omega) (by omega) (by omega)
  rw [Int.tdiv_eq_ediv_of_nonneg hx.1] at h
  exact h.symm
theorem zi_rem {x y : Int} (hx : 0 ≤ x ∧ x ≤ 2147483647) (hy : 0 < y ∧ y ≤ 2147483647) : zi x - zi x / zi y * zi y = zi (x % y) := by
  rw [zi_div hx hy, ← zi_mul, ← zi_sub]
  congr 1
  have := Int.emod_add_mul_ediv x y
  rw [Int.mul_comm] at this
  omega
theorem zi_clamp {x : Int} (h : 0 ≤ x ∧ x ≤ 2147483647) : (zi x).toNatClampNeg = x.toNat := by
  show (zi x).toInt.toNat = x.toNat
  rw [zi_toInt (by omega)]
theorem zi_in {x : Int} {n : Nat} (h : 0 ≤ x ∧ x < n) (hn : n ≤ 2147483647) : vp_in (zi x) n := by
  rw [vp_in_iff, zi_toInt (by omega)]
  exact h
theorem zi_l {x : Int} (h : -2147483648 ≤ x ∧ x ≤ 2147483647) : (zi x).toInt64 = zl x := by
  rw [← Int64.toInt_inj, Int32.toInt_toInt64, zi_toInt h, zl_toInt (by omega)]
theorem zl_i (x : Int) : (zl x).toInt32 = zi x := Int64.toInt32_ofInt
theorem zi_ne0 {y : Int} (hy : 0 < y ∧ y ≤ 2147483647) : ¬ zi y = 0 := by
  rw [← zi_0, zi_eq (by omega) (by omega)]
  omega
theorem zi_z {x : Int} (h : x = 0 ∨ x = 1) : narrow .boolean (.int (zi x)) = .int (zi x) ∧ fits .boolean (.int (zi x)) = true := by
  rcases h with rfl | rfl <;> decide
end
section
/-! A ROW AN INSTRUCTION (laid by wip/whole/gen/rows.py) -/
section ZROWS
variable {Γ : zC} {A : Nat → Prop} {p : Program} {l : Launch} {e : Env} {R : Room} {s : State} {m : MethodId} {args : Array Value} {below : List Frame} {meth : Method} {c : Code} {cells slots : Nat} {Q : State → Prop} {own : String} {cc : ByteArray} {nL pc n : Nat} {lv st : List Value} {μ : zMem}
theorem zV_iconst (C : zCx Γ A p s m args c own cc nL) {v : Int} (d : decode cc pc = .ok (.iconst v, 1))  (hp : pc + 1 = n) (k : zV Γ A p l e R s m args below meth c cells slots Q n lv (.int (zi v) :: st) μ) : zV Γ A p l e R s m args below meth c cells slots Q pc lv st μ := by
  subst hp
  intro H locs ls hl hP hS
  have h := k H locs ls hl hP hS
  exact lv_iconst C.1 C.2.1 d rfl h
theorem zV_bipush (C : zCx Γ A p s m args c own cc nL) {v : Int} (d : decode cc pc = .ok (.bipush v, 2)) (hv : (Int8.ofInt v).toInt32 = zi v) (hp : pc + 2 = n) (k : zV Γ A p l e R s m args below meth c cells slots Q n lv (.int (zi v) :: st) μ) : zV Γ A p l e R s m args below meth c cells slots Q pc lv st μ := by
  subst hp
  intro H locs ls hl hP hS
  have h := k H locs ls hl hP hS
  exact lv_bipush C.1 C.2.1 d hv h
theorem zV_sipush (C : zCx Γ A p s m args c own cc nL) {v : Int} (d : decode cc pc = .ok (.sipush v, 3)) (hv : (Int16.ofInt v).toInt32 = zi v) (hp : pc + 3 = n) (k : zV Γ A p l e R s m args below meth c cells slots Q n lv (.int (zi v) :: st) μ) : zV Γ A p l e R s m args below meth c cells slots Q pc lv st μ := by
  subst hp
  intro H locs ls hl hP hS
  have h := k H locs ls hl hP hS
  exact lv_sipush C.1 C.2.1 d hv h
theorem zV_lconst (C : zCx Γ A p s m args c own cc nL) {f : Fin 2} {v : Int} (d : decode cc pc = .ok (.lconst f, 1)) (hv : Int64.ofNat (f : Nat) = zl v) (hp : pc + 1 = n) (k : zV Γ A p l e R s m args below meth c cells slots Q n lv (.long (zl v) :: st) μ) : zV Γ A p l e R s m args below meth c cells slots Q pc lv st μ := by
  subst hp
  intro H locs ls hl hP hS
  have h := k H locs ls hl hP hS
  exact lv_lconst C.1 C.2.1 d hv h
theorem zV_ldc (C : zCx Γ A p s m args c own cc nL) {i : Nat} {v : Int} (d : decode cc pc = .ok (.ldc i, 2)) (hw : Cond.constant own i (zi v) ∈ tblG) (hp : pc + 2 = n) (k : zV Γ A p l e R s m args below meth c cells slots Q n lv (.int (zi v) :: st) μ) : zV Γ A p l e R s m args below meth c cells slots Q pc lv st μ := by
  subst hp
  intro H locs ls hl hP hS
  have h := k H locs ls hl hP hS
  exact lv_ldc C.1 C.2.1 C.2.2.2.1 (C.2.2.2.2.1 _ hw) d h
theorem zV_ldc_w (C : zCx Γ A p s m args c own cc nL) {i : Nat} {v : Int} (d : decode cc pc = .ok (.ldc_w i, 3)) (hw : Cond.constant own i (zi v) ∈ tblG) (hp : pc + 3 = n) (k : zV Γ A p l e R s m args below meth c cells slots Q n lv (.int (zi v) :: st) μ) : zV Γ A p l e R s m args below meth c cells slots Q pc lv st μ := by
  subst hp
  intro H locs ls hl hP hS
  have h := k H locs ls hl hP hS
  exact lv_ldcw C.1 C.2.1 C.2.2.2.1 (C.2.2.2.2.1 _ hw) d h
theorem zV_ldc2 (C : zCx Γ A p s m args c own cc nL) {i : Nat} {v : Int} (d : decode cc pc = .ok (.ldc2_w i, 3)) (hw : Cond.constantLong own i (zl v) ∈ tblG) (hp : pc + 3 = n) (k : zV Γ A p l e R s m args below meth c cells slots Q n lv (.long (zl v) :: st) μ) : zV Γ A p l e R s m args below meth c cells slots Q pc lv st μ := by
  subst hp
  intro H locs ls hl hP hS
  have h := k H locs ls hl hP hS
  exact lv_ldc2 C.1 C.2.1 C.2.2.2.1 (C.2.2.2.2.1 _ hw) d h
theorem zV_iload_n (C : zCx Γ A p s m args c own cc nL) {f : Fin 4} {i : Nat} {x : Int32} (d : decode cc pc = .ok (.iload_n f, 1)) (hi : (f : Nat) = i) (hx : lv[i]? = some (.int x)) (hp : pc + 1 = n) (k : zV Γ A p l e R s m args below meth c cells slots Q n lv (.int x :: st) μ) : zV Γ A p l e R s m args below meth c cells slots Q pc lv st μ := by
  subst hp
  intro H locs ls hl hP hS
  have h := k H locs ls hl hP hS
  exact lv_iload_n C.1 C.2.1 d hi (zlv_at hl hx (fun q => by cases q)) h
theorem zV_iload (C : zCx Γ A p s m args c own cc nL) {i : Nat} {x : Int32} (d : decode cc pc = .ok (.iload i, 2)) (hx : lv[i]? = some (.int x)) (hp : pc + 2 = n) (k : zV Γ A p l e R s m args below meth c cells slots Q n lv (.int x :: st) μ) : zV Γ A p l e R s m args below meth c cells slots Q pc lv st μ := by
  subst hp
  intro H locs ls hl hP hS
  have h := k H locs ls hl hP hS
  exact lv_iload C.1 C.2.1 d (zlv_at hl hx (fun q => by cases q)) h
theorem zV_lload_n (C : zCx Γ A p s m args c own cc nL) {f : Fin 4} {i : Nat} {x : Int64} (d : decode cc pc = .ok (.lload_n f, 1)) (hi : (f : Nat) = i) (hx : lv[i]? = some (.long x)) (hp : pc + 1 = n) (k : zV Γ A p l e R s m args below meth c cells slots Q n lv (.long x :: st) μ) : zV Γ A p l e R s m args below meth c cells slots Q pc lv st μ := by
  subst hp
  intro H locs ls hl hP hS
  have h := k H locs ls hl hP hS
  exact lv_lload_n C.1 C.2.1 d hi (zlv_at hl hx (fun q => by cases q)) h
theorem zV_lload (C : zCx Γ A p s m args c own cc nL) {i : Nat} {x : Int64} (d : decode cc pc = .ok (.lload i, 2)) (hx : lv[i]? = some (.long x)) (hp : pc + 2 = n) (k : zV Γ A p l e R s m args below meth c cells slots Q n lv (.long x :: st) μ) : zV Γ A p l e R s m args below meth c cells slots Q pc lv st μ := by
  subst hp
  intro H locs ls hl hP hS
  have h := k H locs ls hl hP hS
  exact lv_lload C.1 C.2.1 d (zlv_at hl hx (fun q => by cases q)) h
theorem zV_aload_n (C : zCx Γ A p s m args c own cc nL) {f : Fin 4} {i : Nat} {x : Nat} (d : decode cc pc = .ok (.aload_n f, 1)) (hi : (f : Nat) = i) (hx : lv[i]? = some (.ref x)) (hp : pc + 1 = n) (k : zV Γ A p l e R s m args below meth c cells slots Q n lv (.ref x :: st) μ) : zV Γ A p l e R s m args below meth c cells slots Q pc lv st μ := by
  subst hp
  intro H locs ls hl hP hS
  have h := k H locs ls hl hP hS
  exact lv_aload_n C.1 C.2.1 d hi (zlv_at hl hx (fun q => by cases q)) h
theorem zV_aload (C : zCx Γ A p s m args c own cc nL) {i : Nat} {x : Nat} (d : decode cc pc = .ok (.aload i, 2)) (hx : lv[i]? = some (.ref x)) (hp : pc + 2 = n) (k : zV Γ A p l e R s m args below meth c cells slots Q n lv (.ref x :: st) μ) : zV Γ A p l e R s m args below meth c cells slots Q pc lv st μ := by
  subst hp
  intro H locs ls hl hP hS
  have h := k H locs ls hl hP hS
  exact lv_aload C.1 C.2.1 d (zlv_at hl hx (fun q => by cases q)) h
theorem zV_istore_n (C : zCx Γ A p s m args c own cc nL) {f : Fin 4} {i : Nat} {x : Int32} (d : decode cc pc = .ok (.istore_n f, 1)) (hi : (f : Nat) = i) (hn : i < nL) (hpr : ∀ w, lv[i - 1]? = some w → i ≠ 0 → w.category = 1) (hp : pc + 1 = n) (k : zV Γ A p l e R s m args below meth c cells slots Q n (lv.set i (.int x)) st μ) : zV Γ A p l e R s m args below meth c cells slots Q pc lv (.int x :: st) μ := by
  subst hp
  subst hi
  intro H locs ls hl hP hS
  obtain ⟨ls', e', h'⟩ := zlv_store (v := .int x) hl (by rw [C.2.2.1]; exact hn) rfl hpr
  obtain ⟨hexec, hb, -⟩ := C
  intro T hT X
  obtain ⟨t, a, b⟩ := k H locs ls' h' hP hS T hT X
  refine ⟨t, ?_, b⟩
  jvm_step X.here [X.here.top, ↓top_set X.here.top, hexec, hb, d, e']
  exact a
theorem zV_istore (C : zCx Γ A p s m args c own cc nL) {i : Nat} {x : Int32} (d : decode cc pc = .ok (.istore i, 2)) (hn : i < nL) (hpr : ∀ w, lv[i - 1]? = some w → i ≠ 0 → w.category = 1) (hp : pc + 2 = n) (k : zV Γ A p l e R s m args below meth c cells slots Q n (lv.set i (.int x)) st μ) : zV Γ A p l e R s m args below meth c cells slots Q pc lv (.int x :: st) μ := by
  subst hp
  intro H locs ls hl hP hS
  obtain ⟨ls', e', h'⟩ := zlv_store (v := .int x) hl (by rw [C.2.2.1]; exact hn) rfl hpr
  obtain ⟨hexec, hb, -⟩ := C
  intro T hT X
  obtain ⟨t, a, b⟩ := k H locs ls' h' hP hS T hT X
  refine ⟨t, ?_, b⟩
  jvm_step X.here [X.here.top, ↓top_set X.here.top, hexec, hb, d, e']
  exact a
theorem zV_astore_n (C : zCx Γ A p s m args c own cc nL) {f : Fin 4} {i : Nat} {x : Nat} (d : decode cc pc = .ok (.astore_n f, 1)) (hi : (f : Nat) = i) (hn : i < nL) (hpr : ∀ w, lv[i - 1]? = some w → i ≠ 0 → w.category = 1) (hp : pc + 1 = n) (k : zV Γ A p l e R s m args below meth c cells slots Q n (lv.set i (.ref x)) st μ) : zV Γ A p l e R s m args below meth c cells slots Q pc lv (.ref x :: st) μ := by
  subst hp
  subst hi
  intro H locs ls hl hP hS
  obtain ⟨ls', e', h'⟩ := zlv_store (v := .ref x) hl (by rw [C.2.2.1]; exact hn) rfl hpr
  obtain ⟨hexec, hb, -⟩ := C
  intro T hT X
  obtain ⟨t, a, b⟩ := k H locs ls' h' hP hS T hT X
  refine ⟨t, ?_, b⟩
  jvm_step X.here [X.here.top, ↓top_set X.here.top, hexec, hb, d, e', Value.isRef]
  exact a
theorem zV_astore (C : zCx Γ A p s m args c own cc nL) {i : Nat} {x : Nat} (d : decode cc pc = .ok (.astore i, 2)) (hn : i < nL) (hpr : ∀ w, lv[i - 1]? = some w → i ≠ 0 → w.category = 1) (hp : pc + 2 = n) (k : zV Γ A p l e R s m args below meth c cells slots Q n (lv.set i (.ref x)) st μ) : zV Γ A p l e R s m args below meth c cells slots Q pc lv (.ref x :: st) μ := by
  subst hp
  intro H locs ls hl hP hS
  obtain ⟨ls', e', h'⟩ := zlv_store (v := .ref x) hl (by rw [C.2.2.1]; exact hn) rfl hpr
  obtain ⟨hexec, hb, -⟩ := C
  intro T hT X
  obtain ⟨t, a, b⟩ := k H locs ls' h' hP hS T hT X
  refine ⟨t, ?_, b⟩
  jvm_step X.here [X.here.top, ↓top_set X.here.top, hexec, hb, d, e', Value.isRef]
  exact a
theorem zV_lstore_n (C : zCx Γ A p s m args c own cc nL) {f : Fin 4} {i : Nat} {x : Int64} (d : decode cc pc = .ok (.lstore_n f, 1)) (hi : (f : Nat) = i) (hn : i + 1 < nL) (hpr : ∀ w, lv[i - 1]? = some w → i ≠ 0 → w.category = 1) (hp : pc + 1 = n) (k : zV Γ A p l e R s m args below meth c cells slots Q n ((lv.set i (.long x)).set (i + 1) .null) st μ) : zV Γ A p l e R s m args below meth c cells slots Q pc lv (.long x :: st) μ := by
  subst hp
  subst hi
  intro H locs ls hl hP hS
  obtain ⟨ls', e', h'⟩ := zlv_store2 (v := .long x) hl (by rw [C.2.2.1]; exact hn) rfl hpr
  obtain ⟨hexec, hb, -⟩ := C
  intro T hT X
  obtain ⟨t, a, b⟩ := k H locs ls' h' hP hS T hT X
  refine ⟨t, ?_, b⟩
  jvm_step X.here [X.here.top, ↓top_set X.here.top, hexec, hb, d, e']
  exact a
theorem zV_lstore (C : zCx Γ A p s m args c own cc nL) {i : Nat} {x : Int64} (d : decode cc pc = .ok (.lstore i, 2)) (hn : i + 1 < nL) (hpr : ∀ w, lv[i - 1]? = some w → i ≠ 0 → w.category = 1) (hp : pc + 2 = n) (k : zV Γ A p l e R s m args below meth c cells slots Q n ((lv.set i (.long x)).set (i + 1) .null) st μ) : zV Γ A p l e R s m args below meth c cells slots Q pc lv (.long x :: st) μ := by
  subst hp
  intro H locs ls hl hP hS
  obtain ⟨ls', e', h'⟩ := zlv_store2 (v := .long x) hl (by rw [C.2.2.1]; exact hn) rfl hpr
  obtain ⟨hexec, hb, -⟩ := C
  intro T hT X
  obtain ⟨t, a, b⟩ := k H locs ls' h' hP hS T hT X
  refine ⟨t, ?_, b⟩
  jvm_step X.here [X.here.top, ↓top_set X.here.top, hexec, hb, d, e']
  exact a
theorem zV_iinc (C : zCx Γ A p s m args c own cc nL) {i : Nat} {v x : Int} (d : decode cc pc = .ok (.iinc i v, 3)) (hx : lv[i]? = some (.int (zi x))) (hn : i < nL) (hpr : ∀ w, lv[i - 1]? = some w → i ≠ 0 → w.category = 1) (hp : pc + 3 = n) (k : zV Γ A p l e R s m args below meth c cells slots Q n (lv.set i (.int (zi (x + v)))) st μ) : zV Γ A p l e R s m args below meth c cells slots Q pc lv st μ := by
  subst hp
  intro H locs ls hl hP hS
  have hg := zlv_at hl hx (fun q => by cases q)
  obtain ⟨ls', e', h'⟩ := zlv_store (v := .int (zi x + Int32.ofInt v)) hl (by rw [C.2.2.1]; exact hn) rfl hpr
  obtain ⟨hexec, hb, -⟩ := C
  intro T hT X
  rw [zi_add] at k
  obtain ⟨t, a, b⟩ := k H locs ls' h' hP hS T hT X
  refine ⟨t, ?_, b⟩
  jvm_step X.here [X.here.top, ↓top_set X.here.top, hexec, hb, d, hg, e']
  exact a
theorem zV_iadd (C : zCx Γ A p s m args c own cc nL) {x y : Int} (d : decode cc pc = .ok (.iadd, 1))  (hp : pc + 1 = n) (k : zV Γ A p l e R s m args below meth c cells slots Q n lv (.int (zi (x + y)) :: st) μ) : zV Γ A p l e R s m args below meth c cells slots Q pc lv (.int (zi y) :: .int (zi x) :: st) μ := by
  subst hp
  intro H locs ls hl hP hS
  have h := k H locs ls hl hP hS
  rw [zi_add] at h
  exact lv_iadd C.1 C.2.1 d h
theorem zV_ladd (C : zCx Γ A p s m args c own cc nL) {x y : Int} (d : decode cc pc = .ok (.ladd, 1))  (hp : pc + 1 = n) (k : zV Γ A p l e R s m args below meth c cells slots Q n lv (.long (zl (x + y)) :: st) μ) : zV Γ A p l e R s m args below meth c cells slots Q pc lv (.long (zl y) :: .long (zl x) :: st) μ := by
  subst hp
  intro H locs ls hl hP hS
  have h := k H locs ls hl hP hS
  rw [zl_add] at h
  exact lv_ladd C.1 C.2.1 d h
theorem zV_isub (C : zCx Γ A p s m args c own cc nL) {x y : Int} (d : decode cc pc = .ok (.isub, 1))  (hp : pc + 1 = n) (k : zV Γ A p l e R s m args below meth c cells slots Q n lv (.int (zi (x - y)) :: st) μ) : zV Γ A p l e R s m args below meth c cells slots Q pc lv (.int (zi y) :: .int (zi x) :: st) μ := by
  subst hp
  intro H locs ls hl hP hS
  have h := k H locs ls hl hP hS
  rw [zi_sub] at h
  exact lv_isub C.1 C.2.1 d h
theorem zV_lsub (C : zCx Γ A p s m args c own cc nL) {x y : Int} (d : decode cc pc = .ok (.lsub, 1))  (hp : pc + 1 = n) (k : zV Γ A p l e R s m args below meth c cells slots Q n lv (.long (zl (x - y)) :: st) μ) : zV Γ A p l e R s m args below meth c cells slots Q pc lv (.long (zl y) :: .long (zl x) :: st) μ := by
  subst hp
  intro H locs ls hl hP hS
  have h := k H locs ls hl hP hS
  rw [zl_sub] at h
  exact lv_lsub C.1 C.2.1 d h
theorem zV_imul (C : zCx Γ A p s m args c own cc nL) {x y : Int} (d : decode cc pc = .ok (.imul, 1))  (hp : pc + 1 = n) (k : zV Γ A p l e R s m args below meth c cells slots Q n lv (.int (zi (x * y)) :: st) μ) : zV Γ A p l e R s m args below meth c cells slots Q pc lv (.int (zi y) :: .int (zi x) :: st) μ := by
  subst hp
  intro H locs ls hl hP hS
  have h := k H locs ls hl hP hS
  rw [zi_mul] at h
  exact lv_imul C.1 C.2.1 d h
theorem zV_lmul (C : zCx Γ A p s m args c own cc nL) {x y : Int} (d : decode cc pc = .ok (.lmul, 1))  (hp : pc + 1 = n) (k : zV Γ A p l e R s m args below meth c cells slots Q n lv (.long (zl (x * y)) :: st) μ) : zV Γ A p l e R s m args below meth c cells slots Q pc lv (.long (zl y) :: .long (zl x) :: st) μ := by
  subst hp
  intro H locs ls hl hP hS
  have h := k H locs ls hl hP hS
  rw [zl_mul] at h
  exact lv_lmul C.1 C.2.1 d h
theorem zV_idiv (C : zCx Γ A p s m args c own cc nL) {x y : Int} (d : decode cc pc = .ok (.idiv, 1)) (hx : 0 ≤ x ∧ x ≤ 2147483647) (hy : 0 < y ∧ y ≤ 2147483647) (hp : pc + 1 = n) (k : zV Γ A p l e R s m args below meth c cells slots Q n lv (.int (zi (x / y)) :: st) μ) : zV Γ A p l e R s m args below meth c cells slots Q pc lv (.int (zi y) :: .int (zi x) :: st) μ := by
  subst hp
  intro H locs ls hl hP hS
  have h := k H locs ls hl hP hS
  rw [← zi_div hx hy] at h
  exact lv_idiv C.1 C.2.1 d (zi_ne0 hy) h
theorem zV_irem (C : zCx Γ A p s m args c own cc nL) {x y : Int} (d : decode cc pc = .ok (.irem, 1)) (hx : 0 ≤ x ∧ x ≤ 2147483647) (hy : 0 < y ∧ y ≤ 2147483647) (hp : pc + 1 = n) (k : zV Γ A p l e R s m args below meth c cells slots Q n lv (.int (zi (x % y)) :: st) μ) : zV Γ A p l e R s m args below meth c cells slots Q pc lv (.int (zi y) :: .int (zi x) :: st) μ := by
  subst hp
  intro H locs ls hl hP hS
  have h := k H locs ls hl hP hS
  rw [← zi_rem hx hy] at h
  exact lv_irem C.1 C.2.1 d (zi_ne0 hy) h
theorem zV_iand (C : zCx Γ A p s m args c own cc nL) {x y : Int32} {z : Int} (d : decode cc pc = .ok (.iand, 1)) (hz : x &&& y = zi z) (hp : pc + 1 = n) (k : zV Γ A p l e R s m args below meth c cells slots Q n lv (.int (zi z) :: st) μ) : zV Γ A p l e R s m args below meth c cells slots Q pc lv (.int y :: .int x :: st) μ := by
  subst hp
  intro H locs ls hl hP hS
  have h := k H locs ls hl hP hS
  rw [← hz] at h
  exact lv_iand C.1 C.2.1 d h
theorem zV_ior (C : zCx Γ A p s m args c own cc nL) {x y : Int32} {z : Int} (d : decode cc pc = .ok (.ior, 1)) (hz : x ||| y = zi z) (hp : pc + 1 = n) (k : zV Γ A p l e R s m args below meth c cells slots Q n lv (.int (zi z) :: st) μ) : zV Γ A p l e R s m args below meth c cells slots Q pc lv (.int y :: .int x :: st) μ := by
  subst hp
  intro H locs ls hl hP hS
  have h := k H locs ls hl hP hS
  rw [← hz] at h
  exact lv_ior C.1 C.2.1 d h
theorem zV_ixor (C : zCx Γ A p s m args c own cc nL) {x y : Int32} {z : Int} (d : decode cc pc = .ok (.ixor, 1)) (hz : x ^^^ y = zi z) (hp : pc + 1 = n) (k : zV Γ A p l e R s m args below meth c cells slots Q n lv (.int (zi z) :: st) μ) : zV Γ A p l e R s m args below meth c cells slots Q pc lv (.int y :: .int x :: st) μ := by
  subst hp
  intro H locs ls hl hP hS
  have h := k H locs ls hl hP hS
  rw [← hz] at h
  exact lv_ixor C.1 C.2.1 d h
theorem zV_ishl (C : zCx Γ A p s m args c own cc nL) {x y : Int32} {z : Int} (d : decode cc pc = .ok (.ishl, 1)) (hz : x <<< (y &&& 31) = zi z) (hp : pc + 1 = n) (k : zV Γ A p l e R s m args below meth c cells slots Q n lv (.int (zi z) :: st) μ) : zV Γ A p l e R s m args below meth c cells slots Q pc lv (.int y :: .int x :: st) μ := by
  subst hp
  intro H locs ls hl hP hS
  have h := k H locs ls hl hP hS
  rw [← hz] at h
  exact lv_ishl C.1 C.2.1 d h
theorem zV_ishr (C : zCx Γ A p s m args c own cc nL) {x y : Int32} {z : Int} (d : decode cc pc = .ok (.ishr, 1)) (hz : x >>> (y &&& 31) = zi z) (hp : pc + 1 = n) (k : zV Γ A p l e R s m args below meth c cells slots Q n lv (.int (zi z) :: st) μ) : zV Γ A p l e R s m args below meth c cells slots Q pc lv (.int y :: .int x :: st) μ := by
  subst hp
  intro H locs ls hl hP hS
  have h := k H locs ls hl hP hS
  rw [← hz] at h
  exact lv_ishr C.1 C.2.1 d h
theorem zV_iushr (C : zCx Γ A p s m args c own cc nL) {x y : Int32} {z : Int} (d : decode cc pc = .ok (.iushr, 1)) (hz : (x.toUInt32 >>> (y.toUInt32 &&& Int32.toUInt32 31)).toInt32 = zi z) (hp : pc + 1 = n) (k : zV Γ A p l e R s m args below meth c cells slots Q n lv (.int (zi z) :: st) μ) : zV Γ A p l e R s m args below meth c cells slots Q pc lv (.int y :: .int x :: st) μ := by
  subst hp
  intro H locs ls hl hP hS
  have h := k H locs ls hl hP hS
  exact lv_iushr C.1 C.2.1 d hz h
theorem zV_land (C : zCx Γ A p s m args c own cc nL) {x y : Int64} (d : decode cc pc = .ok (.land, 1))  (hp : pc + 1 = n) (k : zV Γ A p l e R s m args below meth c cells slots Q n lv (.long (x &&& y) :: st) μ) : zV Γ A p l e R s m args below meth c cells slots Q pc lv (.long y :: .long x :: st) μ := by
  subst hp
  intro H locs ls hl hP hS
  have h := k H locs ls hl hP hS
  exact lv_land C.1 C.2.1 d h
theorem zV_lor (C : zCx Γ A p s m args c own cc nL) {x y : Int64} (d : decode cc pc = .ok (.lor, 1))  (hp : pc + 1 = n) (k : zV Γ A p l e R s m args below meth c cells slots Q n lv (.long (x ||| y) :: st) μ) : zV Γ A p l e R s m args below meth c cells slots Q pc lv (.long y :: .long x :: st) μ := by
  subst hp
  intro H locs ls hl hP hS
  have h := k H locs ls hl hP hS
  exact lv_lor C.1 C.2.1 d h
theorem zV_lshl (C : zCx Γ A p s m args c own cc nL) {x : Int64} {y : Int32} (d : decode cc pc = .ok (.lshl, 1))  (hp : pc + 1 = n) (k : zV Γ A p l e R s m args below meth c cells slots Q n lv (.long (x <<< (y.toInt64 &&& 63)) :: st) μ) : zV Γ A p l e R s m args below meth c cells slots Q pc lv (.int y :: .long x :: st) μ := by
  subst hp
  intro H locs ls hl hP hS
  have h := k H locs ls hl hP hS
  exact lv_lshl C.1 C.2.1 d rfl h
theorem zV_i2l (C : zCx Γ A p s m args c own cc nL) {x : Int} (d : decode cc pc = .ok (.i2l, 1)) (hx : -2147483648 ≤ x ∧ x ≤ 2147483647) (hp : pc + 1 = n) (k : zV Γ A p l e R s m args below meth c cells slots Q n lv (.long (zl x) :: st) μ) : zV Γ A p l e R s m args below meth c cells slots Q pc lv (.int (zi x) :: st) μ := by
  subst hp
  intro H locs ls hl hP hS
  have h := k H locs ls hl hP hS
  exact lv_i2l C.1 C.2.1 d (zi_l hx) h
theorem zV_i2l0 (C : zCx Γ A p s m args c own cc nL) {x : Int32} (d : decode cc pc = .ok (.i2l, 1))  (hp : pc + 1 = n) (k : zV Γ A p l e R s m args below meth c cells slots Q n lv (.long x.toInt64 :: st) μ) : zV Γ A p l e R s m args below meth c cells slots Q pc lv (.int x :: st) μ := by
  subst hp
  intro H locs ls hl hP hS
  have h := k H locs ls hl hP hS
  exact lv_i2l C.1 C.2.1 d rfl h
theorem zV_l2i (C : zCx Γ A p s m args c own cc nL) {x : Int} (d : decode cc pc = .ok (.l2i, 1))  (hp : pc + 1 = n) (k : zV Γ A p l e R s m args below meth c cells slots Q n lv (.int (zi x) :: st) μ) : zV Γ A p l e R s m args below meth c cells slots Q pc lv (.long (zl x) :: st) μ := by
  subst hp
  intro H locs ls hl hP hS
  have h := k H locs ls hl hP hS
  exact lv_l2i C.1 C.2.1 d (zl_i x) h
theorem zV_i2b (C : zCx Γ A p s m args c own cc nL) {x : Int32} {z : Int} (d : decode cc pc = .ok (.i2b, 1)) (hz : x.toInt8.toInt32 = zi z) (hp : pc + 1 = n) (k : zV Γ A p l e R s m args below meth c cells slots Q n lv (.int (zi z) :: st) μ) : zV Γ A p l e R s m args below meth c cells slots Q pc lv (.int x :: st) μ := by
  subst hp
  intro H locs ls hl hP hS
  have h := k H locs ls hl hP hS
  exact lv_i2b C.1 C.2.1 d hz h
theorem zV_i2s (C : zCx Γ A p s m args c own cc nL) {x : Int32} {z : Int} (d : decode cc pc = .ok (.i2s, 1)) (hz : x.toInt16.toInt32 = zi z) (hp : pc + 1 = n) (k : zV Γ A p l e R s m args below meth c cells slots Q n lv (.int (zi z) :: st) μ) : zV Γ A p l e R s m args below meth c cells slots Q pc lv (.int x :: st) μ := by
  subst hp
  intro H locs ls hl hP hS
  have h := k H locs ls hl hP hS
  exact lv_i2s C.1 C.2.1 d hz h
theorem zV_i2c (C : zCx Γ A p s m args c own cc nL) {x : Int32} {z : Int} (d : decode cc pc = .ok (.i2c, 1)) (hz : (x.toUInt32 % 65536).toInt32 = zi z) (hp : pc + 1 = n) (k : zV Γ A p l e R s m args below meth c cells slots Q n lv (.int (zi z) :: st) μ) : zV Γ A p l e R s m args below meth c cells slots Q pc lv (.int x :: st) μ := by
  subst hp
  intro H locs ls hl hP hS
  have h := k H locs ls hl hP hS
  exact lv_i2c C.1 C.2.1 d hz h
theorem zV_dup (C : zCx Γ A p s m args c own cc nL) {v : Value} (d : decode cc pc = .ok (.dup, 1)) (hv : v.category = 1) (hp : pc + 1 = n) (k : zV Γ A p l e R s m args below meth c cells slots Q n lv (v :: v :: st) μ) : zV Γ A p l e R s m args below meth c cells slots Q pc lv (v :: st) μ := by
  subst hp
  intro H locs ls hl hP hS
  have h := k H locs ls hl hP hS
  exact lv_dup C.1 C.2.1 d hv h
theorem zV_pop (C : zCx Γ A p s m args c own cc nL) {v : Value} (d : decode cc pc = .ok (.pop, 1)) (hv : v.category = 1) (hp : pc + 1 = n) (k : zV Γ A p l e R s m args below meth c cells slots Q n lv st μ) : zV Γ A p l e R s m args below meth c cells slots Q pc lv (v :: st) μ := by
  subst hp
  intro H locs ls hl hP hS
  have h := k H locs ls hl hP hS
  exact lv_pop C.1 C.2.1 d hv h
theorem zV_dup2 (C : zCx Γ A p s m args c own cc nL) {v w : Value} (d : decode cc pc = .ok (.dup2, 1)) (hv : v.category = 1) (hw : w.category = 1) (hp : pc + 1 = n) (k : zV Γ A p l e R s m args below meth c cells slots Q n lv (v :: w :: v :: w :: st) μ) : zV Γ A p l e R s m args below meth c cells slots Q pc lv (v :: w :: st) μ := by
  subst hp
  intro H locs ls hl hP hS
  have h := k H locs ls hl hP hS
  exact lv_dup2_11 C.1 C.2.1 d hv hw h
theorem zV_icmp_eq (C : zCx Γ A p s m args c own cc nL) {x y : Int} {off : Int} (tgt : Nat) (d : decode cc pc = .ok (.if_icmp .eq off, 3)) (ht : (pc : Int) + off = (tgt : Int)) (hx : -2147483648 ≤ x ∧ x ≤ 2147483647) (hy : -2147483648 ≤ y ∧ y ≤ 2147483647) (hp : pc + 3 = n) (kt : x = y → zV Γ A p l e R s m args below meth c cells slots Q tgt lv st μ) (kf : ¬ x = y → zV Γ A p l e R s m args below meth c cells slots Q n lv st μ) : zV Γ A p l e R s m args below meth c cells slots Q pc lv (.int (zi y) :: .int (zi x) :: st) μ := by
  subst hp
  intro H locs ls hl hP hS
  have hc := zi_eq hx hy
  exact lv_icmp_eq C.1 C.2.1 d ht (fun q => kt (hc.mp q) H locs ls hl hP hS) (fun q => kf (fun z => q (hc.mpr z)) H locs ls hl hP hS)
theorem zV_if_eq (C : zCx Γ A p s m args c own cc nL) {x : Int} {off : Int} (tgt : Nat) (d : decode cc pc = .ok (.ifCond .eq off, 3)) (ht : (pc : Int) + off = (tgt : Int)) (hx : -2147483648 ≤ x ∧ x ≤ 2147483647) (hp : pc + 3 = n) (kt : x = 0 → zV Γ A p l e R s m args below meth c cells slots Q tgt lv st μ) (kf : ¬ x = 0 → zV Γ A p l e R s m args below meth c cells slots Q n lv st μ) : zV Γ A p l e R s m args below meth c cells slots Q pc lv (.int (zi x) :: st) μ := by
  subst hp
  intro H locs ls hl hP hS
  have hy : -2147483648 ≤ (0 : Int) ∧ (0 : Int) ≤ 2147483647 := by decide
  have hc := zi_eq hx hy
  rw [zi_0] at hc
  exact lv_if_eq C.1 C.2.1 d ht (fun q => kt (hc.mp q) H locs ls hl hP hS) (fun q => kf (fun z => q (hc.mpr z)) H locs ls hl hP hS)
theorem zV_icmp_ne (C : zCx Γ A p s m args c own cc nL) {x y : Int} {off : Int} (tgt : Nat) (d : decode cc pc = .ok (.if_icmp .ne off, 3)) (ht : (pc : Int) + off = (tgt : Int)) (hx : -2147483648 ≤ x ∧ x ≤ 2147483647) (hy : -2147483648 ≤ y ∧ y ≤ 2147483647) (hp : pc + 3 = n) (kt : ¬ x = y → zV Γ A p l e R s m args below meth c cells slots Q tgt lv st μ) (kf : x = y → zV Γ A p l e R s m args below meth c cells slots Q n lv st μ) : zV Γ A p l e R s m args below meth c cells slots Q pc lv (.int (zi y) :: .int (zi x) :: st) μ := by
  subst hp
  intro H locs ls hl hP hS
  have hc := zi_eq hx hy
  exact lv_icmp_ne C.1 C.2.1 d ht (fun q => kt (fun z => q (hc.mpr z)) H locs ls hl hP hS) (fun q => kf (hc.mp q) H locs ls hl hP hS)
theorem zV_if_ne (C : zCx Γ A p s m args c own cc nL) {x : Int} {off : Int} (tgt : Nat) (d : decode cc pc = .ok (.ifCond .ne off, 3)) (ht : (pc : Int) + off = (tgt : Int)) (hx : -2147483648 ≤ x ∧ x ≤ 2147483647) (hp : pc + 3 = n) (kt : ¬ x = 0 → zV Γ A p l e R s m args below meth c cells slots Q tgt lv st μ) (kf : x = 0 → zV Γ A p l e R s m args below meth c cells slots Q n lv st μ) : zV Γ A p l e R s m args below meth c cells slots Q pc lv (.int (zi x) :: st) μ := by
  subst hp
  intro H locs ls hl hP hS
  have hy : -2147483648 ≤ (0 : Int) ∧ (0 : Int) ≤ 2147483647 := by decide
  have hc := zi_eq hx hy
  rw [zi_0] at hc
  exact lv_if_ne C.1 C.2.1 d ht (fun q => kt (fun z => q (hc.mpr z)) H locs ls hl hP hS) (fun q => kf (hc.mp q) H locs ls hl hP hS)
theorem zV_icmp_lt (C : zCx Γ A p s m args c own cc nL) {x y : Int} {off : Int} (tgt : Nat) (d : decode cc pc = .ok (.if_icmp .lt off, 3)) (ht : (pc : Int) + off = (tgt : Int)) (hx : -2147483648 ≤ x ∧ x ≤ 2147483647) (hy : -2147483648 ≤ y ∧ y ≤ 2147483647) (hp : pc + 3 = n) (kt : x < y → zV Γ A p l e R s m args below meth c cells slots Q tgt lv st μ) (kf : y ≤ x → zV Γ A p l e R s m args below meth c cells slots Q n lv st μ) : zV Γ A p l e R s m args below meth c cells slots Q pc lv (.int (zi y) :: .int (zi x) :: st) μ := by
  subst hp
  intro H locs ls hl hP hS
  have hc := zi_lt hx hy
  exact lv_icmp_lt C.1 C.2.1 d ht (fun q => kt (hc.mp q) H locs ls hl hP hS) (fun q => kf (Int.not_lt.mp (fun z => q (hc.mpr z))) H locs ls hl hP hS)
theorem zV_if_lt (C : zCx Γ A p s m args c own cc nL) {x : Int} {off : Int} (tgt : Nat) (d : decode cc pc = .ok (.ifCond .lt off, 3)) (ht : (pc : Int) + off = (tgt : Int)) (hx : -2147483648 ≤ x ∧ x ≤ 2147483647) (hp : pc + 3 = n) (kt : x < 0 → zV Γ A p l e R s m args below meth c cells slots Q tgt lv st μ) (kf : 0 ≤ x → zV Γ A p l e R s m args below meth c cells slots Q n lv st μ) : zV Γ A p l e R s m args below meth c cells slots Q pc lv (.int (zi x) :: st) μ := by
  subst hp
  intro H locs ls hl hP hS
  have hy : -2147483648 ≤ (0 : Int) ∧ (0 : Int) ≤ 2147483647 := by decide
  have hc := zi_lt hx hy
  rw [zi_0] at hc
  exact lv_if_lt C.1 C.2.1 d ht (fun q => kt (hc.mp q) H locs ls hl hP hS) (fun q => kf (Int.not_lt.mp (fun z => q (hc.mpr z))) H locs ls hl hP hS)
theorem zV_icmp_ge (C : zCx Γ A p s m args c own cc nL) {x y : Int} {off : Int} (tgt : Nat) (d : decode cc pc = .ok (.if_icmp .ge off, 3)) (ht : (pc : Int) + off = (tgt : Int)) (hx : -2147483648 ≤ x ∧ x ≤ 2147483647) (hy : -2147483648 ≤ y ∧ y ≤ 2147483647) (hp : pc + 3 = n) (kt : y ≤ x → zV Γ A p l e R s m args below meth c cells slots Q tgt lv st μ) (kf : x < y → zV Γ A p l e R s m args below meth c cells slots Q n lv st μ) : zV Γ A p l e R s m args below meth c cells slots Q pc lv (.int (zi y) :: .int (zi x) :: st) μ := by
  subst hp
  intro H locs ls hl hP hS
  have hc := zi_le hy hx
  exact lv_icmp_ge C.1 C.2.1 d ht (fun q => kt (hc.mp q) H locs ls hl hP hS) (fun q => kf (Int.not_le.mp (fun z => q (hc.mpr z))) H locs ls hl hP hS)
theorem zV_if_ge (C : zCx Γ A p s m args c own cc nL) {x : Int} {off : Int} (tgt : Nat) (d : decode cc pc = .ok (.ifCond .ge off, 3)) (ht : (pc : Int) + off = (tgt : Int)) (hx : -2147483648 ≤ x ∧ x ≤ 2147483647) (hp : pc + 3 = n) (kt : 0 ≤ x → zV Γ A p l e R s m args below meth c cells slots Q tgt lv st μ) (kf : x < 0 → zV Γ A p l e R s m args below meth c cells slots Q n lv st μ) : zV Γ A p l e R s m args below meth c cells slots Q pc lv (.int (zi x) :: st) μ := by
  subst hp
  intro H locs ls hl hP hS
  have hy : -2147483648 ≤ (0 : Int) ∧ (0 : Int) ≤ 2147483647 := by decide
  have hc := zi_le hy hx
  rw [zi_0] at hc
  exact lv_if_ge C.1 C.2.1 d ht (fun q => kt (hc.mp q) H locs ls hl hP hS) (fun q => kf (Int.not_le.mp (fun z => q (hc.mpr z))) H locs ls hl hP hS)
theorem zV_icmp_gt (C : zCx Γ A p s m args c own cc nL) {x y : Int} {off : Int} (tgt : Nat) (d : decode cc pc = .ok (.if_icmp .gt off, 3)) (ht : (pc : Int) + off = (tgt : Int)) (hx : -2147483648 ≤ x ∧ x ≤ 2147483647) (hy : -2147483648 ≤ y ∧ y ≤ 2147483647) (hp : pc + 3 = n) (kt : y < x → zV Γ A p l e R s m args below meth c cells slots Q tgt lv st μ) (kf : x ≤ y → zV Γ A p l e R s m args below meth c cells slots Q n lv st μ) : zV Γ A p l e R s m args below meth c cells slots Q pc lv (.int (zi y) :: .int (zi x) :: st) μ := by
  subst hp
  intro H locs ls hl hP hS
  have hc := zi_lt hy hx
  exact lv_icmp_gt C.1 C.2.1 d ht (fun q => kt (hc.mp q) H locs ls hl hP hS) (fun q => kf (Int.not_lt.mp (fun z => q (hc.mpr z))) H locs ls hl hP hS)
theorem zV_if_gt (C : zCx Γ A p s m args c own cc nL) {x : Int} {off : Int} (tgt : Nat) (d : decode cc pc = .ok (.ifCond .gt off, 3)) (ht : (pc : Int) + off = (tgt : Int)) (hx : -2147483648 ≤ x ∧ x ≤ 2147483647) (hp : pc + 3 = n) (kt : 0 < x → zV Γ A p l e R s m args below meth c cells slots Q tgt lv st μ) (kf : x ≤ 0 → zV Γ A p l e R s m args below meth c cells slots Q n lv st μ) : zV Γ A p l e R s m args below meth c cells slots Q pc lv (.int (zi x) :: st) μ := by
  subst hp
  intro H locs ls hl hP hS
  have hy : -2147483648 ≤ (0 : Int) ∧ (0 : Int) ≤ 2147483647 := by decide
  have hc := zi_lt hy hx
  rw [zi_0] at hc
  exact lv_if_gt C.1 C.2.1 d ht (fun q => kt (hc.mp q) H locs ls hl hP hS) (fun q => kf (Int.not_lt.mp (fun z => q (hc.mpr z))) H locs ls hl hP hS)
theorem zV_icmp_le (C : zCx Γ A p s m args c own cc nL) {x y : Int} {off : Int} (tgt : Nat) (d : decode cc pc = .ok (.if_icmp .le off, 3)) (ht : (pc : Int) + off = (tgt : Int)) (hx : -2147483648 ≤ x ∧ x ≤ 2147483647) (hy : -2147483648 ≤ y ∧ y ≤ 2147483647) (hp : pc + 3 = n) (kt : x ≤ y → zV Γ A p l e R s m args below meth c cells slots Q tgt lv st μ) (kf : y < x → zV Γ A p l e R s m args below meth c cells slots Q n lv st μ) : zV Γ A p l e R s m args below meth c cells slots Q pc lv (.int (zi y) :: .int (zi x) :: st) μ := by
  subst hp
  intro H locs ls hl hP hS
  have hc := zi_le hx hy
  exact lv_icmp_le C.1 C.2.1 d ht (fun q => kt (hc.mp q) H locs ls hl hP hS) (fun q => kf (Int.not_le.mp (fun z => q (hc.mpr z))) H locs ls hl hP hS)
theorem zV_if_le (C : zCx Γ A p s m args c own cc nL) {x : Int} {off : Int} (tgt : Nat) (d : decode cc pc = .ok (.ifCond .le off, 3)) (ht : (pc : Int) + off = (tgt : Int)) (hx : -2147483648 ≤ x ∧ x ≤ 2147483647) (hp : pc + 3 = n) (kt : x ≤ 0 → zV Γ A p l e R s m args below meth c cells slots Q tgt lv st μ) (kf : 0 < x → zV Γ A p l e R s m args below meth c cells slots Q n lv st μ) : zV Γ A p l e R s m args below meth c cells slots Q pc lv (.int (zi x) :: st) μ := by
  subst hp
  intro H locs ls hl hP hS
  have hy : -2147483648 ≤ (0 : Int) ∧ (0 : Int) ≤ 2147483647 := by decide
  have hc := zi_le hx hy
  rw [zi_0] at hc
  exact lv_if_le C.1 C.2.1 d ht (fun q => kt (hc.mp q) H locs ls hl hP hS) (fun q => kf (Int.not_le.mp (fun z => q (hc.mpr z))) H locs ls hl hP hS)
theorem zV_goto (C : zCx Γ A p s m args c own cc nL) {off : Int} (tgt : Nat) (d : decode cc pc = .ok (.goto off, 3)) (ht : (pc : Int) + off = (tgt : Int)) (k : zV Γ A p l e R s m args below meth c cells slots Q tgt lv st μ) : zV Γ A p l e R s m args below meth c cells slots Q pc lv st μ := by
  intro H locs ls hl hP hS
  exact lv_goto C.1 C.2.1 d ht (k H locs ls hl hP hS)
theorem zV_lcmp_lt (C : zCx Γ A p s m args c own cc nL) {x y : Int} {off : Int} (tgt : Nat) (d0 : decode cc pc = .ok (.lcmp, 1)) (d : decode cc (pc + 1) = .ok (.ifCond .lt off, 3)) (ht : ((pc + 1 : Nat) : Int) + off = (tgt : Int)) (hx : -9223372036854775808 ≤ x ∧ x ≤ 9223372036854775807) (hy : -9223372036854775808 ≤ y ∧ y ≤ 9223372036854775807) (hp : pc + 4 = n) (kt : x < y → zV Γ A p l e R s m args below meth c cells slots Q tgt lv st μ) (kf : y ≤ x → zV Γ A p l e R s m args below meth c cells slots Q n lv st μ) : zV Γ A p l e R s m args below meth c cells slots Q pc lv (.long (zl y) :: .long (zl x) :: st) μ := by
  subst hp
  intro H locs ls hl hP hS
  have hc := Iff.trans (lg_cmp_lt (zl x) (zl y)) (zl_lt hx hy)
  refine W.lcmp C.1 C.2.1 d0 ?_
  exact lv_if_lt C.1 C.2.1 d ht (fun q => kt (hc.mp q) H locs ls hl hP hS) (fun q => kf (Int.not_lt.mp (fun z => q (hc.mpr z))) H locs ls hl hP hS)
theorem zV_lcmp_le (C : zCx Γ A p s m args c own cc nL) {x y : Int} {off : Int} (tgt : Nat) (d0 : decode cc pc = .ok (.lcmp, 1)) (d : decode cc (pc + 1) = .ok (.ifCond .le off, 3)) (ht : ((pc + 1 : Nat) : Int) + off = (tgt : Int)) (hx : -9223372036854775808 ≤ x ∧ x ≤ 9223372036854775807) (hy : -9223372036854775808 ≤ y ∧ y ≤ 9223372036854775807) (hp : pc + 4 = n) (kt : x ≤ y → zV Γ A p l e R s m args below meth c cells slots Q tgt lv st μ) (kf : y < x → zV Γ A p l e R s m args below meth c cells slots Q n lv st μ) : zV Γ A p l e R s m args below meth c cells slots Q pc lv (.long (zl y) :: .long (zl x) :: st) μ := by
  subst hp
  intro H locs ls hl hP hS
  have hc := Iff.trans (lg_cmp_le (zl x) (zl y)) (zl_le hx hy)
  refine W.lcmp C.1 C.2.1 d0 ?_
  exact lv_if_le C.1 C.2.1 d ht (fun q => kt (hc.mp q) H locs ls hl hP hS) (fun q => kf (Int.not_le.mp (fun z => q (hc.mpr z))) H locs ls hl hP hS)
theorem zV_lcmp_gt (C : zCx Γ A p s m args c own cc nL) {x y : Int} {off : Int} (tgt : Nat) (d0 : decode cc pc = .ok (.lcmp, 1)) (d : decode cc (pc + 1) = .ok (.ifCond .gt off, 3)) (ht : ((pc + 1 : Nat) : Int) + off = (tgt : Int)) (hx : -9223372036854775808 ≤ x ∧ x ≤ 9223372036854775807) (hy : -9223372036854775808 ≤ y ∧ y ≤ 9223372036854775807) (hp : pc + 4 = n) (kt : y < x → zV Γ A p l e R s m args below meth c cells slots Q tgt lv st μ) (kf : x ≤ y → zV Γ A p l e R s m args below meth c cells slots Q n lv st μ) : zV Γ A p l e R s m args below meth c cells slots Q pc lv (.long (zl y) :: .long (zl x) :: st) μ := by
  subst hp
  intro H locs ls hl hP hS
  have hc := Iff.trans (lg_cmp_gt (zl x) (zl y)) (zl_lt hy hx)
  refine W.lcmp C.1 C.2.1 d0 ?_
  exact lv_if_gt C.1 C.2.1 d ht (fun q => kt (hc.mp q) H locs ls hl hP hS) (fun q => kf (Int.not_lt.mp (fun z => q (hc.mpr z))) H locs ls hl hP hS)
theorem zV_lcmp_ge (C : zCx Γ A p s m args c own cc nL) {x y : Int} {off : Int} (tgt : Nat) (d0 : decode cc pc = .ok (.lcmp, 1)) (d : decode cc (pc + 1) = .ok (.ifCond .ge off, 3)) (ht : ((pc + 1 : Nat) : Int) + off = (tgt : Int)) (hx : -9223372036854775808 ≤ x ∧ x ≤ 9223372036854775807) (hy : -9223372036854775808 ≤ y ∧ y ≤ 9223372036854775807) (hp : pc + 4 = n) (kt : y ≤ x → zV Γ A p l e R s m args below meth c cells slots Q tgt lv st μ) (kf : x < y → zV Γ A p l e R s m args below meth c cells slots Q n lv st μ) : zV Γ A p l e R s m args below meth c cells slots Q pc lv (.long (zl y) :: .long (zl x) :: st) μ := by
  subst hp
  intro H locs ls hl hP hS
  have hc := Iff.trans (lg_cmp_ge (zl x) (zl y)) (zl_le hy hx)
  refine W.lcmp C.1 C.2.1 d0 ?_
  exact lv_if_ge C.1 C.2.1 d ht (fun q => kt (hc.mp q) H locs ls hl hP hS) (fun q => kf (Int.not_le.mp (fun z => q (hc.mpr z))) H locs ls hl hP hS)
theorem zV_lcmp_eq (C : zCx Γ A p s m args c own cc nL) {x y : Int} {off : Int} (tgt : Nat) (d0 : decode cc pc = .ok (.lcmp, 1)) (d : decode cc (pc + 1) = .ok (.ifCond .eq off, 3)) (ht : ((pc + 1 : Nat) : Int) + off = (tgt : Int)) (hx : -9223372036854775808 ≤ x ∧ x ≤ 9223372036854775807) (hy : -9223372036854775808 ≤ y ∧ y ≤ 9223372036854775807) (hp : pc + 4 = n) (kt : x = y → zV Γ A p l e R s m args below meth c cells slots Q tgt lv st μ) (kf : ¬ x = y → zV Γ A p l e R s m args below meth c cells slots Q n lv st μ) : zV Γ A p l e R s m args below meth c cells slots Q pc lv (.long (zl y) :: .long (zl x) :: st) μ := by
  subst hp
  intro H locs ls hl hP hS
  have hc := Iff.trans (lg_cmp_eq (zl x) (zl y)) (zl_eq hx hy)
  refine W.lcmp C.1 C.2.1 d0 ?_
  exact lv_if_eq C.1 C.2.1 d ht (fun q => kt (hc.mp q) H locs ls hl hP hS) (fun q => kf (fun z => q (hc.mpr z)) H locs ls hl hP hS)
theorem zV_lcmp_ne (C : zCx Γ A p s m args c own cc nL) {x y : Int} {off : Int} (tgt : Nat) (d0 : decode cc pc = .ok (.lcmp, 1)) (d : decode cc (pc + 1) = .ok (.ifCond .ne off, 3)) (ht : ((pc + 1 : Nat) : Int) + off = (tgt : Int)) (hx : -9223372036854775808 ≤ x ∧ x ≤ 9223372036854775807) (hy : -9223372036854775808 ≤ y ∧ y ≤ 9223372036854775807) (hp : pc + 4 = n) (kt : ¬ x = y → zV Γ A p l e R s m args below meth c cells slots Q tgt lv st μ) (kf : x = y → zV Γ A p l e R s m args below meth c cells slots Q n lv st μ) : zV Γ A p l e R s m args below meth c cells slots Q pc lv (.long (zl y) :: .long (zl x) :: st) μ := by
  subst hp
  intro H locs ls hl hP hS
  have hc := Iff.trans (lg_cmp_eq (zl x) (zl y)) (zl_eq hx hy)
  refine W.lcmp C.1 C.2.1 d0 ?_
  exact lv_if_ne C.1 C.2.1 d ht (fun q => kt (fun z => q (hc.mpr z)) H locs ls hl hP hS) (fun q => kf (hc.mp q) H locs ls hl hP hS)
theorem zV_tswIn (C : zCx Γ A p s m args c own cc nL) {dflt lo hi off : Int} {offs : Array Int} {len : Nat} {x : Int} (tgt : Nat) (d : decode cc pc = .ok (.tableswitch dflt lo hi offs, len)) (hx : -2147483648 ≤ x ∧ x ≤ 2147483647) (h1 : lo ≤ x) (h2 : x ≤ hi) (ho : offs[(x - lo).toNat]? = some off) (ht : (pc : Int) + off = (tgt : Int)) (k : zV Γ A p l e R s m args below meth c cells slots Q tgt lv st μ) : zV Γ A p l e R s m args below meth c cells slots Q pc lv (.int (zi x) :: st) μ := by
  intro H locs ls hl hP hS
  exact lv_tableIn C.1 C.2.1 d (by rw [zi_toInt hx]; omega) (by rw [zi_toInt hx]; omega) (by rw [zi_toInt hx]; exact ho) ht (k H locs ls hl hP hS)
theorem zV_tswOut (C : zCx Γ A p s m args c own cc nL) {dflt lo hi : Int} {offs : Array Int} {len : Nat} {x : Int} (tgt : Nat) (d : decode cc pc = .ok (.tableswitch dflt lo hi offs, len)) (hx : -2147483648 ≤ x ∧ x ≤ 2147483647) (h1 : x < lo ∨ hi < x) (ht : (pc : Int) + dflt = (tgt : Int)) (k : zV Γ A p l e R s m args below meth c cells slots Q tgt lv st μ) : zV Γ A p l e R s m args below meth c cells slots Q pc lv (.int (zi x) :: st) μ := by
  intro H locs ls hl hP hS
  exact lv_tableOut C.1 C.2.1 d (by rw [zi_toInt hx]; omega) ht (k H locs ls hl hP hS)
theorem zV_lsw (C : zCx Γ A p s m args c own cc nL) {dflt off : Int} {ps : Array (Int × Int)} {len : Nat} {x : Int} (tgt : Nat) (d : decode cc pc = .ok (.lookupswitch dflt ps, len)) (hx : -2147483648 ≤ x ∧ x ≤ 2147483647) (hs : (ps.toList.zip (ps.toList.drop 1)).all (fun (a, next) => a.1 < next.1) = true) (ho : Op.lookupswitch.offset ps.toList dflt x = off) (ht : (pc : Int) + off = (tgt : Int)) (k : zV Γ A p l e R s m args below meth c cells slots Q tgt lv st μ) : zV Γ A p l e R s m args below meth c cells slots Q pc lv (.int (zi x) :: st) μ := by
  intro H locs ls hl hP hS
  exact lv_lookup C.1 C.2.1 d hs (by rw [zi_toInt hx]; exact ho) ht (k H locs ls hl hP hS)
end ZROWS
end
section
/-! fields, rows, calls, answers, over zV -/
/-- a class of the world -/
def zCl (ci : Nat) (CN : String) (T : u_T) (N : Nat) (ty : Nat → FieldType) : Prop := vwCl[ci]? = some (CN, T, N) ∧ (∀ w ∈ u_ws CN T N, w ∈ tblG) ∧ (∀ k, k < N → parseFieldDescriptor (T k).2.2.1 = some (ty k)) ∧ (∀ a, a < N → ∀ b, b < N → a ≠ b → (T a).2.1 ≠ (T b).2.1)
section ZHEAP
variable {Γ : zC} {A : Nat → Prop} {p : Program} {l : Launch} {e : Env} {R : Room} {s : State} {m : MethodId} {args : Array Value} {below : List Frame} {meth : Method} {c : Code} {cells slots : Nat} {Q : State → Prop} {own : String} {cc : ByteArray} {nL pc n : Nat} {lv st : List Value} {μ : zMem}
theorem zV_getI {ci N f idx g : Nat} {k fi : Int} {CN : String} {T : u_T} {ty : Nat → FieldType} {sp : List (Option (Nat × Int))} (C : zCx Γ A p s m args c own cc nL) (b : zCl ci CN T N ty) (hl : Cond.fieldLink own idx (T f).1 (T f).2.1 (T f).2.2.1 ∈ tblG) (d : decode cc pc = .ok (.getfield idx, 3)) (hs : zsh g k = some (.inl (ci, sp))) (hsp : sp[f]? = some none) (hf : f < N) (hfi : (f : Int) = fi) (hp : pc + 3 = n)
    (kk : zV Γ A p l e R s m args below meth c cells slots Q n lv (.int (zi (μ g k fi)) :: st) μ) : zV Γ A p l e R s m args below meth c cells slots Q pc lv (.ref (za Γ g k) :: st) μ := by
  subst hp
  subst hfi
  intro H locs ls hl9 hP hS
  obtain ⟨q0, -, hq⟩ := zws_at (Γ := Γ) hs
  refine va_get (C := CN) (T := T) (N := N) (ci := ci) (fs := zobj Γ (μ g k) 0 sp) C.1 C.2.1 C.2.2.2.2.1 b.2.1 C.2.2.2.1 C.2.2.2.2.2.1 hP q0 (hq μ) b.1 f hf (C.2.2.2.2.1 _ hl) (fun _ h9 => h9) ?_ d (kk H locs ls hl9 hP hS)
  rw [zobj_get, hsp]
  simp
theorem zV_getR {ci N f idx g : Nat} {k : Int} {CN : String} {T : u_T} {ty : Nat → FieldType} {sp : List (Option (Nat × Int))} {q : Nat × Int} (C : zCx Γ A p s m args c own cc nL) (b : zCl ci CN T N ty) (hl : Cond.fieldLink own idx (T f).1 (T f).2.1 (T f).2.2.1 ∈ tblG) (d : decode cc pc = .ok (.getfield idx, 3)) (hs : zsh g k = some (.inl (ci, sp))) (hsp : sp[f]? = some (some q)) (hf : f < N) (hp : pc + 3 = n)
    (kk : zV Γ A p l e R s m args below meth c cells slots Q n lv (.ref (za Γ q.1 q.2) :: st) μ) : zV Γ A p l e R s m args below meth c cells slots Q pc lv (.ref (za Γ g k) :: st) μ := by
  subst hp
  intro H locs ls hl9 hP hS
  obtain ⟨q0, -, hq⟩ := zws_at (Γ := Γ) hs
  refine va_get (C := CN) (T := T) (N := N) (ci := ci) (fs := zobj Γ (μ g k) 0 sp) C.1 C.2.1 C.2.2.2.2.1 b.2.1 C.2.2.2.1 C.2.2.2.2.2.1 hP q0 (hq μ) b.1 f hf (C.2.2.2.2.1 _ hl) (fun _ h9 => h9) ?_ d (kk H locs ls hl9 hP hS)
  rw [zobj_get, hsp]
  simp
theorem zup_cell {g : Nat} {k i v : Int} (j : Int) : zup μ g k i v g k j = if j = i then v else μ g k j := by
  simp [zup]
theorem zup_else {g : Nat} {k i v : Int} (g' : Nat) (k' : Int) : (g' = g ∧ k' = k) ∨ zup μ g k i v g' k' = μ g' k' := by
  by_cases h : g' = g ∧ k' = k
  · exact Or.inl h
  · right
    funext j
    simp only [zup]
    rw [if_neg (fun q => h ⟨q.1, q.2.1⟩)]
theorem zV_putG {ci N f idx g : Nat} {k fi v : Int} {CN : String} {T : u_T} {ty : Nat → FieldType} {sp : List (Option (Nat × Int))} (C : zCx Γ A p s m args c own cc nL) (b : zCl ci CN T N ty) (hl : Cond.fieldLink own idx (T f).1 (T f).2.1 (T f).2.2.1 ∈ tblG) (d : decode cc pc = .ok (.putfield idx, 3)) (hs : zsh g k = some (.inl (ci, sp))) (hsp : sp[f]? = some none) (hf : f < N) (hfi : (f : Int) = fi) (hfin : (T f).2.2.2 = false) (hn : narrow (ty f) (.int (zi v)) = .int (zi v)) (hfit : fits (ty f) (.int (zi v)) = true) (hp : pc + 3 = n)
    (kk : zV Γ A p l e R s m args below meth c cells slots Q n lv st (zup μ g k fi v)) : zV Γ A p l e R s m args below meth c cells slots Q pc lv (.int (zi v) :: .ref (za Γ g k) :: st) μ := by
  subst hp
  subst hfi
  intro H locs ls hl9 hP hS
  obtain ⟨q0, hq0, hq⟩ := zws_at (Γ := Γ) hs
  refine va_put (C := CN) (T := T) (N := N) (ci := ci) (fs := zobj Γ (μ g k) 0 sp) (v := .int (zi v)) (ty := ty f) C.1 C.2.1 C.2.2.2.2.1 b.2.1 ty b.2.2.1 b.2.2.2 C.2.2.2.1 C.2.2.2.2.2.1 hP (zws_D C.2.2.2.2.2.2.1 C.2.2.2.2.2.2.2.2) hS q0 (hq μ) b.1 f hf (C.2.2.2.2.1 _ hl) (fun _ h9 => h9) hfin (b.2.2.1 f hf) hn hfit (by rw [zobj_len]; exact (List.getElem?_eq_some_iff.mp hsp).1) d (fun H1 locs1 hP1 _ hS1 => kk H1 locs1 ls hl9 ?_ hS1)
  have e1 : (zobj Γ (μ g k) 0 sp).set f (.int (zi v)) = zobj Γ (zup μ g k (f : Int) v g k) 0 sp := zobj_set hsp (fun j => zup_cell j)
  rw [e1] at hP1
  have e2 := zws_set (Γ := Γ) (μ := μ) (μ' := zup μ g k (f : Int) v) hs hq0 zup_else
  rw [← e2]
  exact hP1
theorem zV_putI {ci N f idx g : Nat} {k fi v : Int} {CN : String} {T : u_T} {ty : Nat → FieldType} {sp : List (Option (Nat × Int))} (C : zCx Γ A p s m args c own cc nL) (b : zCl ci CN T N ty) (hl : Cond.fieldLink own idx (T f).1 (T f).2.1 (T f).2.2.1 ∈ tblG) (d : decode cc pc = .ok (.putfield idx, 3)) (hs : zsh g k = some (.inl (ci, sp))) (hsp : sp[f]? = some none) (hf : f < N) (hfi : (f : Int) = fi) (hfin : (T f).2.2.2 = false) (hty : ty f = .int) (hp : pc + 3 = n)
    (kk : zV Γ A p l e R s m args below meth c cells slots Q n lv st (zup μ g k fi v)) : zV Γ A p l e R s m args below meth c cells slots Q pc lv (.int (zi v) :: .ref (za Γ g k) :: st) μ :=
  zV_putG C b hl d hs hsp hf hfi hfin (by rw [hty]; rfl) (by rw [hty]; rfl) hp kk
theorem zV_putZ {ci N f idx g : Nat} {k fi v : Int} {CN : String} {T : u_T} {ty : Nat → FieldType} {sp : List (Option (Nat × Int))} (C : zCx Γ A p s m args c own cc nL) (b : zCl ci CN T N ty) (hl : Cond.fieldLink own idx (T f).1 (T f).2.1 (T f).2.2.1 ∈ tblG) (d : decode cc pc = .ok (.putfield idx, 3)) (hs : zsh g k = some (.inl (ci, sp))) (hsp : sp[f]? = some none) (hf : f < N) (hfi : (f : Int) = fi) (hfin : (T f).2.2.2 = false) (hty : ty f = .boolean) (hv : v = 0 ∨ v = 1) (hp : pc + 3 = n)
    (kk : zV Γ A p l e R s m args below meth c cells slots Q n lv st (zup μ g k fi v)) : zV Γ A p l e R s m args below meth c cells slots Q pc lv (.int (zi v) :: .ref (za Γ g k) :: st) μ :=
  zV_putG C b hl d hs hsp hf hfi hfin (by rw [hty]; exact (zi_z hv).1) (by rw [hty]; exact (zi_z hv).2) hp kk
theorem zV_iald {g N : Nat} {k z : Int} (C : zCx Γ A p s m args c own cc nL) (d : decode cc pc = .ok (.iaload, 1)) (hs : zsh g k = some (.inr (.inl N))) (hz : 0 ≤ z ∧ z < N) (hN : N ≤ 1000) (hp : pc + 1 = n)
    (kk : zV Γ A p l e R s m args below meth c cells slots Q n lv (.int (zi (μ g k z)) :: st) μ) : zV Γ A p l e R s m args below meth c cells slots Q pc lv (.int (zi z) :: .ref (za Γ g k) :: st) μ := by
  subst hp
  intro H locs ls hl9 hP hS
  obtain ⟨q0, hq0, hq⟩ := zws_at (Γ := Γ) hs
  have h := kk H locs ls hl9 hP hS
  refine va_iald C.1 C.2.1 C.2.2.2.2.2.1 hP q0 0 (hq μ) rfl (zi_in (n := N) hz (Nat.le_trans hN (by decide))) d ?_
  rw [zi_clamp (by omega), Int.toNat_of_nonneg hz.1]
  exact h
theorem zV_lald {g N : Nat} {k z : Int} (C : zCx Γ A p s m args c own cc nL) (d : decode cc pc = .ok (.laload, 1)) (hs : zsh g k = some (.inr (.inr (.inl N)))) (hz : 0 ≤ z ∧ z < N) (hN : N ≤ 1000) (hp : pc + 1 = n)
    (kk : zV Γ A p l e R s m args below meth c cells slots Q n lv (.long (zl (μ g k z)) :: st) μ) : zV Γ A p l e R s m args below meth c cells slots Q pc lv (.int (zi z) :: .ref (za Γ g k) :: st) μ := by
  subst hp
  intro H locs ls hl9 hP hS
  obtain ⟨q0, hq0, hq⟩ := zws_at (Γ := Γ) hs
  have h := kk H locs ls hl9 hP hS
  refine va_lald C.1 C.2.1 C.2.2.2.2.2.1 hP q0 1 (hq μ) rfl (zi_in (n := N) hz (Nat.le_trans hN (by decide))) d ?_
  rw [zi_clamp (by omega), Int.toNat_of_nonneg hz.1]
  exact h
theorem zV_iast {g N : Nat} {k z v : Int} (C : zCx Γ A p s m args c own cc nL) (d : decode cc pc = .ok (.iastore, 1)) (hs : zsh g k = some (.inr (.inl N))) (hz : 0 ≤ z ∧ z < N) (hN : N ≤ 1000) (hp : pc + 1 = n)
    (kk : zV Γ A p l e R s m args below meth c cells slots Q n lv st (zup μ g k z v)) : zV Γ A p l e R s m args below meth c cells slots Q pc lv (.int (zi v) :: .int (zi z) :: .ref (za Γ g k) :: st) μ := by
  subst hp
  intro H locs ls hl9 hP hS
  obtain ⟨q0, hq0, hq⟩ := zws_at (Γ := Γ) hs
  refine va_iast C.1 C.2.1 C.2.2.2.2.2.1 hP (zws_D C.2.2.2.2.2.2.1 C.2.2.2.2.2.2.2.2) hS q0 0 (hq μ) rfl (zi_in hz (by omega)) d (fun H1 locs1 hP1 _ hS1 => kk H1 locs1 ls hl9 ?_ hS1)
  have e2 := zws_set (Γ := Γ) (μ := μ) (μ' := zup μ g k z v) hs hq0 zup_else
  have e1 : zcell Γ (zup μ g k z v g k) (.inr (.inl N)) = .inl (zY Γ 0, N, .inl (upd (fun j : Nat => zi (μ g k (j : Int))) (zi z).toNatClampNeg (zi v))) := by
    simp only [zcell]
    congr 4
    funext j
    rw [zup_cell, zi_clamp (by omega)]
    simp only [upd]
    by_cases hj : (j : Int) = z
    · rw [if_pos hj, if_pos (by omega)]
    · rw [if_neg hj, if_neg (by omega)]
  rw [← e2, e1]
  exact hP1
theorem zV_last {g N : Nat} {k z v : Int} (C : zCx Γ A p s m args c own cc nL) (d : decode cc pc = .ok (.lastore, 1)) (hs : zsh g k = some (.inr (.inr (.inl N)))) (hz : 0 ≤ z ∧ z < N) (hN : N ≤ 1000) (hp : pc + 1 = n)
    (kk : zV Γ A p l e R s m args below meth c cells slots Q n lv st (zup μ g k z v)) : zV Γ A p l e R s m args below meth c cells slots Q pc lv (.long (zl v) :: .int (zi z) :: .ref (za Γ g k) :: st) μ := by
  subst hp
  intro H locs ls hl9 hP hS
  obtain ⟨q0, hq0, hq⟩ := zws_at (Γ := Γ) hs
  refine va_last C.1 C.2.1 C.2.2.2.2.2.1 hP (zws_D C.2.2.2.2.2.2.1 C.2.2.2.2.2.2.2.2) hS q0 1 (hq μ) rfl (zi_in hz (by omega)) d (fun H1 locs1 hP1 _ hS1 => kk H1 locs1 ls hl9 ?_ hS1)
  have e2 := zws_set (Γ := Γ) (μ := μ) (μ' := zup μ g k z v) hs hq0 zup_else
  have e1 : zcell Γ (zup μ g k z v g k) (.inr (.inr (.inl N))) = .inl (zY Γ 1, N, .inr (.inl (vp_updL (fun j : Nat => zl (μ g k (j : Int))) (zi z).toNatClampNeg (zl v)))) := by
    simp only [zcell]
    congr 5
    funext j
    rw [zup_cell, zi_clamp (by omega)]
    simp only [vp_updL]
    by_cases hj : (j : Int) = z
    · rw [if_pos hj, if_pos (by omega)]
    · rw [if_neg hj, if_neg (by omega)]
  rw [← e2, e1]
  exact hP1
theorem zV_aald {g N t g2 : Nat} {k z b : Int} (C : zCx Γ A p s m args c own cc nL) (d : decode cc pc = .ok (.aaload, 1)) (hs : zsh g k = some (.inr (.inr (.inr (t, N, g2, b))))) (hz : 0 ≤ z ∧ z < N) (hN : N ≤ 1000) (ht : t < 3) (hp : pc + 1 = n)
    (kk : zV Γ A p l e R s m args below meth c cells slots Q n lv (.ref (za Γ g2 (b + z)) :: st) μ) : zV Γ A p l e R s m args below meth c cells slots Q pc lv (.int (zi z) :: .ref (za Γ g k) :: st) μ := by
  subst hp
  intro H locs ls hl9 hP hS
  obtain ⟨q0, hq0, hq⟩ := zws_at (Γ := Γ) hs
  have h := kk H locs ls hl9 hP hS
  have e1 : va_rf ((fun j : Nat => some (za Γ g2 (b + (j : Int)))) (zi z).toNatClampNeg) = .ref (za Γ g2 (b + z)) := by
    rw [zi_clamp (by omega)]
    simp only [va_rf, Int.toNat_of_nonneg hz.1]
  have h3 : t = 0 ∨ t = 1 ∨ t = 2 := by omega
  rcases h3 with rfl | rfl | rfl
  · refine va_aldq C.1 C.2.1 C.2.2.2.2.2.1 hP q0 2 (hq μ) rfl (zi_in (n := N) hz (Nat.le_trans hN (by decide))) d ?_
    rw [e1]
    exact h
  · refine va_aldq C.1 C.2.1 C.2.2.2.2.2.1 hP q0 3 (hq μ) rfl (zi_in (n := N) hz (Nat.le_trans hN (by decide))) d ?_
    rw [e1]
    exact h
  · refine va_aldq C.1 C.2.1 C.2.2.2.2.2.1 hP q0 4 (hq μ) rfl (zi_in (n := N) hz (Nat.le_trans hN (by decide))) d ?_
    rw [e1]
    exact h
/-! answers -/
theorem zV_ireturn {r : Option Value} {μ' : zMem} {w : Int32} (C : zCx Γ (zAA Γ) p s m args c own cc nL) (hr : meth.sig.returnType = some .int) (hlocks : meth.locks = false) (d : decode cc pc = .ok (.ireturn, 1)) (h1 : some (.int w) = r) (h2 : μ = μ') :
    zV Γ (zAA Γ) p l e R s m args below meth c cells slots (MQ below (zQc Γ r μ') args s cells slots (zAA Γ)) pc lv [.int w] μ := by
  subst h1
  subst h2
  intro H locs ls hl9 hP hS
  exact W.iret C.1 C.2.1 hr (fun t ht hW => ⟨rfl, by rw [ht]; exact hP, hS.F ht⟩) hS.2.2 d hlocks
theorem zV_zreturn {r : Option Value} {μ' : zMem} {w : Int32} {ty : FieldType} (C : zCx Γ (zAA Γ) p s m args c own cc nL) (hr : meth.sig.returnType = some ty) (hlocks : meth.locks = false) (d : decode cc pc = .ok (.ireturn, 1)) (hn : narrow ty (.int w) = .int w) (h1 : some (.int w) = r) (h2 : μ = μ') :
    zV Γ (zAA Γ) p l e R s m args below meth c cells slots (MQ below (zQc Γ r μ') args s cells slots (zAA Γ)) pc lv [.int w] μ := by
  subst h1
  subst h2
  intro H locs ls hl9 hP hS
  exact W.zret C.1 C.2.1 hr hn (fun t ht hW => ⟨rfl, by rw [ht]; exact hP, hS.F ht⟩) hS.2.2 d hlocks
theorem zV_lreturn {r : Option Value} {μ' : zMem} {w : Int64} (C : zCx Γ (zAA Γ) p s m args c own cc nL) (hr : meth.sig.returnType = some .long) (hlocks : meth.locks = false) (d : decode cc pc = .ok (.lreturn, 1)) (h1 : some (.long w) = r) (h2 : μ = μ') :
    zV Γ (zAA Γ) p l e R s m args below meth c cells slots (MQ below (zQc Γ r μ') args s cells slots (zAA Γ)) pc lv [.long w] μ := by
  subst h1
  subst h2
  intro H locs ls hl9 hP hS
  exact W.lret C.1 C.2.1 hr (fun t ht hW => ⟨rfl, by rw [ht]; exact hP, hS.F ht⟩) hS.2.2 d hlocks
theorem zV_areturn {r : Option Value} {μ' : zMem} {a : Nat} {nm : String} (C : zCx Γ (zAA Γ) p s m args c own cc nL) (hr : meth.sig.returnType = some (.object nm)) (hlocks : meth.locks = false) (d : decode cc pc = .ok (.areturn, 1)) (h1 : some (.ref a) = r) (h2 : μ = μ') :
    zV Γ (zAA Γ) p l e R s m args below meth c cells slots (MQ below (zQc Γ r μ') args s cells slots (zAA Γ)) pc lv [.ref a] μ := by
  subst h1
  subst h2
  intro H locs ls hl9 hP hS
  exact W.aret C.1 C.2.1 hr (Or.inl ⟨_, rfl⟩) (Or.inr ⟨_, rfl⟩) (fun t ht hW => ⟨rfl, by rw [ht]; exact hP, hS.F ht⟩) hS.2.2 d hlocks
theorem zV_return {r : Option Value} {μ' : zMem} (C : zCx Γ (zAA Γ) p s m args c own cc nL) (hr : meth.sig.returnType = none) (hlocks : meth.locks = false) (d : decode cc pc = .ok (.return_, 1)) (h1 : none = r) (h2 : μ = μ') :
    zV Γ (zAA Γ) p l e R s m args below meth c cells slots (MQ below (zQc Γ r μ') args s cells slots (zAA Γ)) pc lv [] μ := by
  subst h1
  subst h2
  intro H locs ls hl9 hP hS
  exact W.vret C.1 C.2.1 hr (fun t ht hW => ⟨rfl, by rw [ht]; exact hP, hS.F ht⟩) hS.2.2 d hlocks
/-! calls -/
def zIn (y : zM) (n : Nat) : Prop := zcode y ∈ tblG ∧ Cond.initialized y.1.cls ∈ tblG ∧ (y.1.cls ≠ "java/lang/invoke/MethodHandle" ∧ y.1.cls ≠ "java/lang/invoke/VarHandle" ∧ (parseMethodDescriptor y.1.desc).map (fun d => d.parameters.length) = some n)
def zInV (y : zM) (n : Nat) : Prop := zIn y n ∧ Cond.instanceMethod y.1 ∈ tblG ∧ Cond.selects y.1.cls y.1 y.1 ∈ tblG
def zInS (y : zM) (n : Nat) : Prop := zIn y n ∧ Cond.static y.1 ∈ tblG
def zfit (R : Room) (d maxL : Nat) : Prop := d + 1 ≤ R.frames ∧ 8 + (maxL + 11) + 36 * d ≤ R.locals
theorem zfit_of {d n maxL : Nat} (h : d + 1 ≤ n) (hm : maxL ≤ 17) : zfit (zRm n) d maxL := ⟨h, by show 8 + (maxL + 11) + 36 * d ≤ 36 * n; omega⟩
theorem zgood {y : zM} (hc : zcode y ∈ tblG) : GoodIn tblG (zcode y :: tblG) := by
  intro w hw
  have h1 : w ∈ tblG := by
    rcases List.mem_cons.mp hw with rfl | h
    · exact hc
    · exact h
  exact ⟨h1, good_of_word (List.mem_filter.mp h1).2⟩
theorem zpre {av : List Value} {H : Heap} {locs : List Loc} (C : zCx Γ A p s m args c own cc nL) (hP : va_P (zD Γ) vwCl (zws Γ μ) H) (hS : va_S A s.heap H locs) : PreS s H (va_Pc av (zWd Γ μ)) av := by
  obtain ⟨-, -, -, -, -, hK, hAp, hE, hA⟩ := C
  refine ⟨zblind, fun U hU hW => ⟨rfl, hAp, by rw [hU]; exact hP, va_K.moved hW.alike hK, ?_⟩⟩
  rw [hU]
  exact ((hE.kept hS.2.1).narrow hA).warm hW
theorem zgo {r : Option Value} {μ' : zMem} {H : Heap} {locs : List Loc} {ls : Array Slot} {rest st0 : List Value} {a : Array Value} (hA : ∀ q, zAA Γ q → A q) (hr : va_Run p l e R s m args below meth c H locs cells slots 0 0 (F0 m pc ls st0) rest (zQc Γ r μ' a) (zAA Γ)) (hS : va_S A s.heap H locs)
    (kk : ∀ (H1 : Heap) (locs1 : List Loc), va_P (zD Γ) vwCl (zws Γ μ') H1 → va_S A s.heap H1 locs1 → W p l e R s m args below meth c H1 locs1 cells slots Q (F0 m (pc + 3) ls (r.toList ++ rest))) : W p l e R s m args below meth c H locs cells slots Q (F0 m pc ls st0) := by
  intro T hT X
  obtain ⟨v, st₀, t, T', L, h0, X', hL, e1, e2, ⟨hv, hP, hz, hk⟩, stp⟩ := hr T hT X
  cases hv
  rw [h0] at hz hk
  obtain ⟨t2, a1, b1⟩ := kk T'.heap (locs ++ L) (by rw [e1]; exact hP)
    ⟨Nat.le_trans hS.1 (by rw [e1]; exact hz), fun q h1 h2 => by rw [e1, hk q (Nat.lt_of_lt_of_le h1 hS.1) (fun z => h2 (hA q z))]; exact hS.2.1 q h1 h2, fun q hq => by
      rcases List.mem_append.mp hq with h | h
      · exact hS.2.2 q h
      · exact hA _ (hL q h)⟩ T' rfl X'
  exact ⟨t2, stp t2 a1, b1⟩
theorem zcallB {y : zM} {na d idx : Nat} (C : zCx Γ A p s m args c own cc nL) (b : zIn y na) (hl : Cond.methodLink own idx y.1 ∈ tblG) (hR : zfit R d y.2.2.1) : CallB R s args own idx y.1 y.2.1 y.2.2.1 y.2.2.2 (zcode y :: tblG) (zRm d) 0 0 na :=
  callB_of na C.2.2.2.2.1 (zgood b.1) rfl rfl rfl (C.2.2.2.2.1 _ b.2.1) (C.2.2.2.2.1 _ hl) b.2.2 hR
theorem zV_callV {y : zM} {na d idx g ci N : Nat} {k : Int} {CN : String} {T : u_T} {ty : Nat → FieldType} {sp : List (Option (Nat × Int))} {r : Option Value} {μ' : zMem} (As : List Value) (rest : List Value) (C : zCx Γ A p s m args c own cc nL) (b : zCl ci CN T N ty) (hy : zInV y na) (hl : Cond.methodLink own idx y.1 ∈ tblG) (hM : zRet Γ l d y (.ref (za Γ g k) :: As) μ r μ') (hd : decode cc pc = .ok (.invokevirtual idx, 3)) (hs : zsh g k = some (.inl (ci, sp))) (hcn : y.1.cls = CN) (hna : As.length = na) (hst : As.reverse ++ .ref (za Γ g k) :: rest = st) (hW : (rest.map fun v => v.category).sum ≤ 8) (hR : zfit R d y.2.2.1) (hc : cells ≤ R.cells ∧ slots ≤ R.slots) (hp : pc + 3 = n)
    (kk : zV Γ A p l e R s m args below meth c cells slots Q n lv (r.toList ++ rest) μ') : zV Γ A p l e R s m args below meth c cells slots Q pc lv st μ := by
  subst hp
  subst hst
  intro H locs ls hl9 hP hS
  have hC := C
  obtain ⟨hx, hb, hml, ho, hts, hK, hAp, hE, hA⟩ := C
  obtain ⟨q0, hq0, hq⟩ := zws_at (Γ := Γ) hs
  have hrv := va_recv hK hP b.1 (hq μ)
  have hpr := zpre (av := .ref (za Γ g k) :: As) hC hP hS
  refine zgo hA (va_runV (C := y.1.cls) (As := As) (rest := rest) (b := za Γ g k) ⟨hx, hb, hml, ho, hts⟩ hM ⟨zcallB hC hy.1 hl hR, hts _ hy.2.1, hts _ hy.2.2⟩ ⟨hpr.1, by rw [hcn]; exact hrv, hpr.2⟩ rfl hna (hl9.1.trans hml) rfl (lv_room hW) hd hc) hS (fun H1 locs1 hP1 hS1 => kk H1 locs1 ls hl9 hP1 hS1)
theorem zV_callS {y : zM} {na d idx : Nat} {r : Option Value} {μ' : zMem} (As : List Value) (rest : List Value) (C : zCx Γ A p s m args c own cc nL) (hy : zInS y na) (hl : Cond.methodLink own idx y.1 ∈ tblG) (hM : zRet Γ l d y As μ r μ') (hd : decode cc pc = .ok (.invokestatic idx, 3)) (hna : As.length = na) (hst : As.reverse ++ rest = st) (hW : (rest.map fun v => v.category).sum ≤ 8) (hR : zfit R d y.2.2.1) (hc : cells ≤ R.cells ∧ slots ≤ R.slots) (hp : pc + 3 = n)
    (kk : zV Γ A p l e R s m args below meth c cells slots Q n lv (r.toList ++ rest) μ') : zV Γ A p l e R s m args below meth c cells slots Q pc lv st μ := by
  subst hp
  subst hst
  intro H locs ls hl9 hP hS
  have hC := C
  obtain ⟨hx, hb, hml, ho, hts, hK, hAp, hE, hA⟩ := C
  refine zgo hA (va_runS (As := As) (rest := rest) ⟨hx, hb, hml, ho, hts⟩ hM ⟨zcallB hC hy.1 hl hR, hts _ hy.2⟩ (zpre hC hP hS) rfl hna (hl9.1.trans hml) rfl (lv_room hW) hd hc) hS (fun H1 locs1 hP1 hS1 => kk H1 locs1 ls hl9 hP1 hS1)
theorem zV_callSN {y : zM} {na d idx : Nat} {host : String} {r : Option Value} {μ' : zMem} (As : List Value) (rest : List Value) (C : zCx Γ A p s m args c own cc nL) (hy : zInS y na) (hl : (own, idx, y.1, host) ∈ znest) (hM : zRet Γ l d y As μ r μ') (hd : decode cc pc = .ok (.invokestatic idx, 3)) (hna : As.length = na) (hst : As.reverse ++ rest = st) (hW : (rest.map fun v => v.category).sum ≤ 8) (hR : zfit R d y.2.2.1) (hc : cells ≤ R.cells ∧ slots ≤ R.slots) (hp : pc + 3 = n)
    (kk : zV Γ A p l e R s m args below meth c cells slots Q n lv (r.toList ++ rest) μ') : zV Γ A p l e R s m args below meth c cells slots Q pc lv st μ := by
  subst hp
  subst hst
  intro H locs ls hl9 hP hS
  have hC := C
  obtain ⟨hx, hb, hml, ho, hts, hK, hAp, hE, hA⟩ := C
  refine zgo hA (va_runSN (As := As) (rest := rest) (host := host) ⟨hx, hb, hml, ho, hts⟩ hM ⟨va_cnB na hts (zgood hy.1.1) rfl rfl rfl (hE.2.2.2.2.2.2 _ hl) (hts _ hy.1.2.1) hy.1.2.2 hR, hts _ hy.2, trivial⟩ (zpre hC hP hS) rfl hna (hl9.1.trans hml) rfl (lv_room hW) hd hc) hS (fun H1 locs1 hP1 hS1 => kk H1 locs1 ls hl9 hP1 hS1)
end ZHEAP
end
section
/-! words of the tables, by name (laid by wip/whole/gen/tables.py) -/
theorem zk0_in : ∀ w ∈ u_ws RX0 TX0 6, w ∈ tblG := by decide +kernel
theorem zk0 : zCl 0 RX0 TX0 6 tyX0 := ⟨rfl, zk0_in, tyX0_ok, nmX0⟩
theorem zk1_in : ∀ w ∈ u_ws RX1 TX1 2, w ∈ tblG := by decide +kernel
theorem zk1 : zCl 1 RX1 TX1 2 tyX1 := ⟨rfl, zk1_in, tyX1_ok, nmX1⟩
theorem zk2_in : ∀ w ∈ u_ws RX2 TX2 7, w ∈ tblG := by decide +kernel
theorem zk2 : zCl 2 RX2 TX2 7 tyX2 := ⟨rfl, zk2_in, tyX2_ok, nmX2⟩
theorem zk3_in : ∀ w ∈ u_ws RX4 TX4 5, w ∈ tblG := by decide +kernel
theorem zk3 : zCl 3 RX4 TX4 5 tyX4 := ⟨rfl, zk3_in, tyX4_ok, nmX4⟩
theorem zk4_in : ∀ w ∈ u_ws RX5 TX5 3, w ∈ tblG := by decide +kernel
theorem zk4 : zCl 4 RX5 TX5 3 tyX5 := ⟨rfl, zk4_in, tyX5_ok, nmX5⟩
theorem zk5_in : ∀ w ∈ u_ws RX6 TX6 6, w ∈ tblG := by decide +kernel
theorem zk5 : zCl 5 RX6 TX6 6 tyX6 := ⟨rfl, zk5_in, tyX6_ok, nmX6⟩
theorem zk6_in : ∀ w ∈ u_ws RX7 TX7 5, w ∈ tblG := by decide +kernel
theorem zk6 : zCl 6 RX7 TX7 5 tyX7 := ⟨rfl, zk6_in, tyX7_ok, nmX7⟩
theorem zk7_in : ∀ w ∈ u_ws RX8 TX8 8, w ∈ tblG := by decide +kernel
theorem zk7 : zCl 7 RX8 TX8 8 tyX8 := ⟨rfl, zk7_in, tyX8_ok, nmX8⟩
theorem zk8_in : ∀ w ∈ u_ws RX9 TX9 19, w ∈ tblG := by decide +kernel
theorem zk8 : zCl 8 RX9 TX9 19 tyX9 := ⟨rfl, zk8_in, tyX9_ok, nmX9⟩
abbrev qX0_init : zM := (yX0_init, cX0_init, 2, none)
abbrev qX0_become : zM := (yX0_become, cX0_become, 3, none)
theorem jX0_become : zInV qX0_become 1 := ⟨⟨tgi 525 (by decide +kernel) rfl, tgi 63 (by decide +kernel) rfl, by decide +kernel⟩, tgi 523 (by decide +kernel) rfl, tgi 524 (by decide +kernel) rfl⟩
abbrev qX0_has : zM := (yX0_has, cX0_has, 2, (some (.boolean)))
theorem jX0_has : zInV qX0_has 1 := ⟨⟨tgi 372 (by decide +kernel) rfl, tgi 63 (by decide +kernel) rfl, by decide +kernel⟩, tgi 370 (by decide +kernel) rfl, tgi 371 (by decide +kernel) rfl⟩
abbrev qX0_hasSet : zM := (yX0_hasSet, cX0_hasSet, 2, (some (.boolean)))
theorem jX0_hasSet : zInV qX0_hasSet 1 := ⟨⟨tgi 567 (by decide +kernel) rfl, tgi 63 (by decide +kernel) rfl, by decide +kernel⟩, tgi 565 (by decide +kernel) rfl, tgi 566 (by decide +kernel) rfl⟩
abbrev qX0_isFull : zM := (yX0_isFull, cX0_isFull, 1, (some (.boolean)))
theorem jX0_isFull : zInV qX0_isFull 0 := ⟨⟨tgi 356 (by decide +kernel) rfl, tgi 63 (by decide +kernel) rfl, by decide +kernel⟩, tgi 354 (by decide +kernel) rfl, tgi 355 (by decide +kernel) rfl⟩
abbrev qX0_add : zM := (yX0_add, cX0_add, 2, (some (.int)))
theorem jX0_add : zInV qX0_add 1 := ⟨⟨tgi 360 (by decide +kernel) rfl, tgi 63 (by decide +kernel) rfl, by decide +kernel⟩, tgi 358 (by decide +kernel) rfl, tgi 359 (by decide +kernel) rfl⟩
abbrev qX0_secondsFor : zM := (yX0_secondsFor, cX0_secondsFor, 3, (some (.int)))
theorem jX0_secondsFor : zInV qX0_secondsFor 2 := ⟨⟨tgi 424 (by decide +kernel) rfl, tgi 63 (by decide +kernel) rfl, by decide +kernel⟩, tgi 422 (by decide +kernel) rfl, tgi 423 (by decide +kernel) rfl⟩
abbrev qX0_secondsAs : zM := (yX0_secondsAs, cX0_secondsAs, 6, (some (.int)))
theorem jX0_secondsAs : zInV qX0_secondsAs 3 := ⟨⟨tgi 428 (by decide +kernel) rfl, tgi 63 (by decide +kernel) rfl, by decide +kernel⟩, tgi 426 (by decide +kernel) rfl, tgi 427 (by decide +kernel) rfl⟩
abbrev qX0_takenBeside : zM := (yX0_takenBeside, cX0_takenBeside, 5, (some (.int)))
theorem jX0_takenBeside : zInV qX0_takenBeside 1 := ⟨⟨tgi 384 (by decide +kernel) rfl, tgi 63 (by decide +kernel) rfl, by decide +kernel⟩, tgi 383 (by decide +kernel) rfl, tgi 1 (by decide +kernel) rfl⟩
abbrev qX0_snugFor : zM := (yX0_snugFor, cX0_snugFor, 4, (some (.int)))
theorem jX0_snugFor : zInV qX0_snugFor 2 := ⟨⟨tgi 439 (by decide +kernel) rfl, tgi 63 (by decide +kernel) rfl, by decide +kernel⟩, tgi 437 (by decide +kernel) rfl, tgi 438 (by decide +kernel) rfl⟩
abbrev qX0_fretsNow : zM := (yX0_fretsNow, cX0_fretsNow, 3, (some (.int)))
theorem jX0_fretsNow : zInV qX0_fretsNow 1 := ⟨⟨tgi 376 (by decide +kernel) rfl, tgi 63 (by decide +kernel) rfl, by decide +kernel⟩, tgi 374 (by decide +kernel) rfl, tgi 375 (by decide +kernel) rfl⟩
abbrev qX0_clickIn : zM := (yX0_clickIn, cX0_clickIn, 5, none)
theorem jX0_clickIn : zInV qX0_clickIn 2 := ⟨⟨tgi 458 (by decide +kernel) rfl, tgi 63 (by decide +kernel) rfl, by decide +kernel⟩, tgi 456 (by decide +kernel) rfl, tgi 457 (by decide +kernel) rfl⟩
abbrev qX0_getOut : zM := (yX0_getOut, cX0_getOut, 3, none)
theorem jX0_getOut : zInV qX0_getOut 1 := ⟨⟨tgi 472 (by decide +kernel) rfl, tgi 63 (by decide +kernel) rfl, by decide +kernel⟩, tgi 470 (by decide +kernel) rfl, tgi 471 (by decide +kernel) rfl⟩
abbrev qX0_giveBribe : zM := (yX0_giveBribe, cX0_giveBribe, 4, none)
theorem jX0_giveBribe : zInV qX0_giveBribe 1 := ⟨⟨tgi 481 (by decide +kernel) rfl, tgi 63 (by decide +kernel) rfl, by decide +kernel⟩, tgi 479 (by decide +kernel) rfl, tgi 480 (by decide +kernel) rfl⟩
abbrev qX0_passMinutes : zM := (yX0_passMinutes, cX0_passMinutes, 3, none)
theorem jX0_passMinutes : zInV qX0_passMinutes 1 := ⟨⟨tgi 490 (by decide +kernel) rfl, tgi 63 (by decide +kernel) rfl, by decide +kernel⟩, tgi 488 (by decide +kernel) rfl, tgi 489 (by decide +kernel) rfl⟩
abbrev qX0_passMinute : zM := (yX0_passMinute, cX0_passMinute, 3, none)
theorem jX0_passMinute : zInV qX0_passMinute 0 := ⟨⟨tgi 494 (by decide +kernel) rfl, tgi 63 (by decide +kernel) rfl, by decide +kernel⟩, tgi 492 (by decide +kernel) rfl, tgi 493 (by decide +kernel) rfl⟩
abbrev qX0_loosen : zM := (yX0_loosen, cX0_loosen, 3, none)
theorem jX0_loosen : zInV qX0_loosen 1 := ⟨⟨tgi 499 (by decide +kernel) rfl, tgi 63 (by decide +kernel) rfl, by decide +kernel⟩, tgi 498 (by decide +kernel) rfl, tgi 2 (by decide +kernel) rfl⟩
abbrev qX0_sitting : zM := (yX0_sitting, cX0_sitting, 3, (some (.int)))
theorem jX0_sitting : zInV qX0_sitting 0 := ⟨⟨tgi 504 (by decide +kernel) rfl, tgi 63 (by decide +kernel) rfl, by decide +kernel⟩, tgi 502 (by decide +kernel) rfl, tgi 503 (by decide +kernel) rfl⟩
abbrev qX0_quickestSeat : zM := (yX0_quickestSeat, cX0_quickestSeat, 6, (some (.int)))
theorem jX0_quickestSeat : zInV qX0_quickestSeat 1 := ⟨⟨tgi 550 (by decide +kernel) rfl, tgi 63 (by decide +kernel) rfl, by decide +kernel⟩, tgi 548 (by decide +kernel) rfl, tgi 549 (by decide +kernel) rfl⟩
abbrev qX0_snuggestSeat : zM := (yX0_snuggestSeat, cX0_snuggestSeat, 6, (some (.int)))
theorem jX0_snuggestSeat : zInV qX0_snuggestSeat 1 := ⟨⟨tgi 559 (by decide +kernel) rfl, tgi 63 (by decide +kernel) rfl, by decide +kernel⟩, tgi 557 (by decide +kernel) rfl, tgi 558 (by decide +kernel) rfl⟩
abbrev qX0_moods : zM := (yX0_moods, cX0_moods, 3, (some (.int)))
theorem jX0_moods : zInV qX0_moods 0 := ⟨⟨tgi 513 (by decide +kernel) rfl, tgi 63 (by decide +kernel) rfl, by decide +kernel⟩, tgi 511 (by decide +kernel) rfl, tgi 512 (by decide +kernel) rfl⟩
abbrev qX0_tights : zM := (yX0_tights, cX0_tights, 3, (some (.int)))
theorem jX0_tights : zInV qX0_tights 0 := ⟨⟨tgi 517 (by decide +kernel) rfl, tgi 63 (by decide +kernel) rfl, by decide +kernel⟩, tgi 515 (by decide +kernel) rfl, tgi 516 (by decide +kernel) rfl⟩
abbrev qX0_wears : zM := (yX0_wears, cX0_wears, 3, (some (.int)))
theorem jX0_wears : zInV qX0_wears 0 := ⟨⟨tgi 837 (by decide +kernel) rfl, tgi 63 (by decide +kernel) rfl, by decide +kernel⟩, tgi 835 (by decide +kernel) rfl, tgi 836 (by decide +kernel) rfl⟩
abbrev qX1_init : zM := (yX1_init, cX1_init, 1, none)
abbrev qX1_hasFault : zM := (yX1_hasFault, cX1_hasFault, 1, (some (.boolean)))
theorem jX1_hasFault : zInV qX1_hasFault 0 := ⟨⟨tgi 754 (by decide +kernel) rfl, tgi 66 (by decide +kernel) rfl, by decide +kernel⟩, tgi 752 (by decide +kernel) rfl, tgi 753 (by decide +kernel) rfl⟩
abbrev qX1_parse : zM := (yX1_parse, cX1_parse, 3, (some (.int)))
theorem jX1_parse : zInV qX1_parse 1 := ⟨⟨tgi 648 (by decide +kernel) rfl, tgi 66 (by decide +kernel) rfl, by decide +kernel⟩, tgi 646 (by decide +kernel) rfl, tgi 647 (by decide +kernel) rfl⟩
abbrev qX1_parseItem : zM := (yX1_parseItem, cX1_parseItem, 3, none)
theorem jX1_parseItem : zInV qX1_parseItem 1 := ⟨⟨tgi 668 (by decide +kernel) rfl, tgi 66 (by decide +kernel) rfl, by decide +kernel⟩, tgi 667 (by decide +kernel) rfl, tgi 9 (by decide +kernel) rfl⟩
abbrev qX1_parseChild : zM := (yX1_parseChild, cX1_parseChild, 4, none)
theorem jX1_parseChild : zInV qX1_parseChild 2 := ⟨⟨tgi 738 (by decide +kernel) rfl, tgi 66 (by decide +kernel) rfl, by decide +kernel⟩, tgi 737 (by decide +kernel) rfl, tgi 11 (by decide +kernel) rfl⟩
abbrev qX1_parseSeat : zM := (yX1_parseSeat, cX1_parseSeat, 4, none)
theorem jX1_parseSeat : zInV qX1_parseSeat 1 := ⟨⟨tgi 761 (by decide +kernel) rfl, tgi 66 (by decide +kernel) rfl, by decide +kernel⟩, tgi 760 (by decide +kernel) rfl, tgi 13 (by decide +kernel) rfl⟩
abbrev qX1_numberBehind : zM := (yX1_numberBehind, cX1_numberBehind, 3, (some (.int)))
theorem jX1_numberBehind : zInV qX1_numberBehind 1 := ⟨⟨tgi 746 (by decide +kernel) rfl, tgi 66 (by decide +kernel) rfl, by decide +kernel⟩, tgi 745 (by decide +kernel) rfl, tgi 12 (by decide +kernel) rfl⟩
abbrev qX1_kindNamed : zM := (yX1_kindNamed, cX1_kindNamed, 2, (some (.int)))
theorem jX1_kindNamed : zInV qX1_kindNamed 0 := ⟨⟨tgi 672 (by decide +kernel) rfl, tgi 66 (by decide +kernel) rfl, by decide +kernel⟩, tgi 671 (by decide +kernel) rfl, tgi 10 (by decide +kernel) rfl⟩
abbrev qX1_nameOf : zM := (yX1_nameOf, cX1_nameOf, 1, (some (.object "java/lang/String")))
theorem jX1_nameOf : zInS qX1_nameOf 1 := ⟨⟨tgi 675 (by decide +kernel) rfl, tgi 66 (by decide +kernel) rfl, by decide +kernel⟩, tgi 674 (by decide +kernel) rfl⟩
abbrev qX2_init : zM := (yX2_init, cX2_init, 1, none)
abbrev qX2_most : zM := (yX2_most, cX2_most, 1, (some (.int)))
theorem jX2_most : zInS qX2_most 1 := ⟨⟨tgi 398 (by decide +kernel) rfl, tgi 65 (by decide +kernel) rfl, by decide +kernel⟩, tgi 397 (by decide +kernel) rfl⟩
abbrev qX2_begin : zM := (yX2_begin, cX2_begin, 2, none)
theorem jX2_begin : zInV qX2_begin 1 := ⟨⟨tgi 364 (by decide +kernel) rfl, tgi 65 (by decide +kernel) rfl, by decide +kernel⟩, tgi 362 (by decide +kernel) rfl, tgi 363 (by decide +kernel) rfl⟩
abbrev qX2_sits : zM := (yX2_sits, cX2_sits, 1, (some (.boolean)))
theorem jX2_sits : zInV qX2_sits 0 := ⟨⟨tgi 380 (by decide +kernel) rfl, tgi 65 (by decide +kernel) rfl, by decide +kernel⟩, tgi 378 (by decide +kernel) rfl, tgi 379 (by decide +kernel) rfl⟩
abbrev qX2_get : zM := (yX2_get, cX2_get, 2, (some (.int)))
theorem jX2_get : zInV qX2_get 1 := ⟨⟨tgi 391 (by decide +kernel) rfl, tgi 65 (by decide +kernel) rfl, by decide +kernel⟩, tgi 389 (by decide +kernel) rfl, tgi 390 (by decide +kernel) rfl⟩
abbrev qX2_put : zM := (yX2_put, cX2_put, 3, none)
theorem jX2_put : zInV qX2_put 2 := ⟨⟨tgi 402 (by decide +kernel) rfl, tgi 65 (by decide +kernel) rfl, by decide +kernel⟩, tgi 400 (by decide +kernel) rfl, tgi 401 (by decide +kernel) rfl⟩
abbrev qX2_become : zM := (yX2_become, cX2_become, 2, none)
theorem jX2_become : zInV qX2_become 1 := ⟨⟨tgi 533 (by decide +kernel) rfl, tgi 65 (by decide +kernel) rfl, by decide +kernel⟩, tgi 531 (by decide +kernel) rfl, tgi 532 (by decide +kernel) rfl⟩
abbrev qX3_isOneOf : zM := (yX3_isOneOf, cX3_isOneOf, 4, (some (.boolean)))
theorem jX3_isOneOf : zInS qX3_isOneOf 2 := ⟨⟨tgi 413 (by decide +kernel) rfl, tgi 71 (by decide +kernel) rfl, by decide +kernel⟩, tgi 412 (by decide +kernel) rfl⟩
abbrev qX3_takes : zM := (yX3_takes, cX3_takes, 6, (some (.int)))
theorem jX3_takes : zInS qX3_takes 3 := ⟨⟨tgi 431 (by decide +kernel) rfl, tgi 71 (by decide +kernel) rfl, by decide +kernel⟩, tgi 430 (by decide +kernel) rfl⟩
abbrev qX3_snugs : zM := (yX3_snugs, cX3_snugs, 5, (some (.int)))
theorem jX3_snugs : zInS qX3_snugs 3 := ⟨⟨tgi 442 (by decide +kernel) rfl, tgi 71 (by decide +kernel) rfl, by decide +kernel⟩, tgi 441 (by decide +kernel) rfl⟩
abbrev qX3_frets : zM := (yX3_frets, cX3_frets, 6, (some (.int)))
theorem jX3_frets : zInS qX3_frets 4 := ⟨⟨tgi 387 (by decide +kernel) rfl, tgi 71 (by decide +kernel) rfl, by decide +kernel⟩, tgi 386 (by decide +kernel) rfl⟩
abbrev qX4_init : zM := (yX4_init, cX4_init, 1, none)
abbrev qX4_most : zM := (yX4_most, cX4_most, 1, (some (.int)))
theorem jX4_most : zInS qX4_most 1 := ⟨⟨tgi 324 (by decide +kernel) rfl, tgi 64 (by decide +kernel) rfl, by decide +kernel⟩, tgi 323 (by decide +kernel) rfl⟩
abbrev qX4_isTaken : zM := (yX4_isTaken, cX4_isTaken, 1, (some (.boolean)))
theorem jX4_isTaken : zInV qX4_isTaken 0 := ⟨⟨tgi 454 (by decide +kernel) rfl, tgi 64 (by decide +kernel) rfl, by decide +kernel⟩, tgi 452 (by decide +kernel) rfl, tgi 453 (by decide +kernel) rfl⟩
abbrev qX4_get : zM := (yX4_get, cX4_get, 2, (some (.int)))
theorem jX4_get : zInV qX4_get 1 := ⟨⟨tgi 333 (by decide +kernel) rfl, tgi 64 (by decide +kernel) rfl, by decide +kernel⟩, tgi 331 (by decide +kernel) rfl, tgi 332 (by decide +kernel) rfl⟩
abbrev qX4_put : zM := (yX4_put, cX4_put, 3, none)
theorem jX4_put : zInV qX4_put 2 := ⟨⟨tgi 337 (by decide +kernel) rfl, tgi 64 (by decide +kernel) rfl, by decide +kernel⟩, tgi 335 (by decide +kernel) rfl, tgi 336 (by decide +kernel) rfl⟩
abbrev qX4_become : zM := (yX4_become, cX4_become, 2, none)
theorem jX4_become : zInV qX4_become 1 := ⟨⟨tgi 529 (by decide +kernel) rfl, tgi 64 (by decide +kernel) rfl, by decide +kernel⟩, tgi 527 (by decide +kernel) rfl, tgi 528 (by decide +kernel) rfl⟩
abbrev qX5_init : zM := (yX5_init, cX5_init, 1, none)
abbrev qX5_isMissing : zM := (yX5_isMissing, cX5_isMissing, 1, (some (.boolean)))
theorem jX5_isMissing : zInV qX5_isMissing 0 := ⟨⟨tgi 787 (by decide +kernel) rfl, tgi 69 (by decide +kernel) rfl, by decide +kernel⟩, tgi 785 (by decide +kernel) rfl, tgi 786 (by decide +kernel) rfl⟩
abbrev qX5_make : zM := (yX5_make, cX5_make, 4, none)
theorem jX5_make : zInV qX5_make 2 := ⟨⟨tgi 779 (by decide +kernel) rfl, tgi 69 (by decide +kernel) rfl, by decide +kernel⟩, tgi 777 (by decide +kernel) rfl, tgi 778 (by decide +kernel) rfl⟩
abbrev qX5_holds : zM := (yX5_holds, cX5_holds, 3, (some (.boolean)))
theorem jX5_holds : zInV qX5_holds 2 := ⟨⟨tgi 799 (by decide +kernel) rfl, tgi 69 (by decide +kernel) rfl, by decide +kernel⟩, tgi 797 (by decide +kernel) rfl, tgi 798 (by decide +kernel) rfl⟩
abbrev qX5_put : zM := (yX5_put, cX5_put, 4, none)
theorem jX5_put : zInV qX5_put 2 := ⟨⟨tgi 791 (by decide +kernel) rfl, tgi 69 (by decide +kernel) rfl, by decide +kernel⟩, tgi 789 (by decide +kernel) rfl, tgi 790 (by decide +kernel) rfl⟩
abbrev qX6_init : zM := (yX6_init, cX6_init, 1, none)
abbrev qX6_add : zM := (yX6_add, cX6_add, 2, none)
theorem jX6_add : zInV qX6_add 1 := ⟨⟨tgi 636 (by decide +kernel) rfl, tgi 67 (by decide +kernel) rfl, by decide +kernel⟩, tgi 634 (by decide +kernel) rfl, tgi 635 (by decide +kernel) rfl⟩
abbrev qX6_first : zM := (yX6_first, cX6_first, 1, none)
theorem jX6_first : zInV qX6_first 0 := ⟨⟨tgi 652 (by decide +kernel) rfl, tgi 67 (by decide +kernel) rfl, by decide +kernel⟩, tgi 650 (by decide +kernel) rfl, tgi 651 (by decide +kernel) rfl⟩
abbrev qX6_next : zM := (yX6_next, cX6_next, 3, none)
theorem jX6_next : zInV qX6_next 0 := ⟨⟨tgi 656 (by decide +kernel) rfl, tgi 67 (by decide +kernel) rfl, by decide +kernel⟩, tgi 654 (by decide +kernel) rfl, tgi 655 (by decide +kernel) rfl⟩
abbrev qX6_tokenWith : zM := (yX6_tokenWith, cX6_tokenWith, 1, (some (.int)))
theorem jX6_tokenWith : zInS qX6_tokenWith 1 := ⟨⟨tgi 663 (by decide +kernel) rfl, tgi 67 (by decide +kernel) rfl, by decide +kernel⟩, tgi 662 (by decide +kernel) rfl⟩
abbrev qX6_byteAt : zM := (yX6_byteAt, cX6_byteAt, 2, (some (.int)))
theorem jX6_byteAt : zInV qX6_byteAt 1 := ⟨⟨tgi 660 (by decide +kernel) rfl, tgi 67 (by decide +kernel) rfl, by decide +kernel⟩, tgi 659 (by decide +kernel) rfl, tgi 8 (by decide +kernel) rfl⟩
abbrev qX6_isWord : zM := (yX6_isWord, cX6_isWord, 3, (some (.boolean)))
theorem jX6_isWord : zInV qX6_isWord 1 := ⟨⟨tgi 685 (by decide +kernel) rfl, tgi 67 (by decide +kernel) rfl, by decide +kernel⟩, tgi 683 (by decide +kernel) rfl, tgi 684 (by decide +kernel) rfl⟩
abbrev qX6_numberUpTo : zM := (yX6_numberUpTo, cX6_numberUpTo, 2, (some (.int)))
theorem jX6_numberUpTo : zInV qX6_numberUpTo 1 := ⟨⟨tgi 750 (by decide +kernel) rfl, tgi 67 (by decide +kernel) rfl, by decide +kernel⟩, tgi 748 (by decide +kernel) rfl, tgi 749 (by decide +kernel) rfl⟩
abbrev qX7_init : zM := (yX7_init, cX7_init, 1, none)
abbrev qX7_find : zM := (yX7_find, cX7_find, 5, none)
theorem jX7_find : zInV qX7_find 2 := ⟨⟨tgi 577 (by decide +kernel) rfl, tgi 68 (by decide +kernel) rfl, by decide +kernel⟩, tgi 575 (by decide +kernel) rfl, tgi 576 (by decide +kernel) rfl⟩
abbrev qX7_listThree : zM := (yX7_listThree, cX7_listThree, 4, none)
theorem jX7_listThree : zInV qX7_listThree 1 := ⟨⟨tgi 581 (by decide +kernel) rfl, tgi 68 (by decide +kernel) rfl, by decide +kernel⟩, tgi 580 (by decide +kernel) rfl, tgi 3 (by decide +kernel) rfl⟩
abbrev qX7_findFrom : zM := (yX7_findFrom, cX7_findFrom, 7, none)
theorem jX7_findFrom : zInV qX7_findFrom 3 := ⟨⟨tgi 585 (by decide +kernel) rfl, tgi 68 (by decide +kernel) rfl, by decide +kernel⟩, tgi 584 (by decide +kernel) rfl, tgi 4 (by decide +kernel) rfl⟩
abbrev qX7_takeStep : zM := (yX7_takeStep, cX7_takeStep, 6, (some (.int)))
theorem jX7_takeStep : zInV qX7_takeStep 3 := ⟨⟨tgi 590 (by decide +kernel) rfl, tgi 68 (by decide +kernel) rfl, by decide +kernel⟩, tgi 589 (by decide +kernel) rfl, tgi 5 (by decide +kernel) rfl⟩
abbrev qX7_keepIfBetter : zM := (yX7_keepIfBetter, cX7_keepIfBetter, 2, none)
theorem jX7_keepIfBetter : zInV qX7_keepIfBetter 1 := ⟨⟨tgi 596 (by decide +kernel) rfl, tgi 68 (by decide +kernel) rfl, by decide +kernel⟩, tgi 595 (by decide +kernel) rfl, tgi 6 (by decide +kernel) rfl⟩
abbrev qX8_init : zM := (yX8_init, cX8_init, 2, none)
abbrev qX8_seat : zM := (yX8_seat, cX8_seat, 5, (some (.int)))
theorem jX8_seat : zInV qX8_seat 3 := ⟨⟨tgi 318 (by decide +kernel) rfl, tgi 62 (by decide +kernel) rfl, by decide +kernel⟩, tgi 316 (by decide +kernel) rfl, tgi 317 (by decide +kernel) rfl⟩
abbrev qX8_seatOf : zM := (yX8_seatOf, cX8_seatOf, 3, (some (.int)))
theorem jX8_seatOf : zInV qX8_seatOf 2 := ⟨⟨tgi 341 (by decide +kernel) rfl, tgi 62 (by decide +kernel) rfl, by decide +kernel⟩, tgi 339 (by decide +kernel) rfl, tgi 340 (by decide +kernel) rfl⟩
abbrev qX8_rain : zM := (yX8_rain, cX8_rain, 3, (some (.int)))
theorem jX8_rain : zInV qX8_rain 1 := ⟨⟨tgi 345 (by decide +kernel) rfl, tgi 62 (by decide +kernel) rfl, by decide +kernel⟩, tgi 343 (by decide +kernel) rfl, tgi 344 (by decide +kernel) rfl⟩
abbrev qX8_child : zM := (yX8_child, cX8_child, 2, (some (.int)))
theorem jX8_child : zInV qX8_child 1 := ⟨⟨tgi 349 (by decide +kernel) rfl, tgi 62 (by decide +kernel) rfl, by decide +kernel⟩, tgi 347 (by decide +kernel) rfl, tgi 348 (by decide +kernel) rfl⟩
abbrev qX8_of : zM := (yX8_of, cX8_of, 3, (some (.int)))
theorem jX8_of : zInV qX8_of 2 := ⟨⟨tgi 368 (by decide +kernel) rfl, tgi 62 (by decide +kernel) rfl, by decide +kernel⟩, tgi 366 (by decide +kernel) rfl, tgi 367 (by decide +kernel) rfl⟩
abbrev qX8_set : zM := (yX8_set, cX8_set, 5, (some (.int)))
theorem jX8_set : zInV qX8_set 3 := ⟨⟨tgi 395 (by decide +kernel) rfl, tgi 62 (by decide +kernel) rfl, by decide +kernel⟩, tgi 393 (by decide +kernel) rfl, tgi 394 (by decide +kernel) rfl⟩
abbrev qX8_turn : zM := (yX8_turn, cX8_turn, 4, (some (.int)))
theorem jX8_turn : zInV qX8_turn 2 := ⟨⟨tgi 406 (by decide +kernel) rfl, tgi 62 (by decide +kernel) rfl, by decide +kernel⟩, tgi 404 (by decide +kernel) rfl, tgi 405 (by decide +kernel) rfl⟩
abbrev qX8_as : zM := (yX8_as, cX8_as, 3, (some (.int)))
theorem jX8_as : zInV qX8_as 2 := ⟨⟨tgi 410 (by decide +kernel) rfl, tgi 62 (by decide +kernel) rfl, by decide +kernel⟩, tgi 408 (by decide +kernel) rfl, tgi 409 (by decide +kernel) rfl⟩
abbrev qX8_seconds : zM := (yX8_seconds, cX8_seconds, 3, (some (.int)))
theorem jX8_seconds : zInV qX8_seconds 2 := ⟨⟨tgi 420 (by decide +kernel) rfl, tgi 62 (by decide +kernel) rfl, by decide +kernel⟩, tgi 418 (by decide +kernel) rfl, tgi 419 (by decide +kernel) rfl⟩
abbrev qX8_snug : zM := (yX8_snug, cX8_snug, 3, (some (.int)))
theorem jX8_snug : zInV qX8_snug 2 := ⟨⟨tgi 435 (by decide +kernel) rfl, tgi 62 (by decide +kernel) rfl, by decide +kernel⟩, tgi 433 (by decide +kernel) rfl, tgi 434 (by decide +kernel) rfl⟩
abbrev qX8_click : zM := (yX8_click, cX8_click, 3, (some (.int)))
theorem jX8_click : zInV qX8_click 2 := ⟨⟨tgi 449 (by decide +kernel) rfl, tgi 62 (by decide +kernel) rfl, by decide +kernel⟩, tgi 447 (by decide +kernel) rfl, tgi 448 (by decide +kernel) rfl⟩
abbrev qX8_letOut : zM := (yX8_letOut, cX8_letOut, 3, (some (.int)))
theorem jX8_letOut : zInV qX8_letOut 1 := ⟨⟨tgi 468 (by decide +kernel) rfl, tgi 62 (by decide +kernel) rfl, by decide +kernel⟩, tgi 466 (by decide +kernel) rfl, tgi 467 (by decide +kernel) rfl⟩
abbrev qX8_bribe : zM := (yX8_bribe, cX8_bribe, 2, (some (.int)))
theorem jX8_bribe : zInV qX8_bribe 1 := ⟨⟨tgi 477 (by decide +kernel) rfl, tgi 62 (by decide +kernel) rfl, by decide +kernel⟩, tgi 475 (by decide +kernel) rfl, tgi 476 (by decide +kernel) rfl⟩
abbrev qX8_drive : zM := (yX8_drive, cX8_drive, 2, (some (.int)))
theorem jX8_drive : zInV qX8_drive 1 := ⟨⟨tgi 486 (by decide +kernel) rfl, tgi 62 (by decide +kernel) rfl, by decide +kernel⟩, tgi 484 (by decide +kernel) rfl, tgi 485 (by decide +kernel) rfl⟩
abbrev qX8_now : zM := (yX8_now, cX8_now, 2, (some (.int)))
theorem jX8_now : zInV qX8_now 1 := ⟨⟨tgi 509 (by decide +kernel) rfl, tgi 62 (by decide +kernel) rfl, by decide +kernel⟩, tgi 507 (by decide +kernel) rfl, tgi 508 (by decide +kernel) rfl⟩
abbrev qX8_on : zM := (yX8_on, cX8_on, 4, (some (.int)))
theorem jX8_on : zInV qX8_on 3 := ⟨⟨tgi 521 (by decide +kernel) rfl, tgi 62 (by decide +kernel) rfl, by decide +kernel⟩, tgi 519 (by decide +kernel) rfl, tgi 520 (by decide +kernel) rfl⟩
abbrev qX8_out : zM := (yX8_out, cX8_out, 3, (some (.int)))
theorem jX8_out : zInV qX8_out 1 := ⟨⟨tgi 537 (by decide +kernel) rfl, tgi 62 (by decide +kernel) rfl, by decide +kernel⟩, tgi 535 (by decide +kernel) rfl, tgi 536 (by decide +kernel) rfl⟩
abbrev qX8_firstOut : zM := (yX8_firstOut, cX8_firstOut, 3, (some (.int)))
theorem jX8_firstOut : zInV qX8_firstOut 0 := ⟨⟨tgi 542 (by decide +kernel) rfl, tgi 62 (by decide +kernel) rfl, by decide +kernel⟩, tgi 540 (by decide +kernel) rfl, tgi 541 (by decide +kernel) rfl⟩
abbrev qX8_quick : zM := (yX8_quick, cX8_quick, 3, (some (.int)))
theorem jX8_quick : zInV qX8_quick 1 := ⟨⟨tgi 546 (by decide +kernel) rfl, tgi 62 (by decide +kernel) rfl, by decide +kernel⟩, tgi 544 (by decide +kernel) rfl, tgi 545 (by decide +kernel) rfl⟩
abbrev qX8_safe : zM := (yX8_safe, cX8_safe, 3, (some (.int)))
theorem jX8_safe : zInV qX8_safe 1 := ⟨⟨tgi 555 (by decide +kernel) rfl, tgi 62 (by decide +kernel) rfl, by decide +kernel⟩, tgi 553 (by decide +kernel) rfl, tgi 554 (by decide +kernel) rfl⟩
abbrev qX8_all : zM := (yX8_all, cX8_all, 2, (some (.int)))
theorem jX8_all : zInV qX8_all 1 := ⟨⟨tgi 563 (by decide +kernel) rfl, tgi 62 (by decide +kernel) rfl, by decide +kernel⟩, tgi 561 (by decide +kernel) rfl, tgi 562 (by decide +kernel) rfl⟩
abbrev qX8_way : zM := (yX8_way, cX8_way, 3, (some (.int)))
theorem jX8_way : zInV qX8_way 2 := ⟨⟨tgi 603 (by decide +kernel) rfl, tgi 62 (by decide +kernel) rfl, by decide +kernel⟩, tgi 601 (by decide +kernel) rfl, tgi 602 (by decide +kernel) rfl⟩
abbrev qX8_kind : zM := (yX8_kind, cX8_kind, 7, (some (.int)))
theorem jX8_kind : zInV qX8_kind 2 := ⟨⟨tgi 607 (by decide +kernel) rfl, tgi 62 (by decide +kernel) rfl, by decide +kernel⟩, tgi 605 (by decide +kernel) rfl, tgi 606 (by decide +kernel) rfl⟩
abbrev qX8_bribes : zM := (yX8_bribes, cX8_bribes, 5, (some (.int)))
theorem jX8_bribes : zInV qX8_bribes 2 := ⟨⟨tgi 612 (by decide +kernel) rfl, tgi 62 (by decide +kernel) rfl, by decide +kernel⟩, tgi 610 (by decide +kernel) rfl, tgi 611 (by decide +kernel) rfl⟩
abbrev qX8_coat : zM := (yX8_coat, cX8_coat, 3, (some (.int)))
theorem jX8_coat : zInV qX8_coat 2 := ⟨⟨tgi 620 (by decide +kernel) rfl, tgi 62 (by decide +kernel) rfl, by decide +kernel⟩, tgi 618 (by decide +kernel) rfl, tgi 619 (by decide +kernel) rfl⟩
abbrev qX8_mood : zM := (yX8_mood, cX8_mood, 4, (some (.int)))
theorem jX8_mood : zInV qX8_mood 2 := ⟨⟨tgi 624 (by decide +kernel) rfl, tgi 62 (by decide +kernel) rfl, by decide +kernel⟩, tgi 622 (by decide +kernel) rfl, tgi 623 (by decide +kernel) rfl⟩
abbrev qX8_worst : zM := (yX8_worst, cX8_worst, 5, (some (.int)))
theorem jX8_worst : zInV qX8_worst 1 := ⟨⟨tgi 628 (by decide +kernel) rfl, tgi 62 (by decide +kernel) rfl, by decide +kernel⟩, tgi 626 (by decide +kernel) rfl, tgi 627 (by decide +kernel) rfl⟩
abbrev qX8_feed : zM := (yX8_feed, cX8_feed, 4, (some (.int)))
theorem jX8_feed : zInV qX8_feed 2 := ⟨⟨tgi 632 (by decide +kernel) rfl, tgi 62 (by decide +kernel) rfl, by decide +kernel⟩, tgi 630 (by decide +kernel) rfl, tgi 631 (by decide +kernel) rfl⟩
abbrev qX8_wipe : zM := (yX8_wipe, cX8_wipe, 2, (some (.int)))
theorem jX8_wipe : zInV qX8_wipe 0 := ⟨⟨tgi 640 (by decide +kernel) rfl, tgi 62 (by decide +kernel) rfl, by decide +kernel⟩, tgi 638 (by decide +kernel) rfl, tgi 639 (by decide +kernel) rfl⟩
abbrev qX8_car : zM := (yX8_car, cX8_car, 2, (some (.int)))
theorem jX8_car : zInV qX8_car 0 := ⟨⟨tgi 644 (by decide +kernel) rfl, tgi 62 (by decide +kernel) rfl, by decide +kernel⟩, tgi 642 (by decide +kernel) rfl, tgi 643 (by decide +kernel) rfl⟩
abbrev qX8_sheet : zM := (yX8_sheet, cX8_sheet, 4, (some (.int)))
theorem jX8_sheet : zInV qX8_sheet 3 := ⟨⟨tgi 772 (by decide +kernel) rfl, tgi 62 (by decide +kernel) rfl, by decide +kernel⟩, tgi 770 (by decide +kernel) rfl, tgi 771 (by decide +kernel) rfl⟩
abbrev qX8_write : zM := (yX8_write, cX8_write, 7, (some (.long)))
theorem jX8_write : zInV qX8_write 3 := ⟨⟨tgi 783 (by decide +kernel) rfl, tgi 62 (by decide +kernel) rfl, by decide +kernel⟩, tgi 781 (by decide +kernel) rfl, tgi 782 (by decide +kernel) rfl⟩
abbrev qX8_copy : zM := (yX8_copy, cX8_copy, 6, (some (.int)))
theorem jX8_copy : zInV qX8_copy 5 := ⟨⟨tgi 795 (by decide +kernel) rfl, tgi 62 (by decide +kernel) rfl, by decide +kernel⟩, tgi 793 (by decide +kernel) rfl, tgi 794 (by decide +kernel) rfl⟩
abbrev qX8_lays : zM := (yX8_lays, cX8_lays, 6, (some (.int)))
theorem jX8_lays : zInV qX8_lays 1 := ⟨⟨tgi 804 (by decide +kernel) rfl, tgi 62 (by decide +kernel) rfl, by decide +kernel⟩, tgi 802 (by decide +kernel) rfl, tgi 803 (by decide +kernel) rfl⟩
abbrev qX8_book : zM := (yX8_book, cX8_book, 4, (some (.int)))
theorem jX8_book : zInV qX8_book 2 := ⟨⟨tgi 809 (by decide +kernel) rfl, tgi 62 (by decide +kernel) rfl, by decide +kernel⟩, tgi 807 (by decide +kernel) rfl, tgi 808 (by decide +kernel) rfl⟩
abbrev qX8_read : zM := (yX8_read, cX8_read, 7, (some (.int)))
theorem jX8_read : zInV qX8_read 2 := ⟨⟨tgi 813 (by decide +kernel) rfl, tgi 62 (by decide +kernel) rfl, by decide +kernel⟩, tgi 811 (by decide +kernel) rfl, tgi 812 (by decide +kernel) rfl⟩
abbrev qX8_image : zM := (yX8_image, cX8_image, 1, (some (.int)))
theorem jX8_image : zInV qX8_image 0 := ⟨⟨tgi 821 (by decide +kernel) rfl, tgi 62 (by decide +kernel) rfl, by decide +kernel⟩, tgi 819 (by decide +kernel) rfl, tgi 820 (by decide +kernel) rfl⟩
abbrev qX8_undo : zM := (yX8_undo, cX8_undo, 1, (some (.int)))
theorem jX8_undo : zInV qX8_undo 0 := ⟨⟨tgi 825 (by decide +kernel) rfl, tgi 62 (by decide +kernel) rfl, by decide +kernel⟩, tgi 823 (by decide +kernel) rfl, tgi 824 (by decide +kernel) rfl⟩
abbrev qX8_tear : zM := (yX8_tear, cX8_tear, 2, (some (.int)))
theorem jX8_tear : zInV qX8_tear 0 := ⟨⟨tgi 829 (by decide +kernel) rfl, tgi 62 (by decide +kernel) rfl, by decide +kernel⟩, tgi 827 (by decide +kernel) rfl, tgi 828 (by decide +kernel) rfl⟩
abbrev qX8_count : zM := (yX8_count, cX8_count, 2, (some (.int)))
theorem jX8_count : zInV qX8_count 1 := ⟨⟨tgi 833 (by decide +kernel) rfl, tgi 62 (by decide +kernel) rfl, by decide +kernel⟩, tgi 831 (by decide +kernel) rfl, tgi 832 (by decide +kernel) rfl⟩
abbrev qX8_status : zM := (yX8_status, cX8_status, 4, (some (.int)))
theorem jX8_status : zInV qX8_status 1 := ⟨⟨tgi 841 (by decide +kernel) rfl, tgi 62 (by decide +kernel) rfl, by decide +kernel⟩, tgi 839 (by decide +kernel) rfl, tgi 840 (by decide +kernel) rfl⟩
abbrev qX8_tell : zM := (yX8_tell, cX8_tell, 2, (some (.int)))
theorem jX8_tell : zInV qX8_tell 1 := ⟨⟨tgi 328 (by decide +kernel) rfl, tgi 62 (by decide +kernel) rfl, by decide +kernel⟩, tgi 327 (by decide +kernel) rfl, tgi 0 (by decide +kernel) rfl⟩
abbrev qX8_staysInTrial : zM := (yX8_staysInTrial, cX8_staysInTrial, 3, (some (.boolean)))
theorem jX8_staysInTrial : zInV qX8_staysInTrial 2 := ⟨⟨tgi 616 (by decide +kernel) rfl, tgi 62 (by decide +kernel) rfl, by decide +kernel⟩, tgi 615 (by decide +kernel) rfl, tgi 7 (by decide +kernel) rfl⟩
abbrev qX8_trialTells : zM := (yX8_trialTells, cX8_trialTells, 4, (some (.boolean)))
theorem jX8_trialTells : zInV qX8_trialTells 2 := ⟨⟨tgi 817 (by decide +kernel) rfl, tgi 62 (by decide +kernel) rfl, by decide +kernel⟩, tgi 816 (by decide +kernel) rfl, tgi 14 (by decide +kernel) rfl⟩
abbrev qX8_isSeat : zM := (yX8_isSeat, cX8_isSeat, 1, (some (.boolean)))
theorem jX8_isSeat : zInS qX8_isSeat 1 := ⟨⟨tgi 321 (by decide +kernel) rfl, tgi 62 (by decide +kernel) rfl, by decide +kernel⟩, tgi 320 (by decide +kernel) rfl⟩
abbrev qX8_isKind : zM := (yX8_isKind, cX8_isKind, 1, (some (.boolean)))
theorem jX8_isKind : zInS qX8_isKind 1 := ⟨⟨tgi 352 (by decide +kernel) rfl, tgi 62 (by decide +kernel) rfl, by decide +kernel⟩, tgi 351 (by decide +kernel) rfl⟩
abbrev qX8_isSheet : zM := (yX8_isSheet, cX8_isSheet, 1, (some (.boolean)))
theorem jX8_isSheet : zInS qX8_isSheet 1 := ⟨⟨tgi 775 (by decide +kernel) rfl, tgi 62 (by decide +kernel) rfl, by decide +kernel⟩, tgi 774 (by decide +kernel) rfl⟩
abbrev qX9_init : zM := (yX9_init, cX9_init, 2, none)
abbrev qX9_in : zM := (yX9_in, cX9_in, 6, (some (.boolean)))
theorem jX9_in : zInS qX9_in 3 := ⟨⟨tgi 916 (by decide +kernel) rfl, tgi 70 (by decide +kernel) rfl, by decide +kernel⟩, tgi 915 (by decide +kernel) rfl⟩
abbrev qX9_finds : zM := (yX9_finds, cX9_finds, 2, (some (.int)))
theorem jX9_finds : zInV qX9_finds 1 := ⟨⟨tgi 930 (by decide +kernel) rfl, tgi 70 (by decide +kernel) rfl, by decide +kernel⟩, tgi 929 (by decide +kernel) rfl, tgi 16 (by decide +kernel) rfl⟩
abbrev qX9_saves : zM := (yX9_saves, cX9_saves, 2, none)
theorem jX9_saves : zInV qX9_saves 0 := ⟨⟨tgi 1183 (by decide +kernel) rfl, tgi 70 (by decide +kernel) rfl, by decide +kernel⟩, tgi 1182 (by decide +kernel) rfl, tgi 44 (by decide +kernel) rfl⟩
abbrev qX9_putsBack : zM := (yX9_putsBack, cX9_putsBack, 2, none)
theorem jX9_putsBack : zInV qX9_putsBack 0 := ⟨⟨tgi 1257 (by decide +kernel) rfl, tgi 70 (by decide +kernel) rfl, by decide +kernel⟩, tgi 1256 (by decide +kernel) rfl, tgi 56 (by decide +kernel) rfl⟩
abbrev qX9_laysAside : zM := (yX9_laysAside, cX9_laysAside, 2, none)
theorem jX9_laysAside : zInV qX9_laysAside 0 := ⟨⟨tgi 1086 (by decide +kernel) rfl, tgi 70 (by decide +kernel) rfl, by decide +kernel⟩, tgi 1085 (by decide +kernel) rfl, tgi 35 (by decide +kernel) rfl⟩
abbrev qX9_takesBack : zM := (yX9_takesBack, cX9_takesBack, 3, (some (.int)))
theorem jX9_takesBack : zInV qX9_takesBack 1 := ⟨⟨tgi 1090 (by decide +kernel) rfl, tgi 70 (by decide +kernel) rfl, by decide +kernel⟩, tgi 1089 (by decide +kernel) rfl, tgi 36 (by decide +kernel) rfl⟩
abbrev qX9_becomes : zM := (yX9_becomes, cX9_becomes, 4, (some (.int)))
theorem jX9_becomes : zInV qX9_becomes 2 := ⟨⟨tgi 925 (by decide +kernel) rfl, tgi 70 (by decide +kernel) rfl, by decide +kernel⟩, tgi 924 (by decide +kernel) rfl, tgi 15 (by decide +kernel) rfl⟩
abbrev qX9_isSeat : zM := (yX9_isSeat, cX9_isSeat, 1, (some (.boolean)))
theorem jX9_isSeat : zInS qX9_isSeat 1 := ⟨⟨tgi 921 (by decide +kernel) rfl, tgi 70 (by decide +kernel) rfl, by decide +kernel⟩, tgi 920 (by decide +kernel) rfl⟩
abbrev qX9_isChild : zM := (yX9_isChild, cX9_isChild, 2, (some (.boolean)))
theorem jX9_isChild : zInV qX9_isChild 1 := ⟨⟨tgi 966 (by decide +kernel) rfl, tgi 70 (by decide +kernel) rfl, by decide +kernel⟩, tgi 965 (by decide +kernel) rfl, tgi 19 (by decide +kernel) rfl⟩
abbrev qX9_isKind : zM := (yX9_isKind, cX9_isKind, 1, (some (.boolean)))
theorem jX9_isKind : zInS qX9_isKind 1 := ⟨⟨tgi 950 (by decide +kernel) rfl, tgi 70 (by decide +kernel) rfl, by decide +kernel⟩, tgi 949 (by decide +kernel) rfl⟩
abbrev qX9_spotOf : zM := (yX9_spotOf, cX9_spotOf, 2, (some (.int)))
theorem jX9_spotOf : zInS qX9_spotOf 2 := ⟨⟨tgi 850 (by decide +kernel) rfl, tgi 70 (by decide +kernel) rfl, by decide +kernel⟩, tgi 849 (by decide +kernel) rfl⟩
abbrev qX9_its : zM := (yX9_its, cX9_its, 3, (some (.int)))
theorem jX9_its : zInV qX9_its 2 := ⟨⟨tgi 939 (by decide +kernel) rfl, tgi 70 (by decide +kernel) rfl, by decide +kernel⟩, tgi 938 (by decide +kernel) rfl, tgi 17 (by decide +kernel) rfl⟩
abbrev qX9_placeOf : zM := (yX9_placeOf, cX9_placeOf, 2, (some (.int)))
theorem jX9_placeOf : zInS qX9_placeOf 2 := ⟨⟨tgi 958 (by decide +kernel) rfl, tgi 70 (by decide +kernel) rfl, by decide +kernel⟩, tgi 957 (by decide +kernel) rfl⟩
abbrev qX9_told : zM := (yX9_told, cX9_told, 3, (some (.int)))
theorem jX9_told : zInV qX9_told 2 := ⟨⟨tgi 971 (by decide +kernel) rfl, tgi 70 (by decide +kernel) rfl, by decide +kernel⟩, tgi 970 (by decide +kernel) rfl, tgi 20 (by decide +kernel) rfl⟩
abbrev qX9_seatedAt : zM := (yX9_seatedAt, cX9_seatedAt, 4, (some (.int)))
theorem jX9_seatedAt : zInV qX9_seatedAt 1 := ⟨⟨tgi 975 (by decide +kernel) rfl, tgi 70 (by decide +kernel) rfl, by decide +kernel⟩, tgi 974 (by decide +kernel) rfl, tgi 21 (by decide +kernel) rfl⟩
abbrev qX9_isTaken : zM := (yX9_isTaken, cX9_isTaken, 2, (some (.boolean)))
theorem jX9_isTaken : zInV qX9_isTaken 1 := ⟨⟨tgi 987 (by decide +kernel) rfl, tgi 70 (by decide +kernel) rfl, by decide +kernel⟩, tgi 986 (by decide +kernel) rfl, tgi 24 (by decide +kernel) rfl⟩
abbrev qX9_seat : zM := (yX9_seat, cX9_seat, 5, (some (.int)))
theorem jX9_seat : zInV qX9_seat 3 := ⟨⟨tgi 912 (by decide +kernel) rfl, tgi 70 (by decide +kernel) rfl, by decide +kernel⟩, tgi 910 (by decide +kernel) rfl, tgi 911 (by decide +kernel) rfl⟩
abbrev qX9_seatOf : zM := (yX9_seatOf, cX9_seatOf, 3, (some (.int)))
theorem jX9_seatOf : zInV qX9_seatOf 2 := ⟨⟨tgi 934 (by decide +kernel) rfl, tgi 70 (by decide +kernel) rfl, by decide +kernel⟩, tgi 932 (by decide +kernel) rfl, tgi 933 (by decide +kernel) rfl⟩
abbrev qX9_rain : zM := (yX9_rain, cX9_rain, 2, (some (.int)))
theorem jX9_rain : zInV qX9_rain 1 := ⟨⟨tgi 943 (by decide +kernel) rfl, tgi 70 (by decide +kernel) rfl, by decide +kernel⟩, tgi 941 (by decide +kernel) rfl, tgi 942 (by decide +kernel) rfl⟩
abbrev qX9_adds : zM := (yX9_adds, cX9_adds, 4, (some (.int)))
theorem jX9_adds : zInV qX9_adds 1 := ⟨⟨tgi 955 (by decide +kernel) rfl, tgi 70 (by decide +kernel) rfl, by decide +kernel⟩, tgi 954 (by decide +kernel) rfl, tgi 18 (by decide +kernel) rfl⟩
abbrev qX9_child : zM := (yX9_child, cX9_child, 2, (some (.int)))
theorem jX9_child : zInV qX9_child 1 := ⟨⟨tgi 947 (by decide +kernel) rfl, tgi 70 (by decide +kernel) rfl, by decide +kernel⟩, tgi 945 (by decide +kernel) rfl, tgi 946 (by decide +kernel) rfl⟩
abbrev qX9_isNear : zM := (yX9_isNear, cX9_isNear, 2, (some (.boolean)))
theorem jX9_isNear : zInV qX9_isNear 1 := ⟨⟨tgi 983 (by decide +kernel) rfl, tgi 70 (by decide +kernel) rfl, by decide +kernel⟩, tgi 982 (by decide +kernel) rfl, tgi 23 (by decide +kernel) rfl⟩
abbrev qX9_frets : zM := (yX9_frets, cX9_frets, 5, (some (.int)))
theorem jX9_frets : zInV qX9_frets 1 := ⟨⟨tgi 979 (by decide +kernel) rfl, tgi 70 (by decide +kernel) rfl, by decide +kernel⟩, tgi 978 (by decide +kernel) rfl, tgi 22 (by decide +kernel) rfl⟩
abbrev qX9_of : zM := (yX9_of, cX9_of, 3, (some (.int)))
theorem jX9_of : zInV qX9_of 2 := ⟨⟨tgi 962 (by decide +kernel) rfl, tgi 70 (by decide +kernel) rfl, by decide +kernel⟩, tgi 960 (by decide +kernel) rfl, tgi 961 (by decide +kernel) rfl⟩
abbrev qX9_set : zM := (yX9_set, cX9_set, 5, (some (.int)))
theorem jX9_set : zInV qX9_set 3 := ⟨⟨tgi 991 (by decide +kernel) rfl, tgi 70 (by decide +kernel) rfl, by decide +kernel⟩, tgi 989 (by decide +kernel) rfl, tgi 990 (by decide +kernel) rfl⟩
abbrev qX9_turn : zM := (yX9_turn, cX9_turn, 3, (some (.int)))
theorem jX9_turn : zInV qX9_turn 2 := ⟨⟨tgi 996 (by decide +kernel) rfl, tgi 70 (by decide +kernel) rfl, by decide +kernel⟩, tgi 994 (by decide +kernel) rfl, tgi 995 (by decide +kernel) rfl⟩
abbrev qX9_isUnder : zM := (yX9_isUnder, cX9_isUnder, 2, (some (.boolean)))
theorem jX9_isUnder : zInS qX9_isUnder 2 := ⟨⟨tgi 1003 (by decide +kernel) rfl, tgi 70 (by decide +kernel) rfl, by decide +kernel⟩, tgi 1002 (by decide +kernel) rfl⟩
abbrev qX9_as : zM := (yX9_as, cX9_as, 3, (some (.int)))
theorem jX9_as : zInV qX9_as 2 := ⟨⟨tgi 1000 (by decide +kernel) rfl, tgi 70 (by decide +kernel) rfl, by decide +kernel⟩, tgi 998 (by decide +kernel) rfl, tgi 999 (by decide +kernel) rfl⟩
abbrev qX9_takes : zM := (yX9_takes, cX9_takes, 4, (some (.int)))
theorem jX9_takes : zInV qX9_takes 2 := ⟨⟨tgi 1016 (by decide +kernel) rfl, tgi 70 (by decide +kernel) rfl, by decide +kernel⟩, tgi 1015 (by decide +kernel) rfl, tgi 26 (by decide +kernel) rfl⟩
abbrev qX9_secondsOf : zM := (yX9_secondsOf, cX9_secondsOf, 5, (some (.int)))
theorem jX9_secondsOf : zInV qX9_secondsOf 2 := ⟨⟨tgi 1012 (by decide +kernel) rfl, tgi 70 (by decide +kernel) rfl, by decide +kernel⟩, tgi 1011 (by decide +kernel) rfl, tgi 25 (by decide +kernel) rfl⟩
abbrev qX9_snugOf : zM := (yX9_snugOf, cX9_snugOf, 4, (some (.int)))
theorem jX9_snugOf : zInV qX9_snugOf 2 := ⟨⟨tgi 1024 (by decide +kernel) rfl, tgi 70 (by decide +kernel) rfl, by decide +kernel⟩, tgi 1023 (by decide +kernel) rfl, tgi 27 (by decide +kernel) rfl⟩
abbrev qX9_seconds : zM := (yX9_seconds, cX9_seconds, 3, (some (.int)))
theorem jX9_seconds : zInV qX9_seconds 2 := ⟨⟨tgi 1008 (by decide +kernel) rfl, tgi 70 (by decide +kernel) rfl, by decide +kernel⟩, tgi 1006 (by decide +kernel) rfl, tgi 1007 (by decide +kernel) rfl⟩
abbrev qX9_snug : zM := (yX9_snug, cX9_snug, 3, (some (.int)))
theorem jX9_snug : zInV qX9_snug 2 := ⟨⟨tgi 1020 (by decide +kernel) rfl, tgi 70 (by decide +kernel) rfl, by decide +kernel⟩, tgi 1018 (by decide +kernel) rfl, tgi 1019 (by decide +kernel) rfl⟩
abbrev qX9_heldTo : zM := (yX9_heldTo, cX9_heldTo, 2, (some (.int)))
theorem jX9_heldTo : zInS qX9_heldTo 2 := ⟨⟨tgi 1037 (by decide +kernel) rfl, tgi 70 (by decide +kernel) rfl, by decide +kernel⟩, tgi 1036 (by decide +kernel) rfl⟩
abbrev qX9_clicks : zM := (yX9_clicks, cX9_clicks, 4, (some (.int)))
theorem jX9_clicks : zInV qX9_clicks 2 := ⟨⟨tgi 1033 (by decide +kernel) rfl, tgi 70 (by decide +kernel) rfl, by decide +kernel⟩, tgi 1032 (by decide +kernel) rfl, tgi 28 (by decide +kernel) rfl⟩
abbrev qX9_click : zM := (yX9_click, cX9_click, 4, (some (.int)))
theorem jX9_click : zInV qX9_click 2 := ⟨⟨tgi 1028 (by decide +kernel) rfl, tgi 70 (by decide +kernel) rfl, by decide +kernel⟩, tgi 1026 (by decide +kernel) rfl, tgi 1027 (by decide +kernel) rfl⟩
abbrev qX9_goesOut : zM := (yX9_goesOut, cX9_goesOut, 2, none)
theorem jX9_goesOut : zInV qX9_goesOut 1 := ⟨⟨tgi 1045 (by decide +kernel) rfl, tgi 70 (by decide +kernel) rfl, by decide +kernel⟩, tgi 1044 (by decide +kernel) rfl, tgi 29 (by decide +kernel) rfl⟩
abbrev qX9_letOut : zM := (yX9_letOut, cX9_letOut, 3, (some (.int)))
theorem jX9_letOut : zInV qX9_letOut 1 := ⟨⟨tgi 1041 (by decide +kernel) rfl, tgi 70 (by decide +kernel) rfl, by decide +kernel⟩, tgi 1039 (by decide +kernel) rfl, tgi 1040 (by decide +kernel) rfl⟩
abbrev qX9_bribed : zM := (yX9_bribed, cX9_bribed, 3, none)
theorem jX9_bribed : zInV qX9_bribed 1 := ⟨⟨tgi 1053 (by decide +kernel) rfl, tgi 70 (by decide +kernel) rfl, by decide +kernel⟩, tgi 1052 (by decide +kernel) rfl, tgi 30 (by decide +kernel) rfl⟩
abbrev qX9_bribe : zM := (yX9_bribe, cX9_bribe, 2, (some (.int)))
theorem jX9_bribe : zInV qX9_bribe 1 := ⟨⟨tgi 1049 (by decide +kernel) rfl, tgi 70 (by decide +kernel) rfl, by decide +kernel⟩, tgi 1047 (by decide +kernel) rfl, tgi 1048 (by decide +kernel) rfl⟩
abbrev qX9_minute : zM := (yX9_minute, cX9_minute, 4, none)
theorem jX9_minute : zInV qX9_minute 0 := ⟨⟨tgi 1066 (by decide +kernel) rfl, tgi 70 (by decide +kernel) rfl, by decide +kernel⟩, tgi 1065 (by decide +kernel) rfl, tgi 32 (by decide +kernel) rfl⟩
abbrev qX9_minutesGo : zM := (yX9_minutesGo, cX9_minutesGo, 3, none)
theorem jX9_minutesGo : zInV qX9_minutesGo 1 := ⟨⟨tgi 1062 (by decide +kernel) rfl, tgi 70 (by decide +kernel) rfl, by decide +kernel⟩, tgi 1061 (by decide +kernel) rfl, tgi 31 (by decide +kernel) rfl⟩
abbrev qX9_seated : zM := (yX9_seated, cX9_seated, 3, (some (.int)))
theorem jX9_seated : zInV qX9_seated 0 := ⟨⟨tgi 1070 (by decide +kernel) rfl, tgi 70 (by decide +kernel) rfl, by decide +kernel⟩, tgi 1069 (by decide +kernel) rfl, tgi 33 (by decide +kernel) rfl⟩
abbrev qX9_drive : zM := (yX9_drive, cX9_drive, 2, (some (.int)))
theorem jX9_drive : zInV qX9_drive 1 := ⟨⟨tgi 1057 (by decide +kernel) rfl, tgi 70 (by decide +kernel) rfl, by decide +kernel⟩, tgi 1055 (by decide +kernel) rfl, tgi 1056 (by decide +kernel) rfl⟩
abbrev qX9_together : zM := (yX9_together, cX9_together, 4, (some (.int)))
theorem jX9_together : zInV qX9_together 1 := ⟨⟨tgi 1078 (by decide +kernel) rfl, tgi 70 (by decide +kernel) rfl, by decide +kernel⟩, tgi 1077 (by decide +kernel) rfl, tgi 34 (by decide +kernel) rfl⟩
abbrev qX9_now : zM := (yX9_now, cX9_now, 2, (some (.int)))
theorem jX9_now : zInV qX9_now 1 := ⟨⟨tgi 1074 (by decide +kernel) rfl, tgi 70 (by decide +kernel) rfl, by decide +kernel⟩, tgi 1072 (by decide +kernel) rfl, tgi 1073 (by decide +kernel) rfl⟩
abbrev qX9_on : zM := (yX9_on, cX9_on, 4, (some (.int)))
theorem jX9_on : zInV qX9_on 3 := ⟨⟨tgi 1082 (by decide +kernel) rfl, tgi 70 (by decide +kernel) rfl, by decide +kernel⟩, tgi 1080 (by decide +kernel) rfl, tgi 1081 (by decide +kernel) rfl⟩
abbrev qX9_outIn : zM := (yX9_outIn, cX9_outIn, 4, (some (.int)))
theorem jX9_outIn : zInV qX9_outIn 2 := ⟨⟨tgi 1098 (by decide +kernel) rfl, tgi 70 (by decide +kernel) rfl, by decide +kernel⟩, tgi 1097 (by decide +kernel) rfl, tgi 37 (by decide +kernel) rfl⟩
abbrev qX9_out : zM := (yX9_out, cX9_out, 3, (some (.int)))
theorem jX9_out : zInV qX9_out 1 := ⟨⟨tgi 1094 (by decide +kernel) rfl, tgi 70 (by decide +kernel) rfl, by decide +kernel⟩, tgi 1092 (by decide +kernel) rfl, tgi 1093 (by decide +kernel) rfl⟩
abbrev qX9_firstOut : zM := (yX9_firstOut, cX9_firstOut, 4, (some (.int)))
theorem jX9_firstOut : zInV qX9_firstOut 0 := ⟨⟨tgi 1103 (by decide +kernel) rfl, tgi 70 (by decide +kernel) rfl, by decide +kernel⟩, tgi 1101 (by decide +kernel) rfl, tgi 1102 (by decide +kernel) rfl⟩
abbrev qX9_wrongSeeker : zM := (yX9_wrongSeeker, cX9_wrongSeeker, 3, (some (.int)))
theorem jX9_wrongSeeker : zInV qX9_wrongSeeker 1 := ⟨⟨tgi 1111 (by decide +kernel) rfl, tgi 70 (by decide +kernel) rfl, by decide +kernel⟩, tgi 1110 (by decide +kernel) rfl, tgi 38 (by decide +kernel) rfl⟩
abbrev qX9_quick : zM := (yX9_quick, cX9_quick, 5, (some (.int)))
theorem jX9_quick : zInV qX9_quick 1 := ⟨⟨tgi 1107 (by decide +kernel) rfl, tgi 70 (by decide +kernel) rfl, by decide +kernel⟩, tgi 1105 (by decide +kernel) rfl, tgi 1106 (by decide +kernel) rfl⟩
abbrev qX9_safe : zM := (yX9_safe, cX9_safe, 5, (some (.int)))
theorem jX9_safe : zInV qX9_safe 1 := ⟨⟨tgi 1115 (by decide +kernel) rfl, tgi 70 (by decide +kernel) rfl, by decide +kernel⟩, tgi 1113 (by decide +kernel) rfl, tgi 1114 (by decide +kernel) rfl⟩
abbrev qX9_ones : zM := (yX9_ones, cX9_ones, 3, (some (.int)))
theorem jX9_ones : zInS qX9_ones 1 := ⟨⟨tgi 1126 (by decide +kernel) rfl, tgi 70 (by decide +kernel) rfl, by decide +kernel⟩, tgi 1125 (by decide +kernel) rfl⟩
abbrev qX9_wrongThree : zM := (yX9_wrongThree, cX9_wrongThree, 2, (some (.int)))
theorem jX9_wrongThree : zInV qX9_wrongThree 1 := ⟨⟨tgi 1123 (by decide +kernel) rfl, tgi 70 (by decide +kernel) rfl, by decide +kernel⟩, tgi 1122 (by decide +kernel) rfl, tgi 39 (by decide +kernel) rfl⟩
abbrev qX9_isWay : zM := (yX9_isWay, cX9_isWay, 10, (some (.boolean)))
theorem jX9_isWay : zInV qX9_isWay 2 := ⟨⟨tgi 1135 (by decide +kernel) rfl, tgi 70 (by decide +kernel) rfl, by decide +kernel⟩, tgi 1134 (by decide +kernel) rfl, tgi 41 (by decide +kernel) rfl⟩
abbrev qX9_findWay : zM := (yX9_findWay, cX9_findWay, 6, none)
theorem jX9_findWay : zInV qX9_findWay 1 := ⟨⟨tgi 1131 (by decide +kernel) rfl, tgi 70 (by decide +kernel) rfl, by decide +kernel⟩, tgi 1130 (by decide +kernel) rfl, tgi 40 (by decide +kernel) rfl⟩
abbrev qX9_all : zM := (yX9_all, cX9_all, 3, (some (.int)))
theorem jX9_all : zInV qX9_all 1 := ⟨⟨tgi 1119 (by decide +kernel) rfl, tgi 70 (by decide +kernel) rfl, by decide +kernel⟩, tgi 1117 (by decide +kernel) rfl, tgi 1118 (by decide +kernel) rfl⟩
abbrev qX9_way : zM := (yX9_way, cX9_way, 4, (some (.int)))
theorem jX9_way : zInV qX9_way 2 := ⟨⟨tgi 1139 (by decide +kernel) rfl, tgi 70 (by decide +kernel) rfl, by decide +kernel⟩, tgi 1137 (by decide +kernel) rfl, tgi 1138 (by decide +kernel) rfl⟩
abbrev qX9_kind : zM := (yX9_kind, cX9_kind, 8, (some (.int)))
theorem jX9_kind : zInV qX9_kind 2 := ⟨⟨tgi 1143 (by decide +kernel) rfl, tgi 70 (by decide +kernel) rfl, by decide +kernel⟩, tgi 1141 (by decide +kernel) rfl, tgi 1142 (by decide +kernel) rfl⟩
abbrev qX9_wrongStay : zM := (yX9_wrongStay, cX9_wrongStay, 3, (some (.int)))
theorem jX9_wrongStay : zInV qX9_wrongStay 2 := ⟨⟨tgi 1151 (by decide +kernel) rfl, tgi 70 (by decide +kernel) rfl, by decide +kernel⟩, tgi 1150 (by decide +kernel) rfl, tgi 42 (by decide +kernel) rfl⟩
abbrev qX9_isInStill : zM := (yX9_isInStill, cX9_isInStill, 3, (some (.boolean)))
theorem jX9_isInStill : zInV qX9_isInStill 2 := ⟨⟨tgi 1155 (by decide +kernel) rfl, tgi 70 (by decide +kernel) rfl, by decide +kernel⟩, tgi 1154 (by decide +kernel) rfl, tgi 43 (by decide +kernel) rfl⟩
abbrev qX9_bribes : zM := (yX9_bribes, cX9_bribes, 9, (some (.int)))
theorem jX9_bribes : zInV qX9_bribes 2 := ⟨⟨tgi 1147 (by decide +kernel) rfl, tgi 70 (by decide +kernel) rfl, by decide +kernel⟩, tgi 1145 (by decide +kernel) rfl, tgi 1146 (by decide +kernel) rfl⟩
abbrev qX9_coat : zM := (yX9_coat, cX9_coat, 3, (some (.int)))
theorem jX9_coat : zInV qX9_coat 2 := ⟨⟨tgi 1159 (by decide +kernel) rfl, tgi 70 (by decide +kernel) rfl, by decide +kernel⟩, tgi 1157 (by decide +kernel) rfl, tgi 1158 (by decide +kernel) rfl⟩
abbrev qX9_mood : zM := (yX9_mood, cX9_mood, 7, (some (.int)))
theorem jX9_mood : zInV qX9_mood 2 := ⟨⟨tgi 1163 (by decide +kernel) rfl, tgi 70 (by decide +kernel) rfl, by decide +kernel⟩, tgi 1161 (by decide +kernel) rfl, tgi 1162 (by decide +kernel) rfl⟩
abbrev qX9_worst : zM := (yX9_worst, cX9_worst, 5, (some (.int)))
theorem jX9_worst : zInV qX9_worst 1 := ⟨⟨tgi 1167 (by decide +kernel) rfl, tgi 70 (by decide +kernel) rfl, by decide +kernel⟩, tgi 1165 (by decide +kernel) rfl, tgi 1166 (by decide +kernel) rfl⟩
abbrev qX9_feed : zM := (yX9_feed, cX9_feed, 4, (some (.int)))
theorem jX9_feed : zInV qX9_feed 2 := ⟨⟨tgi 1171 (by decide +kernel) rfl, tgi 70 (by decide +kernel) rfl, by decide +kernel⟩, tgi 1169 (by decide +kernel) rfl, tgi 1170 (by decide +kernel) rfl⟩
abbrev qX9_wipe : zM := (yX9_wipe, cX9_wipe, 2, (some (.int)))
theorem jX9_wipe : zInV qX9_wipe 0 := ⟨⟨tgi 1175 (by decide +kernel) rfl, tgi 70 (by decide +kernel) rfl, by decide +kernel⟩, tgi 1173 (by decide +kernel) rfl, tgi 1174 (by decide +kernel) rfl⟩
abbrev qX9_byteAt : zM := (yX9_byteAt, cX9_byteAt, 2, (some (.int)))
theorem jX9_byteAt : zInV qX9_byteAt 1 := ⟨⟨tgi 1191 (by decide +kernel) rfl, tgi 70 (by decide +kernel) rfl, by decide +kernel⟩, tgi 1190 (by decide +kernel) rfl, tgi 46 (by decide +kernel) rfl⟩
abbrev qX9_isLetter : zM := (yX9_isLetter, cX9_isLetter, 1, (some (.boolean)))
theorem jX9_isLetter : zInS qX9_isLetter 1 := ⟨⟨tgi 1194 (by decide +kernel) rfl, tgi 70 (by decide +kernel) rfl, by decide +kernel⟩, tgi 1193 (by decide +kernel) rfl⟩
abbrev qX9_isDigit : zM := (yX9_isDigit, cX9_isDigit, 1, (some (.boolean)))
theorem jX9_isDigit : zInS qX9_isDigit 1 := ⟨⟨tgi 1199 (by decide +kernel) rfl, tgi 70 (by decide +kernel) rfl, by decide +kernel⟩, tgi 1198 (by decide +kernel) rfl⟩
abbrev qX9_token : zM := (yX9_token, cX9_token, 3, none)
theorem jX9_token : zInV qX9_token 0 := ⟨⟨tgi 1187 (by decide +kernel) rfl, tgi 70 (by decide +kernel) rfl, by decide +kernel⟩, tgi 1186 (by decide +kernel) rfl, tgi 45 (by decide +kernel) rfl⟩
abbrev qX9_must : zM := (yX9_must, cX9_must, 2, none)
theorem jX9_must : zInV qX9_must 1 := ⟨⟨tgi 1229 (by decide +kernel) rfl, tgi 70 (by decide +kernel) rfl, by decide +kernel⟩, tgi 1228 (by decide +kernel) rfl, tgi 51 (by decide +kernel) rfl⟩
abbrev qX9_word : zM := (yX9_word, cX9_word, 4, (some (.long)))
theorem jX9_word : zInV qX9_word 0 := ⟨⟨tgi 1213 (by decide +kernel) rfl, tgi 70 (by decide +kernel) rfl, by decide +kernel⟩, tgi 1212 (by decide +kernel) rfl, tgi 49 (by decide +kernel) rfl⟩
abbrev qX9_number : zM := (yX9_number, cX9_number, 6, none)
theorem jX9_number : zInV qX9_number 2 := ⟨⟨tgi 1238 (by decide +kernel) rfl, tgi 70 (by decide +kernel) rfl, by decide +kernel⟩, tgi 1237 (by decide +kernel) rfl, tgi 53 (by decide +kernel) rfl⟩
abbrev qX9_kindHere : zM := (yX9_kindHere, cX9_kindHere, 3, (some (.int)))
theorem jX9_kindHere : zInV qX9_kindHere 0 := ⟨⟨tgi 1209 (by decide +kernel) rfl, tgi 70 (by decide +kernel) rfl, by decide +kernel⟩, tgi 1208 (by decide +kernel) rfl, tgi 48 (by decide +kernel) rfl⟩
abbrev qX9_partItem : zM := (yX9_partItem, cX9_partItem, 5, none)
theorem jX9_partItem : zInV qX9_partItem 3 := ⟨⟨tgi 1234 (by decide +kernel) rfl, tgi 70 (by decide +kernel) rfl, by decide +kernel⟩, tgi 1233 (by decide +kernel) rfl, tgi 52 (by decide +kernel) rfl⟩
abbrev qX9_mayBe : zM := (yX9_mayBe, cX9_mayBe, 4, (some (.boolean)))
theorem jX9_mayBe : zInV qX9_mayBe 1 := ⟨⟨tgi 1244 (by decide +kernel) rfl, tgi 70 (by decide +kernel) rfl, by decide +kernel⟩, tgi 1243 (by decide +kernel) rfl, tgi 54 (by decide +kernel) rfl⟩
abbrev qX9_childItem : zM := (yX9_childItem, cX9_childItem, 3, none)
theorem jX9_childItem : zInV qX9_childItem 1 := ⟨⟨tgi 1225 (by decide +kernel) rfl, tgi 70 (by decide +kernel) rfl, by decide +kernel⟩, tgi 1224 (by decide +kernel) rfl, tgi 50 (by decide +kernel) rfl⟩
abbrev qX9_seatItem : zM := (yX9_seatItem, cX9_seatItem, 2, none)
theorem jX9_seatItem : zInV qX9_seatItem 0 := ⟨⟨tgi 1249 (by decide +kernel) rfl, tgi 70 (by decide +kernel) rfl, by decide +kernel⟩, tgi 1248 (by decide +kernel) rfl, tgi 55 (by decide +kernel) rfl⟩
abbrev qX9_item : zM := (yX9_item, cX9_item, 4, none)
theorem jX9_item : zInV qX9_item 0 := ⟨⟨tgi 1205 (by decide +kernel) rfl, tgi 70 (by decide +kernel) rfl, by decide +kernel⟩, tgi 1204 (by decide +kernel) rfl, tgi 47 (by decide +kernel) rfl⟩
abbrev qX9_car : zM := (yX9_car, cX9_car, 2, (some (.int)))
theorem jX9_car : zInV qX9_car 0 := ⟨⟨tgi 1179 (by decide +kernel) rfl, tgi 70 (by decide +kernel) rfl, by decide +kernel⟩, tgi 1177 (by decide +kernel) rfl, tgi 1178 (by decide +kernel) rfl⟩
abbrev qX9_isOne : zM := (yX9_isOne, cX9_isOne, 1, (some (.boolean)))
theorem jX9_isOne : zInS qX9_isOne 1 := ⟨⟨tgi 1264 (by decide +kernel) rfl, tgi 70 (by decide +kernel) rfl, by decide +kernel⟩, tgi 1263 (by decide +kernel) rfl⟩
abbrev qX9_sheet : zM := (yX9_sheet, cX9_sheet, 5, (some (.int)))
theorem jX9_sheet : zInV qX9_sheet 3 := ⟨⟨tgi 1261 (by decide +kernel) rfl, tgi 70 (by decide +kernel) rfl, by decide +kernel⟩, tgi 1259 (by decide +kernel) rfl, tgi 1260 (by decide +kernel) rfl⟩
abbrev qX9_narrowed : zM := (yX9_narrowed, cX9_narrowed, 3, (some (.long)))
theorem jX9_narrowed : zInS qX9_narrowed 2 := ⟨⟨tgi 1277 (by decide +kernel) rfl, tgi 70 (by decide +kernel) rfl, by decide +kernel⟩, tgi 1276 (by decide +kernel) rfl⟩
abbrev qX9_wrongSheet : zM := (yX9_wrongSheet, cX9_wrongSheet, 2, (some (.int)))
theorem jX9_wrongSheet : zInV qX9_wrongSheet 1 := ⟨⟨tgi 1273 (by decide +kernel) rfl, tgi 70 (by decide +kernel) rfl, by decide +kernel⟩, tgi 1272 (by decide +kernel) rfl, tgi 57 (by decide +kernel) rfl⟩
abbrev qX9_write : zM := (yX9_write, cX9_write, 8, (some (.long)))
theorem jX9_write : zInV qX9_write 3 := ⟨⟨tgi 1269 (by decide +kernel) rfl, tgi 70 (by decide +kernel) rfl, by decide +kernel⟩, tgi 1267 (by decide +kernel) rfl, tgi 1268 (by decide +kernel) rfl⟩
abbrev qX9_copy : zM := (yX9_copy, cX9_copy, 7, (some (.int)))
theorem jX9_copy : zInV qX9_copy 5 := ⟨⟨tgi 1281 (by decide +kernel) rfl, tgi 70 (by decide +kernel) rfl, by decide +kernel⟩, tgi 1279 (by decide +kernel) rfl, tgi 1280 (by decide +kernel) rfl⟩
abbrev qX9_lays : zM := (yX9_lays, cX9_lays, 6, (some (.int)))
theorem jX9_lays : zInV qX9_lays 1 := ⟨⟨tgi 1285 (by decide +kernel) rfl, tgi 70 (by decide +kernel) rfl, by decide +kernel⟩, tgi 1283 (by decide +kernel) rfl, tgi 1284 (by decide +kernel) rfl⟩
abbrev qX9_wrongBook : zM := (yX9_wrongBook, cX9_wrongBook, 4, (some (.int)))
theorem jX9_wrongBook : zInV qX9_wrongBook 2 := ⟨⟨tgi 1293 (by decide +kernel) rfl, tgi 70 (by decide +kernel) rfl, by decide +kernel⟩, tgi 1292 (by decide +kernel) rfl, tgi 58 (by decide +kernel) rfl⟩
abbrev qX9_book : zM := (yX9_book, cX9_book, 5, (some (.int)))
theorem jX9_book : zInV qX9_book 2 := ⟨⟨tgi 1289 (by decide +kernel) rfl, tgi 70 (by decide +kernel) rfl, by decide +kernel⟩, tgi 1287 (by decide +kernel) rfl, tgi 1288 (by decide +kernel) rfl⟩
abbrev qX9_isBook : zM := (yX9_isBook, cX9_isBook, 4, (some (.boolean)))
theorem jX9_isBook : zInV qX9_isBook 2 := ⟨⟨tgi 1301 (by decide +kernel) rfl, tgi 70 (by decide +kernel) rfl, by decide +kernel⟩, tgi 1300 (by decide +kernel) rfl, tgi 59 (by decide +kernel) rfl⟩
abbrev qX9_read : zM := (yX9_read, cX9_read, 7, (some (.int)))
theorem jX9_read : zInV qX9_read 2 := ⟨⟨tgi 1297 (by decide +kernel) rfl, tgi 70 (by decide +kernel) rfl, by decide +kernel⟩, tgi 1295 (by decide +kernel) rfl, tgi 1296 (by decide +kernel) rfl⟩
abbrev qX9_image : zM := (yX9_image, cX9_image, 2, (some (.int)))
theorem jX9_image : zInV qX9_image 0 := ⟨⟨tgi 1305 (by decide +kernel) rfl, tgi 70 (by decide +kernel) rfl, by decide +kernel⟩, tgi 1303 (by decide +kernel) rfl, tgi 1304 (by decide +kernel) rfl⟩
abbrev qX9_undo : zM := (yX9_undo, cX9_undo, 2, (some (.int)))
theorem jX9_undo : zInV qX9_undo 0 := ⟨⟨tgi 1309 (by decide +kernel) rfl, tgi 70 (by decide +kernel) rfl, by decide +kernel⟩, tgi 1307 (by decide +kernel) rfl, tgi 1308 (by decide +kernel) rfl⟩
abbrev qX9_tear : zM := (yX9_tear, cX9_tear, 2, (some (.int)))
theorem jX9_tear : zInV qX9_tear 0 := ⟨⟨tgi 1313 (by decide +kernel) rfl, tgi 70 (by decide +kernel) rfl, by decide +kernel⟩, tgi 1311 (by decide +kernel) rfl, tgi 1312 (by decide +kernel) rfl⟩
abbrev qX9_wears : zM := (yX9_wears, cX9_wears, 1, (some (.int)))
theorem jX9_wears : zInV qX9_wears 0 := ⟨⟨tgi 1321 (by decide +kernel) rfl, tgi 70 (by decide +kernel) rfl, by decide +kernel⟩, tgi 1320 (by decide +kernel) rfl, tgi 60 (by decide +kernel) rfl⟩
abbrev qX9_count : zM := (yX9_count, cX9_count, 2, (some (.int)))
theorem jX9_count : zInV qX9_count 1 := ⟨⟨tgi 1317 (by decide +kernel) rfl, tgi 70 (by decide +kernel) rfl, by decide +kernel⟩, tgi 1315 (by decide +kernel) rfl, tgi 1316 (by decide +kernel) rfl⟩
abbrev qX9_status : zM := (yX9_status, cX9_status, 4, (some (.int)))
theorem jX9_status : zInV qX9_status 1 := ⟨⟨tgi 1325 (by decide +kernel) rfl, tgi 70 (by decide +kernel) rfl, by decide +kernel⟩, tgi 1323 (by decide +kernel) rfl, tgi 1324 (by decide +kernel) rfl⟩
abbrev qJ6_bitCount_0f7a4 : zM := (yJ6_bitCount_0f7a4, cJ6_bitCount_0f7a4, 1, (some (.int)))
theorem jJ6_bitCount_0f7a4 : zInS qJ6_bitCount_0f7a4 1 := ⟨⟨tgi 570 (by decide +kernel) rfl, tgi 73 (by decide +kernel) rfl, by decide +kernel⟩, tgi 569 (by decide +kernel) rfl⟩
abbrev qJ9_max_7cf53 : zM := (yJ9_max_7cf53, cJ9_max_7cf53, 2, (some (.int)))
theorem jJ9_max_7cf53 : zInS qJ9_max_7cf53 2 := ⟨⟨tgi 445 (by decide +kernel) rfl, tgi 72 (by decide +kernel) rfl, by decide +kernel⟩, tgi 444 (by decide +kernel) rfl⟩
abbrev qJ9_min_7cf53 : zM := (yJ9_min_7cf53, cJ9_min_7cf53, 2, (some (.int)))
theorem jJ9_min_7cf53 : zInS qJ9_min_7cf53 2 := ⟨⟨tgi 462 (by decide +kernel) rfl, tgi 72 (by decide +kernel) rfl, by decide +kernel⟩, tgi 461 (by decide +kernel) rfl⟩
abbrev qJ0_length_8abf5 : zM := (yJ0_length_8abf5, cJ0_length_8abf5, 1, (some (.int)))
theorem jJ0_length_8abf5 : zInV qJ0_length_8abf5 0 := ⟨⟨tgi 689 (by decide +kernel) rfl, tgi 75 (by decide +kernel) rfl, by decide +kernel⟩, tgi 687 (by decide +kernel) rfl, tgi 688 (by decide +kernel) rfl⟩
abbrev qJ0_charAt_5068e : zM := (yJ0_charAt_5068e, cJ0_charAt_5068e, 2, (some (.char)))
theorem jJ0_charAt_5068e : zInV qJ0_charAt_5068e 1 := ⟨⟨tgi 699 (by decide +kernel) rfl, tgi 75 (by decide +kernel) rfl, by decide +kernel⟩, tgi 697 (by decide +kernel) rfl, tgi 698 (by decide +kernel) rfl⟩
abbrev qJ0_coder_7d493 : zM := (yJ0_coder_7d493, cJ0_coder_7d493, 1, (some (.byte)))
theorem jJ0_coder_7d493 : zInV qJ0_coder_7d493 0 := ⟨⟨tgi 693 (by decide +kernel) rfl, tgi 75 (by decide +kernel) rfl, by decide +kernel⟩, tgi 691 (by decide +kernel) rfl, tgi 692 (by decide +kernel) rfl⟩
abbrev qJ0_isLatin1_aae02 : zM := (yJ0_isLatin1_aae02, cJ0_isLatin1_aae02, 1, (some (.boolean)))
theorem jJ0_isLatin1_aae02 : zInV qJ0_isLatin1_aae02 0 := ⟨⟨tgi 703 (by decide +kernel) rfl, tgi 75 (by decide +kernel) rfl, by decide +kernel⟩, tgi 701 (by decide +kernel) rfl, tgi 702 (by decide +kernel) rfl⟩
abbrev qJ0_checkIndex_df160 : zM := (yJ0_checkIndex_df160, cJ0_checkIndex_df160, 2, none)
theorem jJ0_checkIndex_df160 : zInS qJ0_checkIndex_df160 2 := ⟨⟨tgi 709 (by decide +kernel) rfl, tgi 75 (by decide +kernel) rfl, by decide +kernel⟩, tgi 708 (by decide +kernel) rfl⟩
abbrev qJ1_charAt_3b067 : zM := (yJ1_charAt_3b067, cJ1_charAt_3b067, 2, (some (.char)))
theorem jJ1_charAt_3b067 : zInS qJ1_charAt_3b067 2 := ⟨⟨tgi 706 (by decide +kernel) rfl, tgi 76 (by decide +kernel) rfl, by decide +kernel⟩, tgi 705 (by decide +kernel) rfl⟩
abbrev qJ2_getChar_3b067 : zM := (yJ2_getChar_3b067, cJ2_getChar_3b067, 2, (some (.char)))
theorem jJ2_getChar_3b067 : zInS qJ2_getChar_3b067 2 := ⟨⟨tgi 727 (by decide +kernel) rfl, tgi 78 (by decide +kernel) rfl, by decide +kernel⟩, tgi 726 (by decide +kernel) rfl⟩
abbrev qJ2_length_9d52b : zM := (yJ2_length_9d52b, cJ2_length_9d52b, 1, (some (.int)))
theorem jJ2_length_9d52b : zInS qJ2_length_9d52b 1 := ⟨⟨tgi 723 (by decide +kernel) rfl, tgi 78 (by decide +kernel) rfl, by decide +kernel⟩, tgi 722 (by decide +kernel) rfl⟩
abbrev qJ2_charAt_3b067 : zM := (yJ2_charAt_3b067, cJ2_charAt_3b067, 2, (some (.char)))
theorem jJ2_charAt_3b067 : zInS qJ2_charAt_3b067 2 := ⟨⟨tgi 717 (by decide +kernel) rfl, tgi 78 (by decide +kernel) rfl, by decide +kernel⟩, tgi 716 (by decide +kernel) rfl⟩
abbrev qJ2_checkIndex_2214a : zM := (yJ2_checkIndex_2214a, cJ2_checkIndex_2214a, 2, none)
theorem jJ2_checkIndex_2214a : zInS qJ2_checkIndex_2214a 2 := ⟨⟨tgi 720 (by decide +kernel) rfl, tgi 78 (by decide +kernel) rfl, by decide +kernel⟩, tgi 719 (by decide +kernel) rfl⟩
abbrev qJ3_checkIndex_8e157 : zM := (yJ3_checkIndex_8e157, cJ3_checkIndex_8e157, 3, (some (.int)))
theorem jJ3_checkIndex_8e157 : zInS qJ3_checkIndex_8e157 3 := ⟨⟨tgi 714 (by decide +kernel) rfl, tgi 77 (by decide +kernel) rfl, by decide +kernel⟩, tgi 713 (by decide +kernel) rfl⟩
theorem lL_9 : Cond.methodLink RL 9 yX8_init ∈ tblG := tgi 81 (by decide +kernel) rfl
theorem lX8_9 : Cond.methodLink RX8 9 yX0_init ∈ tblG := tgi 89 (by decide +kernel) rfl
theorem fX4_9 : Cond.fieldLink RX4 9 (TX4 0).1 (TX4 0).2.1 (TX4 0).2.2.1 ∈ tblG := tgi 102 (by decide +kernel) rfl
theorem fX3_33 : Cond.fieldLink RX3 33 (TX4 0).1 (TX4 0).2.1 (TX4 0).2.2.1 ∈ tblG := tgi 103 (by decide +kernel) rfl
theorem fX1_111 : Cond.fieldLink RX1 111 (TX4 0).1 (TX4 0).2.1 (TX4 0).2.2.1 ∈ tblG := tgi 104 (by decide +kernel) rfl
theorem fX0_62 : Cond.fieldLink RX0 62 (TX4 0).1 (TX4 0).2.1 (TX4 0).2.2.1 ∈ tblG := tgi 105 (by decide +kernel) rfl
theorem fX4_15 : Cond.fieldLink RX4 15 (TX4 1).1 (TX4 1).2.1 (TX4 1).2.2.1 ∈ tblG := tgi 106 (by decide +kernel) rfl
theorem fX1_115 : Cond.fieldLink RX1 115 (TX4 1).1 (TX4 1).2.1 (TX4 1).2.2.1 ∈ tblG := tgi 107 (by decide +kernel) rfl
theorem fX0_65 : Cond.fieldLink RX0 65 (TX4 1).1 (TX4 1).2.1 (TX4 1).2.2.1 ∈ tblG := tgi 108 (by decide +kernel) rfl
theorem fX4_18 : Cond.fieldLink RX4 18 (TX4 2).1 (TX4 2).2.1 (TX4 2).2.2.1 ∈ tblG := tgi 109 (by decide +kernel) rfl
theorem fX3_25 : Cond.fieldLink RX3 25 (TX4 2).1 (TX4 2).2.1 (TX4 2).2.2.1 ∈ tblG := tgi 110 (by decide +kernel) rfl
theorem fX1_104 : Cond.fieldLink RX1 104 (TX4 2).1 (TX4 2).2.1 (TX4 2).2.2.1 ∈ tblG := tgi 111 (by decide +kernel) rfl
theorem fX4_21 : Cond.fieldLink RX4 21 (TX4 3).1 (TX4 3).2.1 (TX4 3).2.2.1 ∈ tblG := tgi 112 (by decide +kernel) rfl
theorem fX0_108 : Cond.fieldLink RX0 108 (TX4 3).1 (TX4 3).2.1 (TX4 3).2.2.1 ∈ tblG := tgi 113 (by decide +kernel) rfl
theorem fX4_24 : Cond.fieldLink RX4 24 (TX4 4).1 (TX4 4).2.1 (TX4 4).2.2.1 ∈ tblG := tgi 114 (by decide +kernel) rfl
theorem fX0_75 : Cond.fieldLink RX0 75 (TX4 4).1 (TX4 4).2.1 (TX4 4).2.2.1 ∈ tblG := tgi 115 (by decide +kernel) rfl
theorem fX2_9 : Cond.fieldLink RX2 9 (TX2 0).1 (TX2 0).2.1 (TX2 0).2.2.1 ∈ tblG := tgi 132 (by decide +kernel) rfl
theorem fX0_49 : Cond.fieldLink RX0 49 (TX2 0).1 (TX2 0).2.1 (TX2 0).2.2.1 ∈ tblG := tgi 133 (by decide +kernel) rfl
theorem fX8_105 : Cond.fieldLink RX8 105 (TX2 0).1 (TX2 0).2.1 (TX2 0).2.2.1 ∈ tblG := tgi 134 (by decide +kernel) rfl
theorem fX2_15 : Cond.fieldLink RX2 15 (TX2 1).1 (TX2 1).2.1 (TX2 1).2.2.1 ∈ tblG := tgi 135 (by decide +kernel) rfl
theorem fX3_36 : Cond.fieldLink RX3 36 (TX2 1).1 (TX2 1).2.1 (TX2 1).2.2.1 ∈ tblG := tgi 136 (by decide +kernel) rfl
theorem fX1_85 : Cond.fieldLink RX1 85 (TX2 1).1 (TX2 1).2.1 (TX2 1).2.2.1 ∈ tblG := tgi 137 (by decide +kernel) rfl
theorem fX2_18 : Cond.fieldLink RX2 18 (TX2 2).1 (TX2 2).2.1 (TX2 2).2.2.1 ∈ tblG := tgi 138 (by decide +kernel) rfl
theorem fX3_30 : Cond.fieldLink RX3 30 (TX2 2).1 (TX2 2).2.1 (TX2 2).2.2.1 ∈ tblG := tgi 139 (by decide +kernel) rfl
theorem fX1_91 : Cond.fieldLink RX1 91 (TX2 2).1 (TX2 2).2.1 (TX2 2).2.2.1 ∈ tblG := tgi 140 (by decide +kernel) rfl
theorem fX8_114 : Cond.fieldLink RX8 114 (TX2 2).1 (TX2 2).2.1 (TX2 2).2.2.1 ∈ tblG := tgi 141 (by decide +kernel) rfl
theorem fX0_122 : Cond.fieldLink RX0 122 (TX2 2).1 (TX2 2).2.1 (TX2 2).2.2.1 ∈ tblG := tgi 142 (by decide +kernel) rfl
theorem fX2_21 : Cond.fieldLink RX2 21 (TX2 3).1 (TX2 3).2.1 (TX2 3).2.2.1 ∈ tblG := tgi 143 (by decide +kernel) rfl
theorem fX1_95 : Cond.fieldLink RX1 95 (TX2 3).1 (TX2 3).2.1 (TX2 3).2.2.1 ∈ tblG := tgi 144 (by decide +kernel) rfl
theorem fX0_68 : Cond.fieldLink RX0 68 (TX2 3).1 (TX2 3).2.1 (TX2 3).2.2.1 ∈ tblG := tgi 145 (by decide +kernel) rfl
theorem fX8_203 : Cond.fieldLink RX8 203 (TX2 3).1 (TX2 3).2.1 (TX2 3).2.2.1 ∈ tblG := tgi 146 (by decide +kernel) rfl
theorem fX2_24 : Cond.fieldLink RX2 24 (TX2 4).1 (TX2 4).2.1 (TX2 4).2.2.1 ∈ tblG := tgi 147 (by decide +kernel) rfl
theorem fX3_19 : Cond.fieldLink RX3 19 (TX2 4).1 (TX2 4).2.1 (TX2 4).2.2.1 ∈ tblG := tgi 148 (by decide +kernel) rfl
theorem fX0_115 : Cond.fieldLink RX0 115 (TX2 4).1 (TX2 4).2.1 (TX2 4).2.2.1 ∈ tblG := tgi 149 (by decide +kernel) rfl
theorem fX2_27 : Cond.fieldLink RX2 27 (TX2 5).1 (TX2 5).2.1 (TX2 5).2.2.1 ∈ tblG := tgi 150 (by decide +kernel) rfl
theorem fX0_94 : Cond.fieldLink RX0 94 (TX2 5).1 (TX2 5).2.1 (TX2 5).2.2.1 ∈ tblG := tgi 151 (by decide +kernel) rfl
theorem fX8_133 : Cond.fieldLink RX8 133 (TX2 5).1 (TX2 5).2.1 (TX2 5).2.2.1 ∈ tblG := tgi 152 (by decide +kernel) rfl
theorem fX2_30 : Cond.fieldLink RX2 30 (TX2 6).1 (TX2 6).2.1 (TX2 6).2.2.1 ∈ tblG := tgi 153 (by decide +kernel) rfl
theorem fX0_91 : Cond.fieldLink RX0 91 (TX2 6).1 (TX2 6).2.1 (TX2 6).2.2.1 ∈ tblG := tgi 154 (by decide +kernel) rfl
theorem fX8_136 : Cond.fieldLink RX8 136 (TX2 6).1 (TX2 6).2.1 (TX2 6).2.2.1 ∈ tblG := tgi 155 (by decide +kernel) rfl
theorem fX0_11 : Cond.fieldLink RX0 11 (TX0 0).1 (TX0 0).2.1 (TX0 0).2.2.1 ∈ tblG := tgi 171 (by decide +kernel) rfl
theorem fX8_64 : Cond.fieldLink RX8 64 (TX0 0).1 (TX0 0).2.1 (TX0 0).2.2.1 ∈ tblG := tgi 172 (by decide +kernel) rfl
theorem fX1_100 : Cond.fieldLink RX1 100 (TX0 0).1 (TX0 0).2.1 (TX0 0).2.2.1 ∈ tblG := tgi 173 (by decide +kernel) rfl
theorem fX0_19 : Cond.fieldLink RX0 19 (TX0 1).1 (TX0 1).2.1 (TX0 1).2.2.1 ∈ tblG := tgi 174 (by decide +kernel) rfl
theorem fX1_76 : Cond.fieldLink RX1 76 (TX0 1).1 (TX0 1).2.1 (TX0 1).2.2.1 ∈ tblG := tgi 175 (by decide +kernel) rfl
theorem fX8_92 : Cond.fieldLink RX8 92 (TX0 1).1 (TX0 1).2.1 (TX0 1).2.2.1 ∈ tblG := tgi 176 (by decide +kernel) rfl
theorem fX0_23 : Cond.fieldLink RX0 23 (TX0 2).1 (TX0 2).2.1 (TX0 2).2.2.1 ∈ tblG := tgi 177 (by decide +kernel) rfl
theorem fX8_206 : Cond.fieldLink RX8 206 (TX0 2).1 (TX0 2).2.1 (TX0 2).2.2.1 ∈ tblG := tgi 178 (by decide +kernel) rfl
theorem fX0_27 : Cond.fieldLink RX0 27 (TX0 3).1 (TX0 3).2.1 (TX0 3).2.2.1 ∈ tblG := tgi 179 (by decide +kernel) rfl
theorem fX8_75 : Cond.fieldLink RX8 75 (TX0 3).1 (TX0 3).2.1 (TX0 3).2.2.1 ∈ tblG := tgi 180 (by decide +kernel) rfl
theorem fX1_69 : Cond.fieldLink RX1 69 (TX0 3).1 (TX0 3).2.1 (TX0 3).2.2.1 ∈ tblG := tgi 181 (by decide +kernel) rfl
theorem fX0_30 : Cond.fieldLink RX0 30 (TX0 4).1 (TX0 4).2.1 (TX0 4).2.2.1 ∈ tblG := tgi 182 (by decide +kernel) rfl
theorem fX8_146 : Cond.fieldLink RX8 146 (TX0 4).1 (TX0 4).2.1 (TX0 4).2.2.1 ∈ tblG := tgi 183 (by decide +kernel) rfl
theorem fX0_33 : Cond.fieldLink RX0 33 (TX0 5).1 (TX0 5).2.1 (TX0 5).2.2.1 ∈ tblG := tgi 184 (by decide +kernel) rfl
theorem fX8_156 : Cond.fieldLink RX8 156 (TX0 5).1 (TX0 5).2.1 (TX0 5).2.2.1 ∈ tblG := tgi 185 (by decide +kernel) rfl
theorem fX6_9 : Cond.fieldLink RX6 9 (TX6 0).1 (TX6 0).2.1 (TX6 0).2.2.1 ∈ tblG := tgi 211 (by decide +kernel) rfl
theorem fX6_15 : Cond.fieldLink RX6 15 (TX6 1).1 (TX6 1).2.1 (TX6 1).2.2.1 ∈ tblG := tgi 212 (by decide +kernel) rfl
theorem fX8_213 : Cond.fieldLink RX8 213 (TX6 1).1 (TX6 1).2.1 (TX6 1).2.2.1 ∈ tblG := tgi 213 (by decide +kernel) rfl
theorem fX6_19 : Cond.fieldLink RX6 19 (TX6 2).1 (TX6 2).2.1 (TX6 2).2.2.1 ∈ tblG := tgi 214 (by decide +kernel) rfl
theorem fX1_33 : Cond.fieldLink RX1 33 (TX6 2).1 (TX6 2).2.1 (TX6 2).2.2.1 ∈ tblG := tgi 215 (by decide +kernel) rfl
theorem fX6_22 : Cond.fieldLink RX6 22 (TX6 3).1 (TX6 3).2.1 (TX6 3).2.2.1 ∈ tblG := tgi 216 (by decide +kernel) rfl
theorem fX1_36 : Cond.fieldLink RX1 36 (TX6 3).1 (TX6 3).2.1 (TX6 3).2.2.1 ∈ tblG := tgi 217 (by decide +kernel) rfl
theorem fX6_25 : Cond.fieldLink RX6 25 (TX6 4).1 (TX6 4).2.1 (TX6 4).2.2.1 ∈ tblG := tgi 218 (by decide +kernel) rfl
theorem fX6_28 : Cond.fieldLink RX6 28 (TX6 5).1 (TX6 5).2.1 (TX6 5).2.2.1 ∈ tblG := tgi 219 (by decide +kernel) rfl
theorem fX1_12 : Cond.fieldLink RX1 12 (TX1 0).1 (TX1 0).2.1 (TX1 0).2.2.1 ∈ tblG := tgi 234 (by decide +kernel) rfl
theorem fX8_209 : Cond.fieldLink RX8 209 (TX1 0).1 (TX1 0).2.1 (TX1 0).2.2.1 ∈ tblG := tgi 235 (by decide +kernel) rfl
theorem fX1_18 : Cond.fieldLink RX1 18 (TX1 1).1 (TX1 1).2.1 (TX1 1).2.2.1 ∈ tblG := tgi 236 (by decide +kernel) rfl
theorem fX8_227 : Cond.fieldLink RX8 227 (TX1 1).1 (TX1 1).2.1 (TX1 1).2.2.1 ∈ tblG := tgi 237 (by decide +kernel) rfl
theorem lX7_11 : Cond.methodLink RX7 11 yX0_init ∈ tblG := tgi 250 (by decide +kernel) rfl
theorem fX7_12 : Cond.fieldLink RX7 12 (TX7 0).1 (TX7 0).2.1 (TX7 0).2.2.1 ∈ tblG := tgi 251 (by decide +kernel) rfl
theorem fX7_18 : Cond.fieldLink RX7 18 (TX7 1).1 (TX7 1).2.1 (TX7 1).2.2.1 ∈ tblG := tgi 252 (by decide +kernel) rfl
theorem fX7_22 : Cond.fieldLink RX7 22 (TX7 2).1 (TX7 2).2.1 (TX7 2).2.2.1 ∈ tblG := tgi 253 (by decide +kernel) rfl
theorem fX7_25 : Cond.fieldLink RX7 25 (TX7 3).1 (TX7 3).2.1 (TX7 3).2.2.1 ∈ tblG := tgi 254 (by decide +kernel) rfl
theorem fX8_193 : Cond.fieldLink RX8 193 (TX7 3).1 (TX7 3).2.1 (TX7 3).2.2.1 ∈ tblG := tgi 255 (by decide +kernel) rfl
theorem fX7_28 : Cond.fieldLink RX7 28 (TX7 4).1 (TX7 4).2.1 (TX7 4).2.2.1 ∈ tblG := tgi 256 (by decide +kernel) rfl
theorem fX8_190 : Cond.fieldLink RX8 190 (TX7 4).1 (TX7 4).2.1 (TX7 4).2.2.1 ∈ tblG := tgi 257 (by decide +kernel) rfl
theorem fX5_9 : Cond.fieldLink RX5 9 (TX5 0).1 (TX5 0).2.1 (TX5 0).2.2.1 ∈ tblG := tgi 276 (by decide +kernel) rfl
theorem fX8_240 : Cond.fieldLink RX8 240 (TX5 0).1 (TX5 0).2.1 (TX5 0).2.2.1 ∈ tblG := tgi 277 (by decide +kernel) rfl
theorem fX5_15 : Cond.fieldLink RX5 15 (TX5 1).1 (TX5 1).2.1 (TX5 1).2.2.1 ∈ tblG := tgi 278 (by decide +kernel) rfl
theorem fX8_247 : Cond.fieldLink RX8 247 (TX5 1).1 (TX5 1).2.1 (TX5 1).2.2.1 ∈ tblG := tgi 279 (by decide +kernel) rfl
theorem fX5_19 : Cond.fieldLink RX5 19 (TX5 2).1 (TX5 2).2.1 (TX5 2).2.2.1 ∈ tblG := tgi 280 (by decide +kernel) rfl
theorem fX8_236 : Cond.fieldLink RX8 236 (TX5 2).1 (TX5 2).2.1 (TX5 2).2.2.1 ∈ tblG := tgi 281 (by decide +kernel) rfl
theorem fX8_10 : Cond.fieldLink RX8 10 (TX8 0).1 (TX8 0).2.1 (TX8 0).2.2.1 ∈ tblG := tgi 290 (by decide +kernel) rfl
theorem fX8_16 : Cond.fieldLink RX8 16 (TX8 1).1 (TX8 1).2.1 (TX8 1).2.2.1 ∈ tblG := tgi 291 (by decide +kernel) rfl
theorem fX8_19 : Cond.fieldLink RX8 19 (TX8 2).1 (TX8 2).2.1 (TX8 2).2.2.1 ∈ tblG := tgi 292 (by decide +kernel) rfl
theorem fX8_25 : Cond.fieldLink RX8 25 (TX8 3).1 (TX8 3).2.1 (TX8 3).2.2.1 ∈ tblG := tgi 293 (by decide +kernel) rfl
theorem fX8_32 : Cond.fieldLink RX8 32 (TX8 4).1 (TX8 4).2.1 (TX8 4).2.2.1 ∈ tblG := tgi 294 (by decide +kernel) rfl
theorem fX8_38 : Cond.fieldLink RX8 38 (TX8 5).1 (TX8 5).2.1 (TX8 5).2.2.1 ∈ tblG := tgi 295 (by decide +kernel) rfl
theorem fX8_42 : Cond.fieldLink RX8 42 (TX8 6).1 (TX8 6).2.1 (TX8 6).2.2.1 ∈ tblG := tgi 296 (by decide +kernel) rfl
theorem fX8_46 : Cond.fieldLink RX8 46 (TX8 7).1 (TX8 7).2.1 (TX8 7).2.2.1 ∈ tblG := tgi 297 (by decide +kernel) rfl
theorem lL_13 : Cond.methodLink RL 13 yX8_seat ∈ tblG := tgi 315 (by decide +kernel) rfl
theorem lX8_51 : Cond.methodLink RX8 51 yX8_isSeat ∈ tblG := tgi 319 (by decide +kernel) rfl
theorem lX8_55 : Cond.methodLink RX8 55 yX4_most ∈ tblG := tgi 322 (by decide +kernel) rfl
theorem lX8_61 : Cond.methodLink RX8 61 yX8_tell ∈ tblG := tgi 325 (by decide +kernel) rfl
theorem kX8_268 : Cond.constant RX8 268 (zi (-1000000001)) ∈ tblG := tgi 329 (by decide +kernel) rfl
theorem lX8_68 : Cond.methodLink RX8 68 yX4_get ∈ tblG := tgi 330 (by decide +kernel) rfl
theorem lX8_71 : Cond.methodLink RX8 71 yX4_put ∈ tblG := tgi 334 (by decide +kernel) rfl
theorem lL_18 : Cond.methodLink RL 18 yX8_seatOf ∈ tblG := tgi 338 (by decide +kernel) rfl
theorem lL_23 : Cond.methodLink RL 23 yX8_rain ∈ tblG := tgi 342 (by decide +kernel) rfl
theorem lL_28 : Cond.methodLink RL 28 yX8_child ∈ tblG := tgi 346 (by decide +kernel) rfl
theorem lX8_79 : Cond.methodLink RX8 79 yX8_isKind ∈ tblG := tgi 350 (by decide +kernel) rfl
theorem lX8_82 : Cond.methodLink RX8 82 yX0_isFull ∈ tblG := tgi 353 (by decide +kernel) rfl
theorem lX8_86 : Cond.methodLink RX8 86 yX0_add ∈ tblG := tgi 357 (by decide +kernel) rfl
theorem lX0_45 : Cond.methodLink RX0 45 yX2_begin ∈ tblG := tgi 361 (by decide +kernel) rfl
theorem lL_32 : Cond.methodLink RL 32 yX8_of ∈ tblG := tgi 365 (by decide +kernel) rfl
theorem lX8_89 : Cond.methodLink RX8 89 yX0_has ∈ tblG := tgi 369 (by decide +kernel) rfl
theorem lX8_96 : Cond.methodLink RX8 96 yX0_fretsNow ∈ tblG := tgi 373 (by decide +kernel) rfl
theorem lX0_87 : Cond.methodLink RX0 87 yX2_sits ∈ tblG := tgi 377 (by decide +kernel) rfl
theorem lX0_71 : Cond.methodLink RX0 71 yX0_takenBeside ∈ tblG := tgi 381 (by decide +kernel) rfl
theorem lX0_97 : Cond.methodLink RX0 97 yX3_frets ∈ tblG := tgi 385 (by decide +kernel) rfl
theorem lX8_100 : Cond.methodLink RX8 100 yX2_get ∈ tblG := tgi 388 (by decide +kernel) rfl
theorem lL_36 : Cond.methodLink RL 36 yX8_set ∈ tblG := tgi 392 (by decide +kernel) rfl
theorem lX8_103 : Cond.methodLink RX8 103 yX2_most ∈ tblG := tgi 396 (by decide +kernel) rfl
theorem lX8_104 : Cond.methodLink RX8 104 yX2_put ∈ tblG := tgi 399 (by decide +kernel) rfl
theorem lL_40 : Cond.methodLink RL 40 yX8_turn ∈ tblG := tgi 403 (by decide +kernel) rfl
theorem lL_44 : Cond.methodLink RL 44 yX8_as ∈ tblG := tgi 407 (by decide +kernel) rfl
theorem lX8_108 : Cond.methodLink RX8 108 yX3_isOneOf ∈ tblG := tgi 411 (by decide +kernel) rfl
theorem fX3_13 : Cond.fieldLink RX3 13 "SeatStraps$Kinds" "ABOVE" "[I" ∈ tblG := tgi 415 (by decide +kernel) rfl
theorem lL_48 : Cond.methodLink RL 48 yX8_seconds ∈ tblG := tgi 417 (by decide +kernel) rfl
theorem lX8_117 : Cond.methodLink RX8 117 yX0_secondsFor ∈ tblG := tgi 421 (by decide +kernel) rfl
theorem lX0_52 : Cond.methodLink RX0 52 yX0_secondsAs ∈ tblG := tgi 425 (by decide +kernel) rfl
theorem lX0_56 : Cond.methodLink RX0 56 yX3_takes ∈ tblG := tgi 429 (by decide +kernel) rfl
theorem lL_52 : Cond.methodLink RL 52 yX8_snug ∈ tblG := tgi 432 (by decide +kernel) rfl
theorem lX8_121 : Cond.methodLink RX8 121 yX0_snugFor ∈ tblG := tgi 436 (by decide +kernel) rfl
theorem lX0_78 : Cond.methodLink RX0 78 yX3_snugs ∈ tblG := tgi 440 (by decide +kernel) rfl
theorem lX0_81 : Cond.methodLink RX0 81 yJ9_max_7cf53 ∈ tblG := tgi 443 (by decide +kernel) rfl
theorem lL_56 : Cond.methodLink RL 56 yX8_click ∈ tblG := tgi 446 (by decide +kernel) rfl
theorem lX8_124 : Cond.methodLink RX8 124 yX2_sits ∈ tblG := tgi 450 (by decide +kernel) rfl
theorem lX8_127 : Cond.methodLink RX8 127 yX4_isTaken ∈ tblG := tgi 451 (by decide +kernel) rfl
theorem lX8_130 : Cond.methodLink RX8 130 yX0_clickIn ∈ tblG := tgi 455 (by decide +kernel) rfl
theorem kX0_101 : Cond.constant RX0 101 (zi (99999)) ∈ tblG := tgi 459 (by decide +kernel) rfl
theorem lX0_102 : Cond.methodLink RX0 102 yJ9_min_7cf53 ∈ tblG := tgi 460 (by decide +kernel) rfl
theorem lX0_105 : Cond.methodLink RX0 105 yX0_snugFor ∈ tblG := tgi 463 (by decide +kernel) rfl
theorem lX0_111 : Cond.methodLink RX0 111 yX3_isOneOf ∈ tblG := tgi 464 (by decide +kernel) rfl
theorem lL_60 : Cond.methodLink RL 60 yX8_letOut ∈ tblG := tgi 465 (by decide +kernel) rfl
theorem lX8_139 : Cond.methodLink RX8 139 yX0_getOut ∈ tblG := tgi 469 (by decide +kernel) rfl
theorem lX0_118 : Cond.methodLink RX0 118 yX0_has ∈ tblG := tgi 473 (by decide +kernel) rfl
theorem lL_64 : Cond.methodLink RL 64 yX8_bribe ∈ tblG := tgi 474 (by decide +kernel) rfl
theorem lX8_143 : Cond.methodLink RX8 143 yX0_giveBribe ∈ tblG := tgi 478 (by decide +kernel) rfl
theorem lL_68 : Cond.methodLink RL 68 yX8_drive ∈ tblG := tgi 483 (by decide +kernel) rfl
theorem lX8_149 : Cond.methodLink RX8 149 yX0_passMinutes ∈ tblG := tgi 487 (by decide +kernel) rfl
theorem lX0_128 : Cond.methodLink RX0 128 yX0_passMinute ∈ tblG := tgi 491 (by decide +kernel) rfl
theorem lX0_131 : Cond.methodLink RX0 131 yX0_fretsNow ∈ tblG := tgi 495 (by decide +kernel) rfl
theorem lX0_135 : Cond.methodLink RX0 135 yX0_loosen ∈ tblG := tgi 496 (by decide +kernel) rfl
theorem lX0_138 : Cond.methodLink RX0 138 yX0_getOut ∈ tblG := tgi 500 (by decide +kernel) rfl
theorem lX8_152 : Cond.methodLink RX8 152 yX0_sitting ∈ tblG := tgi 501 (by decide +kernel) rfl
theorem lX0_141 : Cond.methodLink RX0 141 yX4_isTaken ∈ tblG := tgi 505 (by decide +kernel) rfl
theorem lL_72 : Cond.methodLink RL 72 yX8_now ∈ tblG := tgi 506 (by decide +kernel) rfl
theorem lX8_159 : Cond.methodLink RX8 159 yX0_moods ∈ tblG := tgi 510 (by decide +kernel) rfl
theorem lX8_162 : Cond.methodLink RX8 162 yX0_tights ∈ tblG := tgi 514 (by decide +kernel) rfl
theorem lL_76 : Cond.methodLink RL 76 yX8_on ∈ tblG := tgi 518 (by decide +kernel) rfl
theorem lX8_165 : Cond.methodLink RX8 165 yX0_become ∈ tblG := tgi 522 (by decide +kernel) rfl
theorem lX0_38 : Cond.methodLink RX0 38 yX4_become ∈ tblG := tgi 526 (by decide +kernel) rfl
theorem lX0_42 : Cond.methodLink RX0 42 yX2_become ∈ tblG := tgi 530 (by decide +kernel) rfl
theorem lL_80 : Cond.methodLink RL 80 yX8_out ∈ tblG := tgi 534 (by decide +kernel) rfl
theorem lX8_169 : Cond.methodLink RX8 169 yX0_passMinute ∈ tblG := tgi 538 (by decide +kernel) rfl
theorem lL_84 : Cond.methodLink RL 84 yX8_firstOut ∈ tblG := tgi 539 (by decide +kernel) rfl
theorem lL_89 : Cond.methodLink RL 89 yX8_quick ∈ tblG := tgi 543 (by decide +kernel) rfl
theorem lX8_172 : Cond.methodLink RX8 172 yX0_quickestSeat ∈ tblG := tgi 547 (by decide +kernel) rfl
theorem lX0_144 : Cond.methodLink RX0 144 yX0_secondsFor ∈ tblG := tgi 551 (by decide +kernel) rfl
theorem lL_93 : Cond.methodLink RL 93 yX8_safe ∈ tblG := tgi 552 (by decide +kernel) rfl
theorem lX8_175 : Cond.methodLink RX8 175 yX0_snuggestSeat ∈ tblG := tgi 556 (by decide +kernel) rfl
theorem lL_97 : Cond.methodLink RL 97 yX8_all ∈ tblG := tgi 560 (by decide +kernel) rfl
theorem lX8_178 : Cond.methodLink RX8 178 yX0_hasSet ∈ tblG := tgi 564 (by decide +kernel) rfl
theorem lX8_181 : Cond.methodLink RX8 181 yJ6_bitCount_0f7a4 ∈ tblG := tgi 568 (by decide +kernel) rfl
theorem kJ6_265 : Cond.constant RJ6 265 (zi (1431655765)) ∈ tblG := tgi 571 (by decide +kernel) rfl
theorem kJ6_266 : Cond.constant RJ6 266 (zi (858993459)) ∈ tblG := tgi 572 (by decide +kernel) rfl
theorem kJ6_267 : Cond.constant RJ6 267 (zi (252645135)) ∈ tblG := tgi 573 (by decide +kernel) rfl
theorem lX8_186 : Cond.methodLink RX8 186 yX7_find ∈ tblG := tgi 574 (by decide +kernel) rfl
theorem lX7_32 : Cond.methodLink RX7 32 yX7_listThree ∈ tblG := tgi 578 (by decide +kernel) rfl
theorem lX7_36 : Cond.methodLink RX7 36 yX7_findFrom ∈ tblG := tgi 582 (by decide +kernel) rfl
theorem lX7_40 : Cond.methodLink RX7 40 yX0_become ∈ tblG := tgi 586 (by decide +kernel) rfl
theorem lX7_44 : Cond.methodLink RX7 44 yX7_takeStep ∈ tblG := tgi 587 (by decide +kernel) rfl
theorem lX7_51 : Cond.methodLink RX7 51 yX0_secondsFor ∈ tblG := tgi 591 (by decide +kernel) rfl
theorem lX7_55 : Cond.methodLink RX7 55 yX0_clickIn ∈ tblG := tgi 592 (by decide +kernel) rfl
theorem lX7_48 : Cond.methodLink RX7 48 yX7_keepIfBetter ∈ tblG := tgi 593 (by decide +kernel) rfl
theorem lL_101 : Cond.methodLink RL 101 yX8_way ∈ tblG := tgi 600 (by decide +kernel) rfl
theorem lL_105 : Cond.methodLink RL 105 yX8_kind ∈ tblG := tgi 604 (by decide +kernel) rfl
theorem lX8_196 : Cond.methodLink RX8 196 yX0_secondsAs ∈ tblG := tgi 608 (by decide +kernel) rfl
theorem lL_109 : Cond.methodLink RL 109 yX8_bribes ∈ tblG := tgi 609 (by decide +kernel) rfl
theorem lX8_200 : Cond.methodLink RX8 200 yX8_staysInTrial ∈ tblG := tgi 613 (by decide +kernel) rfl
theorem lL_113 : Cond.methodLink RL 113 yX8_coat ∈ tblG := tgi 617 (by decide +kernel) rfl
theorem lL_117 : Cond.methodLink RL 117 yX8_mood ∈ tblG := tgi 621 (by decide +kernel) rfl
theorem lL_121 : Cond.methodLink RL 121 yX8_worst ∈ tblG := tgi 625 (by decide +kernel) rfl
theorem lL_125 : Cond.methodLink RL 125 yX8_feed ∈ tblG := tgi 629 (by decide +kernel) rfl
theorem lX8_218 : Cond.methodLink RX8 218 yX6_add ∈ tblG := tgi 633 (by decide +kernel) rfl
theorem lL_129 : Cond.methodLink RL 129 yX8_wipe ∈ tblG := tgi 637 (by decide +kernel) rfl
theorem lL_133 : Cond.methodLink RL 133 yX8_car ∈ tblG := tgi 641 (by decide +kernel) rfl
theorem lX8_220 : Cond.methodLink RX8 220 yX1_parse ∈ tblG := tgi 645 (by decide +kernel) rfl
theorem lX1_22 : Cond.methodLink RX1 22 yX6_first ∈ tblG := tgi 649 (by decide +kernel) rfl
theorem lX6_31 : Cond.methodLink RX6 31 yX6_next ∈ tblG := tgi 653 (by decide +kernel) rfl
theorem lX6_34 : Cond.methodLink RX6 34 yX6_byteAt ∈ tblG := tgi 657 (by decide +kernel) rfl
theorem lX6_38 : Cond.methodLink RX6 38 yX6_tokenWith ∈ tblG := tgi 661 (by decide +kernel) rfl
theorem lX6_41 : Cond.methodLink RX6 41 yJ9_min_7cf53 ∈ tblG := tgi 664 (by decide +kernel) rfl
theorem lX1_25 : Cond.methodLink RX1 25 yX1_parseItem ∈ tblG := tgi 665 (by decide +kernel) rfl
theorem lX1_42 : Cond.methodLink RX1 42 yX1_kindNamed ∈ tblG := tgi 669 (by decide +kernel) rfl
theorem lX1_121 : Cond.methodLink RX1 121 yX1_nameOf ∈ tblG := tgi 673 (by decide +kernel) rfl
theorem lX1_56 : Cond.methodLink RX1 56 yX6_isWord ∈ tblG := tgi 682 (by decide +kernel) rfl
theorem lX6_47 : Cond.methodLink RX6 47 yJ0_length_8abf5 ∈ tblG := tgi 686 (by decide +kernel) rfl
theorem lJ0_335 : Cond.methodLink RJ0 335 yJ0_coder_7d493 ∈ tblG := tgi 690 (by decide +kernel) rfl
theorem fJ0_38 : Cond.fieldLink RJ0 38 "java/lang/String" "COMPACT_STRINGS" "Z" ∈ tblG := tgi 694 (by decide +kernel) rfl
theorem lX6_52 : Cond.methodLink RX6 52 yJ0_charAt_5068e ∈ tblG := tgi 696 (by decide +kernel) rfl
theorem lJ0_492 : Cond.methodLink RJ0 492 yJ0_isLatin1_aae02 ∈ tblG := tgi 700 (by decide +kernel) rfl
theorem lJ0_495 : Cond.methodLink RJ0 495 yJ1_charAt_3b067 ∈ tblG := tgi 704 (by decide +kernel) rfl
theorem lJ1_9 : Cond.methodLink RJ1 9 yJ0_checkIndex_df160 ∈ tblG := tgi 707 (by decide +kernel) rfl
theorem fJ0_1053 : Cond.fieldLink RJ0 1053 "jdk/internal/util/Preconditions" "SIOOBE_FORMATTER" "Ljava/util/function/BiFunction;" ∈ tblG := tgi 710 (by decide +kernel) rfl
theorem lJ0_1059 : Cond.methodLink RJ0 1059 yJ3_checkIndex_8e157 ∈ tblG := tgi 712 (by decide +kernel) rfl
theorem lJ0_498 : Cond.methodLink RJ0 498 yJ2_charAt_3b067 ∈ tblG := tgi 715 (by decide +kernel) rfl
theorem lJ2_67 : Cond.methodLink RJ2 67 yJ2_checkIndex_2214a ∈ tblG := tgi 718 (by decide +kernel) rfl
theorem lJ2_48 : Cond.methodLink RJ2 48 yJ2_length_9d52b ∈ tblG := tgi 721 (by decide +kernel) rfl
theorem lJ2_414 : Cond.methodLink RJ2 414 yJ0_checkIndex_df160 ∈ tblG := tgi 724 (by decide +kernel) rfl
theorem lJ2_71 : Cond.methodLink RJ2 71 yJ2_getChar_3b067 ∈ tblG := tgi 725 (by decide +kernel) rfl
theorem fJ2_44 : Cond.fieldLink RJ2 44 "java/lang/StringUTF16" "$assertionsDisabled" "Z" ∈ tblG := tgi 728 (by decide +kernel) rfl
theorem fJ2_59 : Cond.fieldLink RJ2 59 "java/lang/StringUTF16" "HI_BYTE_SHIFT" "I" ∈ tblG := tgi 730 (by decide +kernel) rfl
theorem fJ2_63 : Cond.fieldLink RJ2 63 "java/lang/StringUTF16" "LO_BYTE_SHIFT" "I" ∈ tblG := tgi 732 (by decide +kernel) rfl
theorem lX1_50 : Cond.methodLink RX1 50 yX1_parseChild ∈ tblG := tgi 735 (by decide +kernel) rfl
theorem lX1_73 : Cond.methodLink RX1 73 yX0_isFull ∈ tblG := tgi 739 (by decide +kernel) rfl
theorem lX1_80 : Cond.methodLink RX1 80 yX0_add ∈ tblG := tgi 740 (by decide +kernel) rfl
theorem lX1_39 : Cond.methodLink RX1 39 yX6_next ∈ tblG := tgi 741 (by decide +kernel) rfl
theorem lX1_65 : Cond.methodLink RX1 65 yX1_numberBehind ∈ tblG := tgi 743 (by decide +kernel) rfl
theorem lX1_118 : Cond.methodLink RX1 118 yX6_numberUpTo ∈ tblG := tgi 747 (by decide +kernel) rfl
theorem lX1_29 : Cond.methodLink RX1 29 yX1_hasFault ∈ tblG := tgi 751 (by decide +kernel) rfl
theorem lX1_60 : Cond.methodLink RX1 60 yX1_parseSeat ∈ tblG := tgi 758 (by decide +kernel) rfl
theorem lX8_224 : Cond.methodLink RX8 224 yX1_hasFault ∈ tblG := tgi 767 (by decide +kernel) rfl
theorem lL_137 : Cond.methodLink RL 137 yX8_sheet ∈ tblG := tgi 769 (by decide +kernel) rfl
theorem lX8_230 : Cond.methodLink RX8 230 yX8_isSheet ∈ tblG := tgi 773 (by decide +kernel) rfl
theorem lX8_233 : Cond.methodLink RX8 233 yX5_make ∈ tblG := tgi 776 (by decide +kernel) rfl
theorem lL_143 : Cond.methodLink RL 143 yX8_write ∈ tblG := tgi 780 (by decide +kernel) rfl
theorem lX8_237 : Cond.methodLink RX8 237 yX5_isMissing ∈ tblG := tgi 784 (by decide +kernel) rfl
theorem lX8_244 : Cond.methodLink RX8 244 yX5_put ∈ tblG := tgi 788 (by decide +kernel) rfl
theorem lL_148 : Cond.methodLink RL 148 yX8_copy ∈ tblG := tgi 792 (by decide +kernel) rfl
theorem lX8_250 : Cond.methodLink RX8 250 yX5_holds ∈ tblG := tgi 796 (by decide +kernel) rfl
theorem lL_153 : Cond.methodLink RL 153 yX8_lays ∈ tblG := tgi 801 (by decide +kernel) rfl
theorem kX8_259 : Cond.constantLong RX8 259 (zl (9)) ∈ tblG := tgi 805 (by decide +kernel) rfl
theorem lL_157 : Cond.methodLink RL 157 yX8_book ∈ tblG := tgi 806 (by decide +kernel) rfl
theorem lL_161 : Cond.methodLink RL 161 yX8_read ∈ tblG := tgi 810 (by decide +kernel) rfl
theorem lX8_261 : Cond.methodLink RX8 261 yX8_trialTells ∈ tblG := tgi 814 (by decide +kernel) rfl
theorem lL_165 : Cond.methodLink RL 165 yX8_image ∈ tblG := tgi 818 (by decide +kernel) rfl
theorem lL_169 : Cond.methodLink RL 169 yX8_undo ∈ tblG := tgi 822 (by decide +kernel) rfl
theorem lL_173 : Cond.methodLink RL 173 yX8_tear ∈ tblG := tgi 826 (by decide +kernel) rfl
theorem lL_177 : Cond.methodLink RL 177 yX8_count ∈ tblG := tgi 830 (by decide +kernel) rfl
theorem lX8_265 : Cond.methodLink RX8 265 yX0_wears ∈ tblG := tgi 834 (by decide +kernel) rfl
theorem lL_181 : Cond.methodLink RL 181 yX8_status ∈ tblG := tgi 838 (by decide +kernel) rfl
theorem lL_12 : Cond.methodLink RL 12 yX9_init ∈ tblG := tgi 844 (by decide +kernel) rfl
theorem lX9_47 : Cond.methodLink RX9 47 yX9_spotOf ∈ tblG := tgi 848 (by decide +kernel) rfl
theorem fX9_7 : Cond.fieldLink RX9 7 (TX9 0).1 (TX9 0).2.1 (TX9 0).2.2.1 ∈ tblG := tgi 851 (by decide +kernel) rfl
theorem fX9_13 : Cond.fieldLink RX9 13 (TX9 1).1 (TX9 1).2.1 (TX9 1).2.2.1 ∈ tblG := tgi 852 (by decide +kernel) rfl
theorem fX9_16 : Cond.fieldLink RX9 16 (TX9 2).1 (TX9 2).2.1 (TX9 2).2.2.1 ∈ tblG := tgi 853 (by decide +kernel) rfl
theorem fX9_19 : Cond.fieldLink RX9 19 (TX9 3).1 (TX9 3).2.1 (TX9 3).2.2.1 ∈ tblG := tgi 854 (by decide +kernel) rfl
theorem fX9_22 : Cond.fieldLink RX9 22 (TX9 4).1 (TX9 4).2.1 (TX9 4).2.2.1 ∈ tblG := tgi 855 (by decide +kernel) rfl
theorem fX9_315 : Cond.fieldLink RX9 315 (TX9 5).1 (TX9 5).2.1 (TX9 5).2.2.1 ∈ tblG := tgi 856 (by decide +kernel) rfl
theorem fX9_25 : Cond.fieldLink RX9 25 (TX9 6).1 (TX9 6).2.1 (TX9 6).2.2.1 ∈ tblG := tgi 857 (by decide +kernel) rfl
theorem fX9_28 : Cond.fieldLink RX9 28 (TX9 7).1 (TX9 7).2.1 (TX9 7).2.2.1 ∈ tblG := tgi 858 (by decide +kernel) rfl
theorem fX9_171 : Cond.fieldLink RX9 171 (TX9 8).1 (TX9 8).2.1 (TX9 8).2.2.1 ∈ tblG := tgi 859 (by decide +kernel) rfl
theorem fX9_31 : Cond.fieldLink RX9 31 (TX9 9).1 (TX9 9).2.1 (TX9 9).2.2.1 ∈ tblG := tgi 860 (by decide +kernel) rfl
theorem fX9_190 : Cond.fieldLink RX9 190 (TX9 10).1 (TX9 10).2.1 (TX9 10).2.2.1 ∈ tblG := tgi 861 (by decide +kernel) rfl
theorem fX9_204 : Cond.fieldLink RX9 204 (TX9 11).1 (TX9 11).2.1 (TX9 11).2.2.1 ∈ tblG := tgi 862 (by decide +kernel) rfl
theorem fX9_201 : Cond.fieldLink RX9 201 (TX9 12).1 (TX9 12).2.1 (TX9 12).2.2.1 ∈ tblG := tgi 863 (by decide +kernel) rfl
theorem fX9_227 : Cond.fieldLink RX9 227 (TX9 13).1 (TX9 13).2.1 (TX9 13).2.2.1 ∈ tblG := tgi 864 (by decide +kernel) rfl
theorem fX9_216 : Cond.fieldLink RX9 216 (TX9 14).1 (TX9 14).2.1 (TX9 14).2.2.1 ∈ tblG := tgi 865 (by decide +kernel) rfl
theorem fX9_34 : Cond.fieldLink RX9 34 (TX9 15).1 (TX9 15).2.1 (TX9 15).2.2.1 ∈ tblG := tgi 866 (by decide +kernel) rfl
theorem fX9_37 : Cond.fieldLink RX9 37 (TX9 16).1 (TX9 16).2.1 (TX9 16).2.2.1 ∈ tblG := tgi 867 (by decide +kernel) rfl
theorem fX9_40 : Cond.fieldLink RX9 40 (TX9 17).1 (TX9 17).2.1 (TX9 17).2.2.1 ∈ tblG := tgi 868 (by decide +kernel) rfl
theorem fX9_44 : Cond.fieldLink RX9 44 (TX9 18).1 (TX9 18).2.1 (TX9 18).2.2.1 ∈ tblG := tgi 869 (by decide +kernel) rfl
theorem lL_17 : Cond.methodLink RL 17 yX9_seat ∈ tblG := tgi 909 (by decide +kernel) rfl
theorem kX9_52 : Cond.constantLong RX9 52 (zl (2)) ∈ tblG := tgi 913 (by decide +kernel) rfl
theorem lX9_54 : Cond.methodLink RX9 54 yX9_in ∈ tblG := tgi 914 (by decide +kernel) rfl
theorem kX9_58 : Cond.constantLong RX9 58 (zl (5)) ∈ tblG := tgi 917 (by decide +kernel) rfl
theorem kX9_66 : Cond.constantLong RX9 66 (zl (9)) ∈ tblG := tgi 918 (by decide +kernel) rfl
theorem lX9_68 : Cond.methodLink RX9 68 yX9_isSeat ∈ tblG := tgi 919 (by decide +kernel) rfl
theorem lX9_72 : Cond.methodLink RX9 72 yX9_becomes ∈ tblG := tgi 922 (by decide +kernel) rfl
theorem kX9_51 : Cond.constant RX9 51 (zi (-1000000001)) ∈ tblG := tgi 926 (by decide +kernel) rfl
theorem lX9_75 : Cond.methodLink RX9 75 yX9_finds ∈ tblG := tgi 927 (by decide +kernel) rfl
theorem lL_22 : Cond.methodLink RL 22 yX9_seatOf ∈ tblG := tgi 931 (by decide +kernel) rfl
theorem kX9_79 : Cond.constantLong RX9 79 (zl (4)) ∈ tblG := tgi 935 (by decide +kernel) rfl
theorem lX9_63 : Cond.methodLink RX9 63 yX9_its ∈ tblG := tgi 936 (by decide +kernel) rfl
theorem lL_27 : Cond.methodLink RL 27 yX9_rain ∈ tblG := tgi 940 (by decide +kernel) rfl
theorem lL_31 : Cond.methodLink RL 31 yX9_child ∈ tblG := tgi 944 (by decide +kernel) rfl
theorem lX9_81 : Cond.methodLink RX9 81 yX9_isKind ∈ tblG := tgi 948 (by decide +kernel) rfl
theorem kX9_84 : Cond.constant RX9 84 (zi (-1000000002)) ∈ tblG := tgi 951 (by decide +kernel) rfl
theorem lX9_85 : Cond.methodLink RX9 85 yX9_adds ∈ tblG := tgi 952 (by decide +kernel) rfl
theorem lX9_60 : Cond.methodLink RX9 60 yX9_placeOf ∈ tblG := tgi 956 (by decide +kernel) rfl
theorem lL_35 : Cond.methodLink RL 35 yX9_of ∈ tblG := tgi 959 (by decide +kernel) rfl
theorem lX9_100 : Cond.methodLink RX9 100 yX9_isChild ∈ tblG := tgi 963 (by decide +kernel) rfl
theorem kX9_103 : Cond.constantLong RX9 103 (zl (7)) ∈ tblG := tgi 967 (by decide +kernel) rfl
theorem lX9_94 : Cond.methodLink RX9 94 yX9_told ∈ tblG := tgi 968 (by decide +kernel) rfl
theorem lX9_91 : Cond.methodLink RX9 91 yX9_seatedAt ∈ tblG := tgi 972 (by decide +kernel) rfl
theorem lX9_105 : Cond.methodLink RX9 105 yX9_frets ∈ tblG := tgi 976 (by decide +kernel) rfl
theorem lX9_97 : Cond.methodLink RX9 97 yX9_isNear ∈ tblG := tgi 980 (by decide +kernel) rfl
theorem lX9_88 : Cond.methodLink RX9 88 yX9_isTaken ∈ tblG := tgi 984 (by decide +kernel) rfl
theorem lL_39 : Cond.methodLink RL 39 yX9_set ∈ tblG := tgi 988 (by decide +kernel) rfl
theorem kX9_108 : Cond.constantLong RX9 108 (zl (99)) ∈ tblG := tgi 992 (by decide +kernel) rfl
theorem lL_43 : Cond.methodLink RL 43 yX9_turn ∈ tblG := tgi 993 (by decide +kernel) rfl
theorem lL_47 : Cond.methodLink RL 47 yX9_as ∈ tblG := tgi 997 (by decide +kernel) rfl
theorem lX9_110 : Cond.methodLink RX9 110 yX9_isUnder ∈ tblG := tgi 1001 (by decide +kernel) rfl
theorem kX9_114 : Cond.constant RX9 114 (zi (-1000000003)) ∈ tblG := tgi 1004 (by decide +kernel) rfl
theorem lL_51 : Cond.methodLink RL 51 yX9_seconds ∈ tblG := tgi 1005 (by decide +kernel) rfl
theorem lX9_118 : Cond.methodLink RX9 118 yX9_secondsOf ∈ tblG := tgi 1009 (by decide +kernel) rfl
theorem lX9_115 : Cond.methodLink RX9 115 yX9_takes ∈ tblG := tgi 1013 (by decide +kernel) rfl
theorem lL_55 : Cond.methodLink RL 55 yX9_snug ∈ tblG := tgi 1017 (by decide +kernel) rfl
theorem lX9_121 : Cond.methodLink RX9 121 yX9_snugOf ∈ tblG := tgi 1021 (by decide +kernel) rfl
theorem lL_59 : Cond.methodLink RL 59 yX9_click ∈ tblG := tgi 1025 (by decide +kernel) rfl
theorem kX9_128 : Cond.constant RX9 128 (zi (-1000000005)) ∈ tblG := tgi 1029 (by decide +kernel) rfl
theorem lX9_129 : Cond.methodLink RX9 129 yX9_clicks ∈ tblG := tgi 1030 (by decide +kernel) rfl
theorem kX9_124 : Cond.constant RX9 124 (zi (99999)) ∈ tblG := tgi 1034 (by decide +kernel) rfl
theorem lX9_125 : Cond.methodLink RX9 125 yX9_heldTo ∈ tblG := tgi 1035 (by decide +kernel) rfl
theorem lL_63 : Cond.methodLink RL 63 yX9_letOut ∈ tblG := tgi 1038 (by decide +kernel) rfl
theorem lX9_132 : Cond.methodLink RX9 132 yX9_goesOut ∈ tblG := tgi 1042 (by decide +kernel) rfl
theorem lL_67 : Cond.methodLink RL 67 yX9_bribe ∈ tblG := tgi 1046 (by decide +kernel) rfl
theorem lX9_136 : Cond.methodLink RX9 136 yX9_bribed ∈ tblG := tgi 1050 (by decide +kernel) rfl
theorem lL_71 : Cond.methodLink RL 71 yX9_drive ∈ tblG := tgi 1054 (by decide +kernel) rfl
theorem kX9_142 : Cond.constantLong RX9 142 (zl (60)) ∈ tblG := tgi 1058 (by decide +kernel) rfl
theorem lX9_144 : Cond.methodLink RX9 144 yX9_minutesGo ∈ tblG := tgi 1059 (by decide +kernel) rfl
theorem lX9_139 : Cond.methodLink RX9 139 yX9_minute ∈ tblG := tgi 1063 (by decide +kernel) rfl
theorem lX9_147 : Cond.methodLink RX9 147 yX9_seated ∈ tblG := tgi 1067 (by decide +kernel) rfl
theorem lL_75 : Cond.methodLink RL 75 yX9_now ∈ tblG := tgi 1071 (by decide +kernel) rfl
theorem lX9_151 : Cond.methodLink RX9 151 yX9_together ∈ tblG := tgi 1075 (by decide +kernel) rfl
theorem lL_79 : Cond.methodLink RL 79 yX9_on ∈ tblG := tgi 1079 (by decide +kernel) rfl
theorem lX9_154 : Cond.methodLink RX9 154 yX9_laysAside ∈ tblG := tgi 1083 (by decide +kernel) rfl
theorem lX9_157 : Cond.methodLink RX9 157 yX9_takesBack ∈ tblG := tgi 1087 (by decide +kernel) rfl
theorem lL_83 : Cond.methodLink RL 83 yX9_out ∈ tblG := tgi 1091 (by decide +kernel) rfl
theorem lX9_160 : Cond.methodLink RX9 160 yX9_outIn ∈ tblG := tgi 1095 (by decide +kernel) rfl
theorem kX9_163 : Cond.constant RX9 163 (zi (-1000000004)) ∈ tblG := tgi 1099 (by decide +kernel) rfl
theorem lL_88 : Cond.methodLink RL 88 yX9_firstOut ∈ tblG := tgi 1100 (by decide +kernel) rfl
theorem lL_92 : Cond.methodLink RL 92 yX9_quick ∈ tblG := tgi 1104 (by decide +kernel) rfl
theorem lX9_164 : Cond.methodLink RX9 164 yX9_wrongSeeker ∈ tblG := tgi 1108 (by decide +kernel) rfl
theorem lL_96 : Cond.methodLink RL 96 yX9_safe ∈ tblG := tgi 1112 (by decide +kernel) rfl
theorem lL_100 : Cond.methodLink RL 100 yX9_all ∈ tblG := tgi 1116 (by decide +kernel) rfl
theorem lX9_178 : Cond.methodLink RX9 178 yX9_wrongThree ∈ tblG := tgi 1120 (by decide +kernel) rfl
theorem lX9_167 : Cond.methodLink RX9 167 yX9_ones ∈ tblG := tgi 1124 (by decide +kernel) rfl
theorem kX9_170 : Cond.constant RX9 170 (zi (-1000000007)) ∈ tblG := tgi 1127 (by decide +kernel) rfl
theorem lX9_181 : Cond.methodLink RX9 181 yX9_findWay ∈ tblG := tgi 1128 (by decide +kernel) rfl
theorem lX9_175 : Cond.methodLink RX9 175 yX9_isWay ∈ tblG := tgi 1132 (by decide +kernel) rfl
theorem lL_104 : Cond.methodLink RL 104 yX9_way ∈ tblG := tgi 1136 (by decide +kernel) rfl
theorem lL_108 : Cond.methodLink RL 108 yX9_kind ∈ tblG := tgi 1140 (by decide +kernel) rfl
theorem lL_112 : Cond.methodLink RL 112 yX9_bribes ∈ tblG := tgi 1144 (by decide +kernel) rfl
theorem lX9_184 : Cond.methodLink RX9 184 yX9_wrongStay ∈ tblG := tgi 1148 (by decide +kernel) rfl
theorem lX9_187 : Cond.methodLink RX9 187 yX9_isInStill ∈ tblG := tgi 1152 (by decide +kernel) rfl
theorem lL_116 : Cond.methodLink RL 116 yX9_coat ∈ tblG := tgi 1156 (by decide +kernel) rfl
theorem lL_120 : Cond.methodLink RL 120 yX9_mood ∈ tblG := tgi 1160 (by decide +kernel) rfl
theorem lL_124 : Cond.methodLink RL 124 yX9_worst ∈ tblG := tgi 1164 (by decide +kernel) rfl
theorem lL_128 : Cond.methodLink RL 128 yX9_feed ∈ tblG := tgi 1168 (by decide +kernel) rfl
theorem lL_132 : Cond.methodLink RL 132 yX9_wipe ∈ tblG := tgi 1172 (by decide +kernel) rfl
theorem lL_136 : Cond.methodLink RL 136 yX9_car ∈ tblG := tgi 1176 (by decide +kernel) rfl
theorem lX9_287 : Cond.methodLink RX9 287 yX9_saves ∈ tblG := tgi 1180 (by decide +kernel) rfl
theorem lX9_220 : Cond.methodLink RX9 220 yX9_token ∈ tblG := tgi 1184 (by decide +kernel) rfl
theorem lX9_207 : Cond.methodLink RX9 207 yX9_byteAt ∈ tblG := tgi 1188 (by decide +kernel) rfl
theorem lX9_210 : Cond.methodLink RX9 210 yX9_isLetter ∈ tblG := tgi 1192 (by decide +kernel) rfl
theorem kX9_193 : Cond.constantLong RX9 193 (zl (97)) ∈ tblG := tgi 1195 (by decide +kernel) rfl
theorem kX9_195 : Cond.constantLong RX9 195 (zl (122)) ∈ tblG := tgi 1196 (by decide +kernel) rfl
theorem lX9_213 : Cond.methodLink RX9 213 yX9_isDigit ∈ tblG := tgi 1197 (by decide +kernel) rfl
theorem kX9_197 : Cond.constantLong RX9 197 (zl (48)) ∈ tblG := tgi 1200 (by decide +kernel) rfl
theorem kX9_199 : Cond.constantLong RX9 199 (zl (57)) ∈ tblG := tgi 1201 (by decide +kernel) rfl
theorem lX9_290 : Cond.methodLink RX9 290 yX9_item ∈ tblG := tgi 1202 (by decide +kernel) rfl
theorem lX9_274 : Cond.methodLink RX9 274 yX9_kindHere ∈ tblG := tgi 1206 (by decide +kernel) rfl
theorem lX9_234 : Cond.methodLink RX9 234 yX9_word ∈ tblG := tgi 1210 (by decide +kernel) rfl
theorem kX9_223 : Cond.constantLong RX9 223 (zl (36028797018963967)) ∈ tblG := tgi 1214 (by decide +kernel) rfl
theorem kX9_225 : Cond.constantLong RX9 225 (zl (32)) ∈ tblG := tgi 1215 (by decide +kernel) rfl
theorem kX9_238 : Cond.constantLong RX9 238 (zl (3417476)) ∈ tblG := tgi 1216 (by decide +kernel) rfl
theorem kX9_240 : Cond.constantLong RX9 240 (zl (52535474)) ∈ tblG := tgi 1217 (by decide +kernel) rfl
theorem kX9_242 : Cond.constantLong RX9 242 (zl (2343)) ∈ tblG := tgi 1218 (by decide +kernel) rfl
theorem kX9_244 : Cond.constantLong RX9 244 (zl (66649)) ∈ tblG := tgi 1219 (by decide +kernel) rfl
theorem kX9_246 : Cond.constantLong RX9 246 (zl (284930226)) ∈ tblG := tgi 1220 (by decide +kernel) rfl
theorem kX9_248 : Cond.constantLong RX9 248 (zl (628102)) ∈ tblG := tgi 1221 (by decide +kernel) rfl
theorem lX9_277 : Cond.methodLink RX9 277 yX9_childItem ∈ tblG := tgi 1222 (by decide +kernel) rfl
theorem lX9_230 : Cond.methodLink RX9 230 yX9_must ∈ tblG := tgi 1226 (by decide +kernel) rfl
theorem kX9_254 : Cond.constantLong RX9 254 (zl (632645)) ∈ tblG := tgi 1230 (by decide +kernel) rfl
theorem lX9_256 : Cond.methodLink RX9 256 yX9_partItem ∈ tblG := tgi 1231 (by decide +kernel) rfl
theorem lX9_250 : Cond.methodLink RX9 250 yX9_number ∈ tblG := tgi 1235 (by decide +kernel) rfl
theorem kX9_260 : Cond.constantLong RX9 260 (zl (441828)) ∈ tblG := tgi 1239 (by decide +kernel) rfl
theorem kX9_262 : Cond.constantLong RX9 262 (zl (113716)) ∈ tblG := tgi 1240 (by decide +kernel) rfl
theorem lX9_264 : Cond.methodLink RX9 264 yX9_mayBe ∈ tblG := tgi 1241 (by decide +kernel) rfl
theorem kX9_280 : Cond.constantLong RX9 280 (zl (627764)) ∈ tblG := tgi 1245 (by decide +kernel) rfl
theorem lX9_282 : Cond.methodLink RX9 282 yX9_seatItem ∈ tblG := tgi 1246 (by decide +kernel) rfl
theorem kX9_268 : Cond.constantLong RX9 268 (zl (695520915)) ∈ tblG := tgi 1250 (by decide +kernel) rfl
theorem kX9_270 : Cond.constantLong RX9 270 (zl (120239187)) ∈ tblG := tgi 1251 (by decide +kernel) rfl
theorem kX9_272 : Cond.constantLong RX9 272 (zl (693713060)) ∈ tblG := tgi 1252 (by decide +kernel) rfl
theorem kX9_285 : Cond.constantLong RX9 285 (zl (591150)) ∈ tblG := tgi 1253 (by decide +kernel) rfl
theorem lX9_293 : Cond.methodLink RX9 293 yX9_putsBack ∈ tblG := tgi 1254 (by decide +kernel) rfl
theorem lL_140 : Cond.methodLink RL 140 yX9_sheet ∈ tblG := tgi 1258 (by decide +kernel) rfl
theorem lX9_298 : Cond.methodLink RX9 298 yX9_isOne ∈ tblG := tgi 1262 (by decide +kernel) rfl
theorem kX9_296 : Cond.constantLong RX9 296 (zl (3)) ∈ tblG := tgi 1265 (by decide +kernel) rfl
theorem lL_147 : Cond.methodLink RL 147 yX9_write ∈ tblG := tgi 1266 (by decide +kernel) rfl
theorem lX9_302 : Cond.methodLink RX9 302 yX9_wrongSheet ∈ tblG := tgi 1270 (by decide +kernel) rfl
theorem kX9_301 : Cond.constant RX9 301 (zi (-1000000006)) ∈ tblG := tgi 1274 (by decide +kernel) rfl
theorem lX9_305 : Cond.methodLink RX9 305 yX9_narrowed ∈ tblG := tgi 1275 (by decide +kernel) rfl
theorem lL_152 : Cond.methodLink RL 152 yX9_copy ∈ tblG := tgi 1278 (by decide +kernel) rfl
theorem lL_156 : Cond.methodLink RL 156 yX9_lays ∈ tblG := tgi 1282 (by decide +kernel) rfl
theorem lL_160 : Cond.methodLink RL 160 yX9_book ∈ tblG := tgi 1286 (by decide +kernel) rfl
theorem lX9_309 : Cond.methodLink RX9 309 yX9_wrongBook ∈ tblG := tgi 1290 (by decide +kernel) rfl
theorem lL_164 : Cond.methodLink RL 164 yX9_read ∈ tblG := tgi 1294 (by decide +kernel) rfl
theorem lX9_312 : Cond.methodLink RX9 312 yX9_isBook ∈ tblG := tgi 1298 (by decide +kernel) rfl
theorem lL_168 : Cond.methodLink RL 168 yX9_image ∈ tblG := tgi 1302 (by decide +kernel) rfl
theorem lL_172 : Cond.methodLink RL 172 yX9_undo ∈ tblG := tgi 1306 (by decide +kernel) rfl
theorem lL_176 : Cond.methodLink RL 176 yX9_tear ∈ tblG := tgi 1310 (by decide +kernel) rfl
theorem lL_180 : Cond.methodLink RL 180 yX9_count ∈ tblG := tgi 1314 (by decide +kernel) rfl
theorem lX9_318 : Cond.methodLink RX9 318 yX9_wears ∈ tblG := tgi 1318 (by decide +kernel) rfl
theorem lL_184 : Cond.methodLink RL 184 yX9_status ∈ tblG := tgi 1322 (by decide +kernel) rfl
theorem kX9_321 : Cond.constantLong RX9 321 (zl (-1)) ∈ tblG := tgi 1326 (by decide +kernel) rfl
theorem kX9_323 : Cond.constantLong RX9 323 (zl (6)) ∈ tblG := tgi 1327 (by decide +kernel) rfl
theorem kL_141 : Cond.constantLong RL 141 (zl (4294967295)) ∈ tblG := tgi 1328 (by decide +kernel) rfl
theorem fJ0_9 : Cond.fieldLink RJ0 9 "java/lang/String" "value" "[B" ∈ tblG := tgi 1329 (by decide +kernel) rfl
theorem fJ0_15 : Cond.fieldLink RJ0 15 "java/lang/String" "coder" "B" ∈ tblG := tgi 1330 (by decide +kernel) rfl
end
section
/-! shapes of the cells (laid by wip/whole/gen/tables.py) -/
theorem zs_cls : zsh 4 0 = some (.inl (7, [some (0, 0), some (1, 0), some (2, 0), some (4, 1), some (4, 4), some (4, 8), some (4, 17), none])) := rfl
theorem zs_txt : zsh 4 1 = some (.inl (1, [some (4, 2), none])) := rfl
theorem zs_tape : zsh 4 2 = some (.inl (5, [some (4, 3), none, none, none, none, none])) := rfl
theorem zs_byt : zsh 4 3 = some (.inr (.inl 120)) := rfl
theorem zs_ways : zsh 4 4 = some (.inl (6, [some (3, 0), some (4, 5), some (4, 6), some (4, 7), none])) := rfl
theorem zs_three : zsh 4 5 = some (.inr (.inl 3)) := rfl
theorem zs_steps : zsh 4 6 = some (.inr (.inl 3)) := rfl
theorem zs_best : zsh 4 7 = some (.inr (.inl 3)) := rfl
theorem zs_sheets : zsh 4 8 = some (.inr (.inr (.inr (2, 4, 4, 9)))) := rfl
theorem zs_told : zsh 4 17 = some (.inr (.inl 7)) := rfl
theorem zs_ref : zsh 5 0 = some (.inl (8, [some (5, 1), some (5, 2), some (5, 3), some (5, 4), some (5, 5), none, some (5, 6), some (5, 7), none, some (5, 8), none, none, none, none, none, some (5, 9), some (5, 10), some (5, 11), some (5, 12)])) := rfl
theorem zs_s : zsh 5 1 = some (.inr (.inl 55)) := rfl
theorem zs_keptS : zsh 5 2 = some (.inr (.inl 55)) := rfl
theorem zs_other : zsh 5 3 = some (.inr (.inl 55)) := rfl
theorem zs_aside : zsh 5 4 = some (.inr (.inl 55)) := rfl
theorem zs_stat : zsh 5 5 = some (.inr (.inl 7)) := rfl
theorem zs_rsteps : zsh 5 6 = some (.inr (.inl 3)) := rfl
theorem zs_rbest : zsh 5 7 = some (.inr (.inl 3)) := rfl
theorem zs_rtape : zsh 5 8 = some (.inr (.inl 120)) := rfl
theorem zs_bitsOf : zsh 5 9 = some (.inr (.inl 4)) := rfl
theorem zs_sizeOf : zsh 5 10 = some (.inr (.inl 4)) := rfl
theorem zs_numbers : zsh 5 11 = some (.inr (.inr (.inl 160))) := rfl
theorem zs_moved : zsh 5 12 = some (.inr (.inr (.inl 40))) := rfl
theorem zs_car {g : Nat} (hg : g < 4) : zsh g 0 = some (.inl (0, [some (g, 1), some (g, 2), none, none, none, none])) := by
  simp [zsh, hg, zshCar]
theorem zs_carS {g : Nat} (hg : g < 4) : zsh g 1 = some (.inr (.inr (.inr (0, 3, g, 3)))) := by
  simp [zsh, hg, zshCar]
theorem zs_carC {g : Nat} (hg : g < 4) : zsh g 2 = some (.inr (.inr (.inr (1, 6, g, 6)))) := by
  simp [zsh, hg, zshCar]
theorem zs_seat {g : Nat} {x : Int} (hg : g < 4) (hx : 0 ≤ x ∧ x < 3) : zsh g (3 + x) = some (.inl (3, [none, none, none, none, none])) := by
  unfold zsh zshCar
  rw [if_pos hg, if_neg (by omega), if_neg (by omega), if_neg (by omega), if_pos (by omega)]
theorem zs_child {g : Nat} {x : Int} (hg : g < 4) (hx : 0 ≤ x ∧ x < 6) : zsh g (6 + x) = some (.inl (2, [none, none, none, none, none, none, none])) := by
  unfold zsh zshCar
  rw [if_pos hg, if_neg (by omega), if_neg (by omega), if_neg (by omega), if_neg (by omega), if_pos (by omega)]
theorem zs_sheet {x : Int} (hx : 0 ≤ x ∧ x < 4) : zsh 4 (9 + x) = some (.inl (4, [some (4, 13 + x), none, none])) := by
  unfold zsh zshCls
  rw [if_neg (by decide), if_pos rfl, if_neg (by omega), if_neg (by omega), if_neg (by omega), if_neg (by omega), if_neg (by omega), if_neg (by omega), if_neg (by omega), if_pos (by omega)]
  rw [show 9 + x + 4 = 13 + x from by omega]
theorem zs_nums {x : Int} (hx : 0 ≤ x ∧ x < 4) : zsh 4 (13 + x) = some (.inr (.inr (.inl 40))) := by
  unfold zsh zshCls
  rw [if_neg (by decide), if_pos rfl, if_neg (by omega), if_neg (by omega), if_neg (by omega), if_neg (by omega), if_neg (by omega), if_neg (by omega), if_neg (by omega), if_neg (by omega), if_pos (by omega)]
end
section
/-! stores by places, calls by how many arguments (laid by wip/whole/gen/pats.py) -/
def zpad : List Value → List Value
  | [] => []
  | .long x :: r => .long x :: .null :: zpad r
  | .double x :: r => .double x :: .null :: zpad r
  | .int x :: r => .int x :: zpad r
  | .float x :: r => .float x :: zpad r
  | .null :: r => .null :: zpad r
  | .ref x :: r => .ref x :: zpad r
  | .retAddr x :: r => .retAddr x :: zpad r
theorem zpad_ok : ∀ (av : List Value) (k o i : Nat) (v : Value), (zpad av ++ List.replicate k .null)[i]? = some v → v = .null ∨ (o + i, v) ∈ lv_args o av := by
  intro av
  induction av with
  | nil =>
    intro k o i v h
    simp only [zpad, List.nil_append] at h
    rw [List.getElem?_replicate] at h
    split at h
    · cases h; exact Or.inl rfl
    · cases h
  | cons a r ih =>
    intro k o i v h
    have one : ∀ (h : ((a :: zpad r) ++ List.replicate k .null)[i]? = some v) (hc : a.category = 1), v = .null ∨ (o + i, v) ∈ lv_args o (a :: r) := by
      intro h hc
      cases i with
      | zero =>
        simp only [List.cons_append, List.getElem?_cons_zero] at h
        cases h
        exact Or.inr List.mem_cons_self
      | succ i =>
        simp only [List.cons_append, List.getElem?_cons_succ] at h
        rcases ih k (o + 1) i v h with h1 | h1
        · exact Or.inl h1
        · right
          simp only [lv_args, hc]
          refine List.mem_cons_of_mem _ ?_
          have e : o + 1 + i = o + (i + 1) := by omega
          rw [e] at h1
          exact h1
    have two : ∀ (h : ((a :: .null :: zpad r) ++ List.replicate k .null)[i]? = some v) (hc : a.category = 2), v = .null ∨ (o + i, v) ∈ lv_args o (a :: r) := by
      intro h hc
      rcases i with _ | _ | i
      · simp only [List.cons_append, List.getElem?_cons_zero] at h
        cases h
        exact Or.inr List.mem_cons_self
      · simp only [List.cons_append, Nat.zero_add, List.getElem?_cons_succ, List.getElem?_cons_zero] at h
        cases h
        exact Or.inl rfl
      · simp only [List.cons_append, List.getElem?_cons_succ] at h
        rcases ih k (o + 2) i v h with h1 | h1
        · exact Or.inl h1
        · right
          simp only [lv_args, hc, if_true]
          refine List.mem_cons_of_mem _ ?_
          have e : o + 2 + i = o + (i + 1 + 1) := by omega
          rw [e] at h1
          exact h1
    cases a with
    | int x => exact one h rfl
    | long x => exact two h rfl
    | float x => exact one h rfl
    | double x => exact two h rfl
    | null => exact one h rfl
    | ref x => exact one h rfl
    | retAddr x => exact one h rfl
theorem zRet.mk {Γ : zC} {l : Launch} {d : Nat} {y : MethodName} {cc : ByteArray} {maxL : Nat} {ret : Option FieldType} {av : List Value} {μ μ' : zMem} {r : Option Value} (k : Nat) (lv : List Value) (own : String) (ho : y.cls = own) (hy : plainName y.cls = true) (hn : (lg_sl av).length ≤ maxL) (hlv : zpad av ++ List.replicate k .null = lv)
    (kk : ∀ p e s m below meth c, zCx Γ (zAA Γ) p s m av.toArray c own cc maxL → meth.sig.returnType = ret → meth.locks = false →
      zV Γ (zAA Γ) p l e (zRm d) s m av.toArray below meth c 0 0 (MQ below (zQc Γ r μ') av.toArray s 0 0 (zAA Γ)) 0 lv [] μ) : zRet Γ l d (y, cc, maxL, ret) av μ r μ' := by
  subst ho
  subst hlv
  refine zRet.of hy hn (fun i v h => ?_) kk
  have h1 := zpad_ok av k 0 i v h
  rw [Nat.zero_add] at h1
  exact h1
section ZPATS
variable {Γ : zC} {A : Nat → Prop} {p : Program} {l : Launch} {e : Env} {R : Room} {s : State} {m : MethodId} {args : Array Value} {below : List Frame} {meth : Method} {c : Code} {cells slots : Nat} {Q : State → Prop} {own : String} {cc : ByteArray} {pc n : Nat} {lv st : List Value} {μ : zMem}
theorem zS_astore_5_4 (C : zCx Γ A p s m args c own cc 5) {v0 v1 v2 v3 v4 : Value} {x : Nat} (d : decode cc pc = .ok (.astore 4, 2)) (hb : v3.category = 1) (hp : pc + 2 = n) (k : zV Γ A p l e R s m args below meth c cells slots Q n [v0, v1, v2, v3, .ref x] st μ) : zV Γ A p l e R s m args below meth c cells slots Q pc [v0, v1, v2, v3, v4] (.ref x :: st) μ := zV_astore (i := 4) C d (by decide) (fun w h _ => by cases h; exact hb) hp k
theorem zS_astore_6_4 (C : zCx Γ A p s m args c own cc 6) {v0 v1 v2 v3 v4 v5 : Value} {x : Nat} (d : decode cc pc = .ok (.astore 4, 2)) (hb : v3.category = 1) (hp : pc + 2 = n) (k : zV Γ A p l e R s m args below meth c cells slots Q n [v0, v1, v2, v3, .ref x, v5] st μ) : zV Γ A p l e R s m args below meth c cells slots Q pc [v0, v1, v2, v3, v4, v5] (.ref x :: st) μ := zV_astore (i := 4) C d (by decide) (fun w h _ => by cases h; exact hb) hp k
theorem zS_astore_6_5 (C : zCx Γ A p s m args c own cc 6) {v0 v1 v2 v3 v4 v5 : Value} {x : Nat} (d : decode cc pc = .ok (.astore 5, 2)) (hb : v4.category = 1) (hp : pc + 2 = n) (k : zV Γ A p l e R s m args below meth c cells slots Q n [v0, v1, v2, v3, v4, .ref x] st μ) : zV Γ A p l e R s m args below meth c cells slots Q pc [v0, v1, v2, v3, v4, v5] (.ref x :: st) μ := zV_astore (i := 5) C d (by decide) (fun w h _ => by cases h; exact hb) hp k
theorem zS_astore_n_3_2 (C : zCx Γ A p s m args c own cc 3) {v0 v1 v2 : Value} {x : Nat} (d : decode cc pc = .ok (.astore_n 2, 1)) (hb : v1.category = 1) (hp : pc + 1 = n) (k : zV Γ A p l e R s m args below meth c cells slots Q n [v0, v1, .ref x] st μ) : zV Γ A p l e R s m args below meth c cells slots Q pc [v0, v1, v2] (.ref x :: st) μ := zV_astore_n (i := 2) C d rfl (by decide) (fun w h _ => by cases h; exact hb) hp k
theorem zS_astore_n_4_1 (C : zCx Γ A p s m args c own cc 4) {v0 v1 v2 v3 : Value} {x : Nat} (d : decode cc pc = .ok (.astore_n 1, 1)) (hb : v0.category = 1) (hp : pc + 1 = n) (k : zV Γ A p l e R s m args below meth c cells slots Q n [v0, .ref x, v2, v3] st μ) : zV Γ A p l e R s m args below meth c cells slots Q pc [v0, v1, v2, v3] (.ref x :: st) μ := zV_astore_n (i := 1) C d rfl (by decide) (fun w h _ => by cases h; exact hb) hp k
theorem zS_astore_n_4_2 (C : zCx Γ A p s m args c own cc 4) {v0 v1 v2 v3 : Value} {x : Nat} (d : decode cc pc = .ok (.astore_n 2, 1)) (hb : v1.category = 1) (hp : pc + 1 = n) (k : zV Γ A p l e R s m args below meth c cells slots Q n [v0, v1, .ref x, v3] st μ) : zV Γ A p l e R s m args below meth c cells slots Q pc [v0, v1, v2, v3] (.ref x :: st) μ := zV_astore_n (i := 2) C d rfl (by decide) (fun w h _ => by cases h; exact hb) hp k
theorem zS_astore_n_4_3 (C : zCx Γ A p s m args c own cc 4) {v0 v1 v2 v3 : Value} {x : Nat} (d : decode cc pc = .ok (.astore_n 3, 1)) (hb : v2.category = 1) (hp : pc + 1 = n) (k : zV Γ A p l e R s m args below meth c cells slots Q n [v0, v1, v2, .ref x] st μ) : zV Γ A p l e R s m args below meth c cells slots Q pc [v0, v1, v2, v3] (.ref x :: st) μ := zV_astore_n (i := 3) C d rfl (by decide) (fun w h _ => by cases h; exact hb) hp k
theorem zS_astore_n_5_3 (C : zCx Γ A p s m args c own cc 5) {v0 v1 v2 v3 v4 : Value} {x : Nat} (d : decode cc pc = .ok (.astore_n 3, 1)) (hb : v2.category = 1) (hp : pc + 1 = n) (k : zV Γ A p l e R s m args below meth c cells slots Q n [v0, v1, v2, .ref x, v4] st μ) : zV Γ A p l e R s m args below meth c cells slots Q pc [v0, v1, v2, v3, v4] (.ref x :: st) μ := zV_astore_n (i := 3) C d rfl (by decide) (fun w h _ => by cases h; exact hb) hp k
theorem zS_iinc_2_1 (C : zCx Γ A p s m args c own cc 2) {v0 : Value} {x z : Int} (d : decode cc pc = .ok (.iinc 1 z, 3)) (hb : v0.category = 1) (hp : pc + 3 = n) (k : zV Γ A p l e R s m args below meth c cells slots Q n [v0, .int (zi (x + z))] st μ) : zV Γ A p l e R s m args below meth c cells slots Q pc [v0, .int (zi x)] st μ := zV_iinc (i := 1) C d rfl (by decide) (fun w h _ => by cases h; exact hb) hp k
theorem zS_iinc_3_1 (C : zCx Γ A p s m args c own cc 3) {v0 v2 : Value} {x z : Int} (d : decode cc pc = .ok (.iinc 1 z, 3)) (hb : v0.category = 1) (hp : pc + 3 = n) (k : zV Γ A p l e R s m args below meth c cells slots Q n [v0, .int (zi (x + z)), v2] st μ) : zV Γ A p l e R s m args below meth c cells slots Q pc [v0, .int (zi x), v2] st μ := zV_iinc (i := 1) C d rfl (by decide) (fun w h _ => by cases h; exact hb) hp k
theorem zS_iinc_3_2 (C : zCx Γ A p s m args c own cc 3) {v0 v1 : Value} {x z : Int} (d : decode cc pc = .ok (.iinc 2 z, 3)) (hb : v1.category = 1) (hp : pc + 3 = n) (k : zV Γ A p l e R s m args below meth c cells slots Q n [v0, v1, .int (zi (x + z))] st μ) : zV Γ A p l e R s m args below meth c cells slots Q pc [v0, v1, .int (zi x)] st μ := zV_iinc (i := 2) C d rfl (by decide) (fun w h _ => by cases h; exact hb) hp k
theorem zS_iinc_4_1 (C : zCx Γ A p s m args c own cc 4) {v0 v2 v3 : Value} {x z : Int} (d : decode cc pc = .ok (.iinc 1 z, 3)) (hb : v0.category = 1) (hp : pc + 3 = n) (k : zV Γ A p l e R s m args below meth c cells slots Q n [v0, .int (zi (x + z)), v2, v3] st μ) : zV Γ A p l e R s m args below meth c cells slots Q pc [v0, .int (zi x), v2, v3] st μ := zV_iinc (i := 1) C d rfl (by decide) (fun w h _ => by cases h; exact hb) hp k
theorem zS_iinc_4_2 (C : zCx Γ A p s m args c own cc 4) {v0 v1 v3 : Value} {x z : Int} (d : decode cc pc = .ok (.iinc 2 z, 3)) (hb : v1.category = 1) (hp : pc + 3 = n) (k : zV Γ A p l e R s m args below meth c cells slots Q n [v0, v1, .int (zi (x + z)), v3] st μ) : zV Γ A p l e R s m args below meth c cells slots Q pc [v0, v1, .int (zi x), v3] st μ := zV_iinc (i := 2) C d rfl (by decide) (fun w h _ => by cases h; exact hb) hp k
theorem zS_iinc_4_3 (C : zCx Γ A p s m args c own cc 4) {v0 v1 v2 : Value} {x z : Int} (d : decode cc pc = .ok (.iinc 3 z, 3)) (hb : v2.category = 1) (hp : pc + 3 = n) (k : zV Γ A p l e R s m args below meth c cells slots Q n [v0, v1, v2, .int (zi (x + z))] st μ) : zV Γ A p l e R s m args below meth c cells slots Q pc [v0, v1, v2, .int (zi x)] st μ := zV_iinc (i := 3) C d rfl (by decide) (fun w h _ => by cases h; exact hb) hp k
theorem zS_iinc_5_2 (C : zCx Γ A p s m args c own cc 5) {v0 v1 v3 v4 : Value} {x z : Int} (d : decode cc pc = .ok (.iinc 2 z, 3)) (hb : v1.category = 1) (hp : pc + 3 = n) (k : zV Γ A p l e R s m args below meth c cells slots Q n [v0, v1, .int (zi (x + z)), v3, v4] st μ) : zV Γ A p l e R s m args below meth c cells slots Q pc [v0, v1, .int (zi x), v3, v4] st μ := zV_iinc (i := 2) C d rfl (by decide) (fun w h _ => by cases h; exact hb) hp k
theorem zS_iinc_5_3 (C : zCx Γ A p s m args c own cc 5) {v0 v1 v2 v4 : Value} {x z : Int} (d : decode cc pc = .ok (.iinc 3 z, 3)) (hb : v2.category = 1) (hp : pc + 3 = n) (k : zV Γ A p l e R s m args below meth c cells slots Q n [v0, v1, v2, .int (zi (x + z)), v4] st μ) : zV Γ A p l e R s m args below meth c cells slots Q pc [v0, v1, v2, .int (zi x), v4] st μ := zV_iinc (i := 3) C d rfl (by decide) (fun w h _ => by cases h; exact hb) hp k
theorem zS_iinc_5_4 (C : zCx Γ A p s m args c own cc 5) {v0 v1 v2 v3 : Value} {x z : Int} (d : decode cc pc = .ok (.iinc 4 z, 3)) (hb : v3.category = 1) (hp : pc + 3 = n) (k : zV Γ A p l e R s m args below meth c cells slots Q n [v0, v1, v2, v3, .int (zi (x + z))] st μ) : zV Γ A p l e R s m args below meth c cells slots Q pc [v0, v1, v2, v3, .int (zi x)] st μ := zV_iinc (i := 4) C d rfl (by decide) (fun w h _ => by cases h; exact hb) hp k
theorem zS_iinc_6_2 (C : zCx Γ A p s m args c own cc 6) {v0 v1 v3 v4 v5 : Value} {x z : Int} (d : decode cc pc = .ok (.iinc 2 z, 3)) (hb : v1.category = 1) (hp : pc + 3 = n) (k : zV Γ A p l e R s m args below meth c cells slots Q n [v0, v1, .int (zi (x + z)), v3, v4, v5] st μ) : zV Γ A p l e R s m args below meth c cells slots Q pc [v0, v1, .int (zi x), v3, v4, v5] st μ := zV_iinc (i := 2) C d rfl (by decide) (fun w h _ => by cases h; exact hb) hp k
theorem zS_iinc_6_3 (C : zCx Γ A p s m args c own cc 6) {v0 v1 v2 v4 v5 : Value} {x z : Int} (d : decode cc pc = .ok (.iinc 3 z, 3)) (hb : v2.category = 1) (hp : pc + 3 = n) (k : zV Γ A p l e R s m args below meth c cells slots Q n [v0, v1, v2, .int (zi (x + z)), v4, v5] st μ) : zV Γ A p l e R s m args below meth c cells slots Q pc [v0, v1, v2, .int (zi x), v4, v5] st μ := zV_iinc (i := 3) C d rfl (by decide) (fun w h _ => by cases h; exact hb) hp k
theorem zS_iinc_6_4 (C : zCx Γ A p s m args c own cc 6) {v0 v1 v2 v3 v5 : Value} {x z : Int} (d : decode cc pc = .ok (.iinc 4 z, 3)) (hb : v3.category = 1) (hp : pc + 3 = n) (k : zV Γ A p l e R s m args below meth c cells slots Q n [v0, v1, v2, v3, .int (zi (x + z)), v5] st μ) : zV Γ A p l e R s m args below meth c cells slots Q pc [v0, v1, v2, v3, .int (zi x), v5] st μ := zV_iinc (i := 4) C d rfl (by decide) (fun w h _ => by cases h; exact hb) hp k
theorem zS_iinc_6_5 (C : zCx Γ A p s m args c own cc 6) {v0 v1 v2 v3 v4 : Value} {x z : Int} (d : decode cc pc = .ok (.iinc 5 z, 3)) (hb : v4.category = 1) (hp : pc + 3 = n) (k : zV Γ A p l e R s m args below meth c cells slots Q n [v0, v1, v2, v3, v4, .int (zi (x + z))] st μ) : zV Γ A p l e R s m args below meth c cells slots Q pc [v0, v1, v2, v3, v4, .int (zi x)] st μ := zV_iinc (i := 5) C d rfl (by decide) (fun w h _ => by cases h; exact hb) hp k
theorem zS_iinc_7_4 (C : zCx Γ A p s m args c own cc 7) {v0 v1 v2 v3 v5 v6 : Value} {x z : Int} (d : decode cc pc = .ok (.iinc 4 z, 3)) (hb : v3.category = 1) (hp : pc + 3 = n) (k : zV Γ A p l e R s m args below meth c cells slots Q n [v0, v1, v2, v3, .int (zi (x + z)), v5, v6] st μ) : zV Γ A p l e R s m args below meth c cells slots Q pc [v0, v1, v2, v3, .int (zi x), v5, v6] st μ := zV_iinc (i := 4) C d rfl (by decide) (fun w h _ => by cases h; exact hb) hp k
theorem zS_iinc_7_5 (C : zCx Γ A p s m args c own cc 7) {v0 v1 v2 v3 v4 v6 : Value} {x z : Int} (d : decode cc pc = .ok (.iinc 5 z, 3)) (hb : v4.category = 1) (hp : pc + 3 = n) (k : zV Γ A p l e R s m args below meth c cells slots Q n [v0, v1, v2, v3, v4, .int (zi (x + z)), v6] st μ) : zV Γ A p l e R s m args below meth c cells slots Q pc [v0, v1, v2, v3, v4, .int (zi x), v6] st μ := zV_iinc (i := 5) C d rfl (by decide) (fun w h _ => by cases h; exact hb) hp k
theorem zS_iinc_7_6 (C : zCx Γ A p s m args c own cc 7) {v0 v1 v2 v3 v4 v5 : Value} {x z : Int} (d : decode cc pc = .ok (.iinc 6 z, 3)) (hb : v5.category = 1) (hp : pc + 3 = n) (k : zV Γ A p l e R s m args below meth c cells slots Q n [v0, v1, v2, v3, v4, v5, .int (zi (x + z))] st μ) : zV Γ A p l e R s m args below meth c cells slots Q pc [v0, v1, v2, v3, v4, v5, .int (zi x)] st μ := zV_iinc (i := 6) C d rfl (by decide) (fun w h _ => by cases h; exact hb) hp k
theorem zS_iinc_8_6 (C : zCx Γ A p s m args c own cc 8) {v0 v1 v2 v3 v4 v5 v7 : Value} {x z : Int} (d : decode cc pc = .ok (.iinc 6 z, 3)) (hb : v5.category = 1) (hp : pc + 3 = n) (k : zV Γ A p l e R s m args below meth c cells slots Q n [v0, v1, v2, v3, v4, v5, .int (zi (x + z)), v7] st μ) : zV Γ A p l e R s m args below meth c cells slots Q pc [v0, v1, v2, v3, v4, v5, .int (zi x), v7] st μ := zV_iinc (i := 6) C d rfl (by decide) (fun w h _ => by cases h; exact hb) hp k
theorem zS_iinc_9_8 (C : zCx Γ A p s m args c own cc 9) {v0 v1 v2 v3 v4 v5 v6 v7 : Value} {x z : Int} (d : decode cc pc = .ok (.iinc 8 z, 3)) (hb : v7.category = 1) (hp : pc + 3 = n) (k : zV Γ A p l e R s m args below meth c cells slots Q n [v0, v1, v2, v3, v4, v5, v6, v7, .int (zi (x + z))] st μ) : zV Γ A p l e R s m args below meth c cells slots Q pc [v0, v1, v2, v3, v4, v5, v6, v7, .int (zi x)] st μ := zV_iinc (i := 8) C d rfl (by decide) (fun w h _ => by cases h; exact hb) hp k
theorem zS_iinc_10_7 (C : zCx Γ A p s m args c own cc 10) {v0 v1 v2 v3 v4 v5 v6 v8 v9 : Value} {x z : Int} (d : decode cc pc = .ok (.iinc 7 z, 3)) (hb : v6.category = 1) (hp : pc + 3 = n) (k : zV Γ A p l e R s m args below meth c cells slots Q n [v0, v1, v2, v3, v4, v5, v6, .int (zi (x + z)), v8, v9] st μ) : zV Γ A p l e R s m args below meth c cells slots Q pc [v0, v1, v2, v3, v4, v5, v6, .int (zi x), v8, v9] st μ := zV_iinc (i := 7) C d rfl (by decide) (fun w h _ => by cases h; exact hb) hp k
theorem zS_istore_5_4 (C : zCx Γ A p s m args c own cc 5) {v0 v1 v2 v3 v4 : Value} {x : Int32} (d : decode cc pc = .ok (.istore 4, 2)) (hb : v3.category = 1) (hp : pc + 2 = n) (k : zV Γ A p l e R s m args below meth c cells slots Q n [v0, v1, v2, v3, .int x] st μ) : zV Γ A p l e R s m args below meth c cells slots Q pc [v0, v1, v2, v3, v4] (.int x :: st) μ := zV_istore (i := 4) C d (by decide) (fun w h _ => by cases h; exact hb) hp k
theorem zS_istore_6_4 (C : zCx Γ A p s m args c own cc 6) {v0 v1 v2 v3 v4 v5 : Value} {x : Int32} (d : decode cc pc = .ok (.istore 4, 2)) (hb : v3.category = 1) (hp : pc + 2 = n) (k : zV Γ A p l e R s m args below meth c cells slots Q n [v0, v1, v2, v3, .int x, v5] st μ) : zV Γ A p l e R s m args below meth c cells slots Q pc [v0, v1, v2, v3, v4, v5] (.int x :: st) μ := zV_istore (i := 4) C d (by decide) (fun w h _ => by cases h; exact hb) hp k
theorem zS_istore_6_5 (C : zCx Γ A p s m args c own cc 6) {v0 v1 v2 v3 v4 v5 : Value} {x : Int32} (d : decode cc pc = .ok (.istore 5, 2)) (hb : v4.category = 1) (hp : pc + 2 = n) (k : zV Γ A p l e R s m args below meth c cells slots Q n [v0, v1, v2, v3, v4, .int x] st μ) : zV Γ A p l e R s m args below meth c cells slots Q pc [v0, v1, v2, v3, v4, v5] (.int x :: st) μ := zV_istore (i := 5) C d (by decide) (fun w h _ => by cases h; exact hb) hp k
theorem zS_istore_7_4 (C : zCx Γ A p s m args c own cc 7) {v0 v1 v2 v3 v4 v5 v6 : Value} {x : Int32} (d : decode cc pc = .ok (.istore 4, 2)) (hb : v3.category = 1) (hp : pc + 2 = n) (k : zV Γ A p l e R s m args below meth c cells slots Q n [v0, v1, v2, v3, .int x, v5, v6] st μ) : zV Γ A p l e R s m args below meth c cells slots Q pc [v0, v1, v2, v3, v4, v5, v6] (.int x :: st) μ := zV_istore (i := 4) C d (by decide) (fun w h _ => by cases h; exact hb) hp k
theorem zS_istore_7_5 (C : zCx Γ A p s m args c own cc 7) {v0 v1 v2 v3 v4 v5 v6 : Value} {x : Int32} (d : decode cc pc = .ok (.istore 5, 2)) (hb : v4.category = 1) (hp : pc + 2 = n) (k : zV Γ A p l e R s m args below meth c cells slots Q n [v0, v1, v2, v3, v4, .int x, v6] st μ) : zV Γ A p l e R s m args below meth c cells slots Q pc [v0, v1, v2, v3, v4, v5, v6] (.int x :: st) μ := zV_istore (i := 5) C d (by decide) (fun w h _ => by cases h; exact hb) hp k
theorem zS_istore_7_6 (C : zCx Γ A p s m args c own cc 7) {v0 v1 v2 v3 v4 v5 v6 : Value} {x : Int32} (d : decode cc pc = .ok (.istore 6, 2)) (hb : v5.category = 1) (hp : pc + 2 = n) (k : zV Γ A p l e R s m args below meth c cells slots Q n [v0, v1, v2, v3, v4, v5, .int x] st μ) : zV Γ A p l e R s m args below meth c cells slots Q pc [v0, v1, v2, v3, v4, v5, v6] (.int x :: st) μ := zV_istore (i := 6) C d (by decide) (fun w h _ => by cases h; exact hb) hp k
theorem zS_istore_8_4 (C : zCx Γ A p s m args c own cc 8) {v0 v1 v2 v3 v4 v5 v6 v7 : Value} {x : Int32} (d : decode cc pc = .ok (.istore 4, 2)) (hb : v3.category = 1) (hp : pc + 2 = n) (k : zV Γ A p l e R s m args below meth c cells slots Q n [v0, v1, v2, v3, .int x, v5, v6, v7] st μ) : zV Γ A p l e R s m args below meth c cells slots Q pc [v0, v1, v2, v3, v4, v5, v6, v7] (.int x :: st) μ := zV_istore (i := 4) C d (by decide) (fun w h _ => by cases h; exact hb) hp k
theorem zS_istore_8_5 (C : zCx Γ A p s m args c own cc 8) {v0 v1 v2 v3 v4 v5 v6 v7 : Value} {x : Int32} (d : decode cc pc = .ok (.istore 5, 2)) (hb : v4.category = 1) (hp : pc + 2 = n) (k : zV Γ A p l e R s m args below meth c cells slots Q n [v0, v1, v2, v3, v4, .int x, v6, v7] st μ) : zV Γ A p l e R s m args below meth c cells slots Q pc [v0, v1, v2, v3, v4, v5, v6, v7] (.int x :: st) μ := zV_istore (i := 5) C d (by decide) (fun w h _ => by cases h; exact hb) hp k
theorem zS_istore_8_6 (C : zCx Γ A p s m args c own cc 8) {v0 v1 v2 v3 v4 v5 v6 v7 : Value} {x : Int32} (d : decode cc pc = .ok (.istore 6, 2)) (hb : v5.category = 1) (hp : pc + 2 = n) (k : zV Γ A p l e R s m args below meth c cells slots Q n [v0, v1, v2, v3, v4, v5, .int x, v7] st μ) : zV Γ A p l e R s m args below meth c cells slots Q pc [v0, v1, v2, v3, v4, v5, v6, v7] (.int x :: st) μ := zV_istore (i := 6) C d (by decide) (fun w h _ => by cases h; exact hb) hp k
theorem zS_istore_8_7 (C : zCx Γ A p s m args c own cc 8) {v0 v1 v2 v3 v4 v5 v6 v7 : Value} {x : Int32} (d : decode cc pc = .ok (.istore 7, 2)) (hb : v6.category = 1) (hp : pc + 2 = n) (k : zV Γ A p l e R s m args below meth c cells slots Q n [v0, v1, v2, v3, v4, v5, v6, .int x] st μ) : zV Γ A p l e R s m args below meth c cells slots Q pc [v0, v1, v2, v3, v4, v5, v6, v7] (.int x :: st) μ := zV_istore (i := 7) C d (by decide) (fun w h _ => by cases h; exact hb) hp k
theorem zS_istore_9_4 (C : zCx Γ A p s m args c own cc 9) {v0 v1 v2 v3 v4 v5 v6 v7 v8 : Value} {x : Int32} (d : decode cc pc = .ok (.istore 4, 2)) (hb : v3.category = 1) (hp : pc + 2 = n) (k : zV Γ A p l e R s m args below meth c cells slots Q n [v0, v1, v2, v3, .int x, v5, v6, v7, v8] st μ) : zV Γ A p l e R s m args below meth c cells slots Q pc [v0, v1, v2, v3, v4, v5, v6, v7, v8] (.int x :: st) μ := zV_istore (i := 4) C d (by decide) (fun w h _ => by cases h; exact hb) hp k
theorem zS_istore_9_5 (C : zCx Γ A p s m args c own cc 9) {v0 v1 v2 v3 v4 v5 v6 v7 v8 : Value} {x : Int32} (d : decode cc pc = .ok (.istore 5, 2)) (hb : v4.category = 1) (hp : pc + 2 = n) (k : zV Γ A p l e R s m args below meth c cells slots Q n [v0, v1, v2, v3, v4, .int x, v6, v7, v8] st μ) : zV Γ A p l e R s m args below meth c cells slots Q pc [v0, v1, v2, v3, v4, v5, v6, v7, v8] (.int x :: st) μ := zV_istore (i := 5) C d (by decide) (fun w h _ => by cases h; exact hb) hp k
theorem zS_istore_9_6 (C : zCx Γ A p s m args c own cc 9) {v0 v1 v2 v3 v4 v5 v6 v7 v8 : Value} {x : Int32} (d : decode cc pc = .ok (.istore 6, 2)) (hb : v5.category = 1) (hp : pc + 2 = n) (k : zV Γ A p l e R s m args below meth c cells slots Q n [v0, v1, v2, v3, v4, v5, .int x, v7, v8] st μ) : zV Γ A p l e R s m args below meth c cells slots Q pc [v0, v1, v2, v3, v4, v5, v6, v7, v8] (.int x :: st) μ := zV_istore (i := 6) C d (by decide) (fun w h _ => by cases h; exact hb) hp k
theorem zS_istore_9_7 (C : zCx Γ A p s m args c own cc 9) {v0 v1 v2 v3 v4 v5 v6 v7 v8 : Value} {x : Int32} (d : decode cc pc = .ok (.istore 7, 2)) (hb : v6.category = 1) (hp : pc + 2 = n) (k : zV Γ A p l e R s m args below meth c cells slots Q n [v0, v1, v2, v3, v4, v5, v6, .int x, v8] st μ) : zV Γ A p l e R s m args below meth c cells slots Q pc [v0, v1, v2, v3, v4, v5, v6, v7, v8] (.int x :: st) μ := zV_istore (i := 7) C d (by decide) (fun w h _ => by cases h; exact hb) hp k
theorem zS_istore_9_8 (C : zCx Γ A p s m args c own cc 9) {v0 v1 v2 v3 v4 v5 v6 v7 v8 : Value} {x : Int32} (d : decode cc pc = .ok (.istore 8, 2)) (hb : v7.category = 1) (hp : pc + 2 = n) (k : zV Γ A p l e R s m args below meth c cells slots Q n [v0, v1, v2, v3, v4, v5, v6, v7, .int x] st μ) : zV Γ A p l e R s m args below meth c cells slots Q pc [v0, v1, v2, v3, v4, v5, v6, v7, v8] (.int x :: st) μ := zV_istore (i := 8) C d (by decide) (fun w h _ => by cases h; exact hb) hp k
theorem zS_istore_10_4 (C : zCx Γ A p s m args c own cc 10) {v0 v1 v2 v3 v4 v5 v6 v7 v8 v9 : Value} {x : Int32} (d : decode cc pc = .ok (.istore 4, 2)) (hb : v3.category = 1) (hp : pc + 2 = n) (k : zV Γ A p l e R s m args below meth c cells slots Q n [v0, v1, v2, v3, .int x, v5, v6, v7, v8, v9] st μ) : zV Γ A p l e R s m args below meth c cells slots Q pc [v0, v1, v2, v3, v4, v5, v6, v7, v8, v9] (.int x :: st) μ := zV_istore (i := 4) C d (by decide) (fun w h _ => by cases h; exact hb) hp k
theorem zS_istore_10_5 (C : zCx Γ A p s m args c own cc 10) {v0 v1 v2 v3 v4 v5 v6 v7 v8 v9 : Value} {x : Int32} (d : decode cc pc = .ok (.istore 5, 2)) (hb : v4.category = 1) (hp : pc + 2 = n) (k : zV Γ A p l e R s m args below meth c cells slots Q n [v0, v1, v2, v3, v4, .int x, v6, v7, v8, v9] st μ) : zV Γ A p l e R s m args below meth c cells slots Q pc [v0, v1, v2, v3, v4, v5, v6, v7, v8, v9] (.int x :: st) μ := zV_istore (i := 5) C d (by decide) (fun w h _ => by cases h; exact hb) hp k
theorem zS_istore_10_6 (C : zCx Γ A p s m args c own cc 10) {v0 v1 v2 v3 v4 v5 v6 v7 v8 v9 : Value} {x : Int32} (d : decode cc pc = .ok (.istore 6, 2)) (hb : v5.category = 1) (hp : pc + 2 = n) (k : zV Γ A p l e R s m args below meth c cells slots Q n [v0, v1, v2, v3, v4, v5, .int x, v7, v8, v9] st μ) : zV Γ A p l e R s m args below meth c cells slots Q pc [v0, v1, v2, v3, v4, v5, v6, v7, v8, v9] (.int x :: st) μ := zV_istore (i := 6) C d (by decide) (fun w h _ => by cases h; exact hb) hp k
theorem zS_istore_10_7 (C : zCx Γ A p s m args c own cc 10) {v0 v1 v2 v3 v4 v5 v6 v7 v8 v9 : Value} {x : Int32} (d : decode cc pc = .ok (.istore 7, 2)) (hb : v6.category = 1) (hp : pc + 2 = n) (k : zV Γ A p l e R s m args below meth c cells slots Q n [v0, v1, v2, v3, v4, v5, v6, .int x, v8, v9] st μ) : zV Γ A p l e R s m args below meth c cells slots Q pc [v0, v1, v2, v3, v4, v5, v6, v7, v8, v9] (.int x :: st) μ := zV_istore (i := 7) C d (by decide) (fun w h _ => by cases h; exact hb) hp k
theorem zS_istore_10_8 (C : zCx Γ A p s m args c own cc 10) {v0 v1 v2 v3 v4 v5 v6 v7 v8 v9 : Value} {x : Int32} (d : decode cc pc = .ok (.istore 8, 2)) (hb : v7.category = 1) (hp : pc + 2 = n) (k : zV Γ A p l e R s m args below meth c cells slots Q n [v0, v1, v2, v3, v4, v5, v6, v7, .int x, v9] st μ) : zV Γ A p l e R s m args below meth c cells slots Q pc [v0, v1, v2, v3, v4, v5, v6, v7, v8, v9] (.int x :: st) μ := zV_istore (i := 8) C d (by decide) (fun w h _ => by cases h; exact hb) hp k
theorem zS_istore_10_9 (C : zCx Γ A p s m args c own cc 10) {v0 v1 v2 v3 v4 v5 v6 v7 v8 v9 : Value} {x : Int32} (d : decode cc pc = .ok (.istore 9, 2)) (hb : v8.category = 1) (hp : pc + 2 = n) (k : zV Γ A p l e R s m args below meth c cells slots Q n [v0, v1, v2, v3, v4, v5, v6, v7, v8, .int x] st μ) : zV Γ A p l e R s m args below meth c cells slots Q pc [v0, v1, v2, v3, v4, v5, v6, v7, v8, v9] (.int x :: st) μ := zV_istore (i := 9) C d (by decide) (fun w h _ => by cases h; exact hb) hp k
theorem zS_istore_n_1_0 (C : zCx Γ A p s m args c own cc 1) {v0 : Value} {x : Int32} (d : decode cc pc = .ok (.istore_n 0, 1)) (hp : pc + 1 = n) (k : zV Γ A p l e R s m args below meth c cells slots Q n [.int x] st μ) : zV Γ A p l e R s m args below meth c cells slots Q pc [v0] (.int x :: st) μ := zV_istore_n (i := 0) C d rfl (by decide) (fun w h h0 => absurd rfl h0) hp k
theorem zS_istore_n_2_1 (C : zCx Γ A p s m args c own cc 2) {v0 v1 : Value} {x : Int32} (d : decode cc pc = .ok (.istore_n 1, 1)) (hb : v0.category = 1) (hp : pc + 1 = n) (k : zV Γ A p l e R s m args below meth c cells slots Q n [v0, .int x] st μ) : zV Γ A p l e R s m args below meth c cells slots Q pc [v0, v1] (.int x :: st) μ := zV_istore_n (i := 1) C d rfl (by decide) (fun w h _ => by cases h; exact hb) hp k
theorem zS_istore_n_3_1 (C : zCx Γ A p s m args c own cc 3) {v0 v1 v2 : Value} {x : Int32} (d : decode cc pc = .ok (.istore_n 1, 1)) (hb : v0.category = 1) (hp : pc + 1 = n) (k : zV Γ A p l e R s m args below meth c cells slots Q n [v0, .int x, v2] st μ) : zV Γ A p l e R s m args below meth c cells slots Q pc [v0, v1, v2] (.int x :: st) μ := zV_istore_n (i := 1) C d rfl (by decide) (fun w h _ => by cases h; exact hb) hp k
theorem zS_istore_n_3_2 (C : zCx Γ A p s m args c own cc 3) {v0 v1 v2 : Value} {x : Int32} (d : decode cc pc = .ok (.istore_n 2, 1)) (hb : v1.category = 1) (hp : pc + 1 = n) (k : zV Γ A p l e R s m args below meth c cells slots Q n [v0, v1, .int x] st μ) : zV Γ A p l e R s m args below meth c cells slots Q pc [v0, v1, v2] (.int x :: st) μ := zV_istore_n (i := 2) C d rfl (by decide) (fun w h _ => by cases h; exact hb) hp k
theorem zS_istore_n_4_1 (C : zCx Γ A p s m args c own cc 4) {v0 v1 v2 v3 : Value} {x : Int32} (d : decode cc pc = .ok (.istore_n 1, 1)) (hb : v0.category = 1) (hp : pc + 1 = n) (k : zV Γ A p l e R s m args below meth c cells slots Q n [v0, .int x, v2, v3] st μ) : zV Γ A p l e R s m args below meth c cells slots Q pc [v0, v1, v2, v3] (.int x :: st) μ := zV_istore_n (i := 1) C d rfl (by decide) (fun w h _ => by cases h; exact hb) hp k
theorem zS_istore_n_4_2 (C : zCx Γ A p s m args c own cc 4) {v0 v1 v2 v3 : Value} {x : Int32} (d : decode cc pc = .ok (.istore_n 2, 1)) (hb : v1.category = 1) (hp : pc + 1 = n) (k : zV Γ A p l e R s m args below meth c cells slots Q n [v0, v1, .int x, v3] st μ) : zV Γ A p l e R s m args below meth c cells slots Q pc [v0, v1, v2, v3] (.int x :: st) μ := zV_istore_n (i := 2) C d rfl (by decide) (fun w h _ => by cases h; exact hb) hp k
theorem zS_istore_n_4_3 (C : zCx Γ A p s m args c own cc 4) {v0 v1 v2 v3 : Value} {x : Int32} (d : decode cc pc = .ok (.istore_n 3, 1)) (hb : v2.category = 1) (hp : pc + 1 = n) (k : zV Γ A p l e R s m args below meth c cells slots Q n [v0, v1, v2, .int x] st μ) : zV Γ A p l e R s m args below meth c cells slots Q pc [v0, v1, v2, v3] (.int x :: st) μ := zV_istore_n (i := 3) C d rfl (by decide) (fun w h _ => by cases h; exact hb) hp k
theorem zS_istore_n_5_2 (C : zCx Γ A p s m args c own cc 5) {v0 v1 v2 v3 v4 : Value} {x : Int32} (d : decode cc pc = .ok (.istore_n 2, 1)) (hb : v1.category = 1) (hp : pc + 1 = n) (k : zV Γ A p l e R s m args below meth c cells slots Q n [v0, v1, .int x, v3, v4] st μ) : zV Γ A p l e R s m args below meth c cells slots Q pc [v0, v1, v2, v3, v4] (.int x :: st) μ := zV_istore_n (i := 2) C d rfl (by decide) (fun w h _ => by cases h; exact hb) hp k
theorem zS_istore_n_5_3 (C : zCx Γ A p s m args c own cc 5) {v0 v1 v2 v3 v4 : Value} {x : Int32} (d : decode cc pc = .ok (.istore_n 3, 1)) (hb : v2.category = 1) (hp : pc + 1 = n) (k : zV Γ A p l e R s m args below meth c cells slots Q n [v0, v1, v2, .int x, v4] st μ) : zV Γ A p l e R s m args below meth c cells slots Q pc [v0, v1, v2, v3, v4] (.int x :: st) μ := zV_istore_n (i := 3) C d rfl (by decide) (fun w h _ => by cases h; exact hb) hp k
theorem zS_istore_n_6_2 (C : zCx Γ A p s m args c own cc 6) {v0 v1 v2 v3 v4 v5 : Value} {x : Int32} (d : decode cc pc = .ok (.istore_n 2, 1)) (hb : v1.category = 1) (hp : pc + 1 = n) (k : zV Γ A p l e R s m args below meth c cells slots Q n [v0, v1, .int x, v3, v4, v5] st μ) : zV Γ A p l e R s m args below meth c cells slots Q pc [v0, v1, v2, v3, v4, v5] (.int x :: st) μ := zV_istore_n (i := 2) C d rfl (by decide) (fun w h _ => by cases h; exact hb) hp k
theorem zS_istore_n_6_3 (C : zCx Γ A p s m args c own cc 6) {v0 v1 v2 v3 v4 v5 : Value} {x : Int32} (d : decode cc pc = .ok (.istore_n 3, 1)) (hb : v2.category = 1) (hp : pc + 1 = n) (k : zV Γ A p l e R s m args below meth c cells slots Q n [v0, v1, v2, .int x, v4, v5] st μ) : zV Γ A p l e R s m args below meth c cells slots Q pc [v0, v1, v2, v3, v4, v5] (.int x :: st) μ := zV_istore_n (i := 3) C d rfl (by decide) (fun w h _ => by cases h; exact hb) hp k
theorem zS_istore_n_7_3 (C : zCx Γ A p s m args c own cc 7) {v0 v1 v2 v3 v4 v5 v6 : Value} {x : Int32} (d : decode cc pc = .ok (.istore_n 3, 1)) (hb : v2.category = 1) (hp : pc + 1 = n) (k : zV Γ A p l e R s m args below meth c cells slots Q n [v0, v1, v2, .int x, v4, v5, v6] st μ) : zV Γ A p l e R s m args below meth c cells slots Q pc [v0, v1, v2, v3, v4, v5, v6] (.int x :: st) μ := zV_istore_n (i := 3) C d rfl (by decide) (fun w h _ => by cases h; exact hb) hp k
theorem zS_istore_n_8_3 (C : zCx Γ A p s m args c own cc 8) {v0 v1 v2 v3 v4 v5 v6 v7 : Value} {x : Int32} (d : decode cc pc = .ok (.istore_n 3, 1)) (hb : v2.category = 1) (hp : pc + 1 = n) (k : zV Γ A p l e R s m args below meth c cells slots Q n [v0, v1, v2, .int x, v4, v5, v6, v7] st μ) : zV Γ A p l e R s m args below meth c cells slots Q pc [v0, v1, v2, v3, v4, v5, v6, v7] (.int x :: st) μ := zV_istore_n (i := 3) C d rfl (by decide) (fun w h _ => by cases h; exact hb) hp k
theorem zS_istore_n_9_3 (C : zCx Γ A p s m args c own cc 9) {v0 v1 v2 v3 v4 v5 v6 v7 v8 : Value} {x : Int32} (d : decode cc pc = .ok (.istore_n 3, 1)) (hb : v2.category = 1) (hp : pc + 1 = n) (k : zV Γ A p l e R s m args below meth c cells slots Q n [v0, v1, v2, .int x, v4, v5, v6, v7, v8] st μ) : zV Γ A p l e R s m args below meth c cells slots Q pc [v0, v1, v2, v3, v4, v5, v6, v7, v8] (.int x :: st) μ := zV_istore_n (i := 3) C d rfl (by decide) (fun w h _ => by cases h; exact hb) hp k
theorem zS_istore_n_10_3 (C : zCx Γ A p s m args c own cc 10) {v0 v1 v2 v3 v4 v5 v6 v7 v8 v9 : Value} {x : Int32} (d : decode cc pc = .ok (.istore_n 3, 1)) (hb : v2.category = 1) (hp : pc + 1 = n) (k : zV Γ A p l e R s m args below meth c cells slots Q n [v0, v1, v2, .int x, v4, v5, v6, v7, v8, v9] st μ) : zV Γ A p l e R s m args below meth c cells slots Q pc [v0, v1, v2, v3, v4, v5, v6, v7, v8, v9] (.int x :: st) μ := zV_istore_n (i := 3) C d rfl (by decide) (fun w h _ => by cases h; exact hb) hp k
theorem zS_lstore_6_4 (C : zCx Γ A p s m args c own cc 6) {v0 v1 v2 v3 v4 v5 : Value} {x : Int64} (d : decode cc pc = .ok (.lstore 4, 2)) (hb : v3.category = 1) (hp : pc + 2 = n) (k : zV Γ A p l e R s m args below meth c cells slots Q n [v0, v1, v2, v3, .long x, .null] st μ) : zV Γ A p l e R s m args below meth c cells slots Q pc [v0, v1, v2, v3, v4, v5] (.long x :: st) μ := zV_lstore (i := 4) C d (by decide) (fun w h _ => by cases h; exact hb) hp k
theorem zS_lstore_7_5 (C : zCx Γ A p s m args c own cc 7) {v0 v1 v2 v3 v4 v5 v6 : Value} {x : Int64} (d : decode cc pc = .ok (.lstore 5, 2)) (hb : v4.category = 1) (hp : pc + 2 = n) (k : zV Γ A p l e R s m args below meth c cells slots Q n [v0, v1, v2, v3, v4, .long x, .null] st μ) : zV Γ A p l e R s m args below meth c cells slots Q pc [v0, v1, v2, v3, v4, v5, v6] (.long x :: st) μ := zV_lstore (i := 5) C d (by decide) (fun w h _ => by cases h; exact hb) hp k
theorem zS_lstore_8_6 (C : zCx Γ A p s m args c own cc 8) {v0 v1 v2 v3 v4 v5 v6 v7 : Value} {x : Int64} (d : decode cc pc = .ok (.lstore 6, 2)) (hb : v5.category = 1) (hp : pc + 2 = n) (k : zV Γ A p l e R s m args below meth c cells slots Q n [v0, v1, v2, v3, v4, v5, .long x, .null] st μ) : zV Γ A p l e R s m args below meth c cells slots Q pc [v0, v1, v2, v3, v4, v5, v6, v7] (.long x :: st) μ := zV_lstore (i := 6) C d (by decide) (fun w h _ => by cases h; exact hb) hp k
theorem zS_lstore_n_3_1 (C : zCx Γ A p s m args c own cc 3) {v0 v1 v2 : Value} {x : Int64} (d : decode cc pc = .ok (.lstore_n 1, 1)) (hb : v0.category = 1) (hp : pc + 1 = n) (k : zV Γ A p l e R s m args below meth c cells slots Q n [v0, .long x, .null] st μ) : zV Γ A p l e R s m args below meth c cells slots Q pc [v0, v1, v2] (.long x :: st) μ := zV_lstore_n (i := 1) C d rfl (by decide) (fun w h _ => by cases h; exact hb) hp k
theorem zS_lstore_n_4_1 (C : zCx Γ A p s m args c own cc 4) {v0 v1 v2 v3 : Value} {x : Int64} (d : decode cc pc = .ok (.lstore_n 1, 1)) (hb : v0.category = 1) (hp : pc + 1 = n) (k : zV Γ A p l e R s m args below meth c cells slots Q n [v0, .long x, .null, v3] st μ) : zV Γ A p l e R s m args below meth c cells slots Q pc [v0, v1, v2, v3] (.long x :: st) μ := zV_lstore_n (i := 1) C d rfl (by decide) (fun w h _ => by cases h; exact hb) hp k
theorem zS_lstore_n_4_2 (C : zCx Γ A p s m args c own cc 4) {v0 v1 v2 v3 : Value} {x : Int64} (d : decode cc pc = .ok (.lstore_n 2, 1)) (hb : v1.category = 1) (hp : pc + 1 = n) (k : zV Γ A p l e R s m args below meth c cells slots Q n [v0, v1, .long x, .null] st μ) : zV Γ A p l e R s m args below meth c cells slots Q pc [v0, v1, v2, v3] (.long x :: st) μ := zV_lstore_n (i := 2) C d rfl (by decide) (fun w h _ => by cases h; exact hb) hp k
theorem zV_callV0u {y : zM} {d idx g ci N : Nat} {k : Int} {CN : String} {T : u_T} {ty : Nat → FieldType} {sp : List (Option (Nat × Int))} {μ' : zMem}  {w : Value} {nL : Nat} (C : zCx Γ A p s m args c own cc nL) (b : zCl ci CN T N ty) (hy : zInV y 0) (hl : Cond.methodLink own idx y.1 ∈ tblG) (hM : zRet Γ l d y (.ref (za Γ g k) :: []) μ (some w) μ') (hd : decode cc pc = .ok (.invokevirtual idx, 3)) (hs : zsh g k = some (.inl (ci, sp))) (hcn : y.1.cls = CN) (hW : (st.map fun v => v.category).sum ≤ 8) (hR : zfit R d y.2.2.1) (hc : cells ≤ R.cells ∧ slots ≤ R.slots) (hp : pc + 3 = n) (kk : zV Γ A p l e R s m args below meth c cells slots Q n lv (w :: st) μ') : zV Γ A p l e R s m args below meth c cells slots Q pc lv (.ref (za Γ g k) :: st) μ := zV_callV [] st C b hy hl hM hd hs hcn rfl rfl hW hR hc hp kk
theorem zV_callS0u {y : zM} {d idx : Nat} {μ' : zMem}  {w : Value} {nL : Nat} (C : zCx Γ A p s m args c own cc nL) (hy : zInS y 0) (hl : Cond.methodLink own idx y.1 ∈ tblG) (hM : zRet Γ l d y [] μ (some w) μ') (hd : decode cc pc = .ok (.invokestatic idx, 3)) (hW : (st.map fun v => v.category).sum ≤ 8) (hR : zfit R d y.2.2.1) (hc : cells ≤ R.cells ∧ slots ≤ R.slots) (hp : pc + 3 = n) (kk : zV Γ A p l e R s m args below meth c cells slots Q n lv (w :: st) μ') : zV Γ A p l e R s m args below meth c cells slots Q pc lv (st) μ := zV_callS [] st C hy hl hM hd rfl rfl hW hR hc hp kk
theorem zV_callV0v {y : zM} {d idx g ci N : Nat} {k : Int} {CN : String} {T : u_T} {ty : Nat → FieldType} {sp : List (Option (Nat × Int))} {μ' : zMem}   {nL : Nat} (C : zCx Γ A p s m args c own cc nL) (b : zCl ci CN T N ty) (hy : zInV y 0) (hl : Cond.methodLink own idx y.1 ∈ tblG) (hM : zRet Γ l d y (.ref (za Γ g k) :: []) μ none μ') (hd : decode cc pc = .ok (.invokevirtual idx, 3)) (hs : zsh g k = some (.inl (ci, sp))) (hcn : y.1.cls = CN) (hW : (st.map fun v => v.category).sum ≤ 8) (hR : zfit R d y.2.2.1) (hc : cells ≤ R.cells ∧ slots ≤ R.slots) (hp : pc + 3 = n) (kk : zV Γ A p l e R s m args below meth c cells slots Q n lv st μ') : zV Γ A p l e R s m args below meth c cells slots Q pc lv (.ref (za Γ g k) :: st) μ := zV_callV [] st C b hy hl hM hd hs hcn rfl rfl hW hR hc hp kk
theorem zV_callS0v {y : zM} {d idx : Nat} {μ' : zMem}   {nL : Nat} (C : zCx Γ A p s m args c own cc nL) (hy : zInS y 0) (hl : Cond.methodLink own idx y.1 ∈ tblG) (hM : zRet Γ l d y [] μ none μ') (hd : decode cc pc = .ok (.invokestatic idx, 3)) (hW : (st.map fun v => v.category).sum ≤ 8) (hR : zfit R d y.2.2.1) (hc : cells ≤ R.cells ∧ slots ≤ R.slots) (hp : pc + 3 = n) (kk : zV Γ A p l e R s m args below meth c cells slots Q n lv st μ') : zV Γ A p l e R s m args below meth c cells slots Q pc lv (st) μ := zV_callS [] st C hy hl hM hd rfl rfl hW hR hc hp kk
theorem zV_callV1u {y : zM} {d idx g ci N : Nat} {k : Int} {CN : String} {T : u_T} {ty : Nat → FieldType} {sp : List (Option (Nat × Int))} {μ' : zMem} {a0 : Value} {w : Value} {nL : Nat} (C : zCx Γ A p s m args c own cc nL) (b : zCl ci CN T N ty) (hy : zInV y 1) (hl : Cond.methodLink own idx y.1 ∈ tblG) (hM : zRet Γ l d y (.ref (za Γ g k) :: a0 :: []) μ (some w) μ') (hd : decode cc pc = .ok (.invokevirtual idx, 3)) (hs : zsh g k = some (.inl (ci, sp))) (hcn : y.1.cls = CN) (hW : (st.map fun v => v.category).sum ≤ 8) (hR : zfit R d y.2.2.1) (hc : cells ≤ R.cells ∧ slots ≤ R.slots) (hp : pc + 3 = n) (kk : zV Γ A p l e R s m args below meth c cells slots Q n lv (w :: st) μ') : zV Γ A p l e R s m args below meth c cells slots Q pc lv (a0 :: .ref (za Γ g k) :: st) μ := zV_callV [a0] st C b hy hl hM hd hs hcn rfl rfl hW hR hc hp kk
theorem zV_callS1u {y : zM} {d idx : Nat} {μ' : zMem} {a0 : Value} {w : Value} {nL : Nat} (C : zCx Γ A p s m args c own cc nL) (hy : zInS y 1) (hl : Cond.methodLink own idx y.1 ∈ tblG) (hM : zRet Γ l d y [a0] μ (some w) μ') (hd : decode cc pc = .ok (.invokestatic idx, 3)) (hW : (st.map fun v => v.category).sum ≤ 8) (hR : zfit R d y.2.2.1) (hc : cells ≤ R.cells ∧ slots ≤ R.slots) (hp : pc + 3 = n) (kk : zV Γ A p l e R s m args below meth c cells slots Q n lv (w :: st) μ') : zV Γ A p l e R s m args below meth c cells slots Q pc lv (a0 :: st) μ := zV_callS [a0] st C hy hl hM hd rfl rfl hW hR hc hp kk
theorem zV_callN1u {y : zM} {d idx : Nat} {μ' : zMem} {a0 : Value} {w : Value} {nL : Nat} (C : zCx Γ A p s m args c own cc nL) (hy : zInS y 1) (hl : (own, idx, y.1, "SeatStraps") ∈ znest) (hM : zRet Γ l d y [a0] μ (some w) μ') (hd : decode cc pc = .ok (.invokestatic idx, 3)) (hW : (st.map fun v => v.category).sum ≤ 8) (hR : zfit R d y.2.2.1) (hc : cells ≤ R.cells ∧ slots ≤ R.slots) (hp : pc + 3 = n) (kk : zV Γ A p l e R s m args below meth c cells slots Q n lv (w :: st) μ') : zV Γ A p l e R s m args below meth c cells slots Q pc lv (a0 :: st) μ := zV_callSN [a0] st C hy hl hM hd rfl rfl hW hR hc hp kk
theorem zV_callV1v {y : zM} {d idx g ci N : Nat} {k : Int} {CN : String} {T : u_T} {ty : Nat → FieldType} {sp : List (Option (Nat × Int))} {μ' : zMem} {a0 : Value}  {nL : Nat} (C : zCx Γ A p s m args c own cc nL) (b : zCl ci CN T N ty) (hy : zInV y 1) (hl : Cond.methodLink own idx y.1 ∈ tblG) (hM : zRet Γ l d y (.ref (za Γ g k) :: a0 :: []) μ none μ') (hd : decode cc pc = .ok (.invokevirtual idx, 3)) (hs : zsh g k = some (.inl (ci, sp))) (hcn : y.1.cls = CN) (hW : (st.map fun v => v.category).sum ≤ 8) (hR : zfit R d y.2.2.1) (hc : cells ≤ R.cells ∧ slots ≤ R.slots) (hp : pc + 3 = n) (kk : zV Γ A p l e R s m args below meth c cells slots Q n lv st μ') : zV Γ A p l e R s m args below meth c cells slots Q pc lv (a0 :: .ref (za Γ g k) :: st) μ := zV_callV [a0] st C b hy hl hM hd hs hcn rfl rfl hW hR hc hp kk
theorem zV_callS1v {y : zM} {d idx : Nat} {μ' : zMem} {a0 : Value}  {nL : Nat} (C : zCx Γ A p s m args c own cc nL) (hy : zInS y 1) (hl : Cond.methodLink own idx y.1 ∈ tblG) (hM : zRet Γ l d y [a0] μ none μ') (hd : decode cc pc = .ok (.invokestatic idx, 3)) (hW : (st.map fun v => v.category).sum ≤ 8) (hR : zfit R d y.2.2.1) (hc : cells ≤ R.cells ∧ slots ≤ R.slots) (hp : pc + 3 = n) (kk : zV Γ A p l e R s m args below meth c cells slots Q n lv st μ') : zV Γ A p l e R s m args below meth c cells slots Q pc lv (a0 :: st) μ := zV_callS [a0] st C hy hl hM hd rfl rfl hW hR hc hp kk
theorem zV_callV2u {y : zM} {d idx g ci N : Nat} {k : Int} {CN : String} {T : u_T} {ty : Nat → FieldType} {sp : List (Option (Nat × Int))} {μ' : zMem} {a0 a1 : Value} {w : Value} {nL : Nat} (C : zCx Γ A p s m args c own cc nL) (b : zCl ci CN T N ty) (hy : zInV y 2) (hl : Cond.methodLink own idx y.1 ∈ tblG) (hM : zRet Γ l d y (.ref (za Γ g k) :: a0 :: a1 :: []) μ (some w) μ') (hd : decode cc pc = .ok (.invokevirtual idx, 3)) (hs : zsh g k = some (.inl (ci, sp))) (hcn : y.1.cls = CN) (hW : (st.map fun v => v.category).sum ≤ 8) (hR : zfit R d y.2.2.1) (hc : cells ≤ R.cells ∧ slots ≤ R.slots) (hp : pc + 3 = n) (kk : zV Γ A p l e R s m args below meth c cells slots Q n lv (w :: st) μ') : zV Γ A p l e R s m args below meth c cells slots Q pc lv (a1 :: a0 :: .ref (za Γ g k) :: st) μ := zV_callV [a0, a1] st C b hy hl hM hd hs hcn rfl rfl hW hR hc hp kk
theorem zV_callS2u {y : zM} {d idx : Nat} {μ' : zMem} {a0 a1 : Value} {w : Value} {nL : Nat} (C : zCx Γ A p s m args c own cc nL) (hy : zInS y 2) (hl : Cond.methodLink own idx y.1 ∈ tblG) (hM : zRet Γ l d y [a0, a1] μ (some w) μ') (hd : decode cc pc = .ok (.invokestatic idx, 3)) (hW : (st.map fun v => v.category).sum ≤ 8) (hR : zfit R d y.2.2.1) (hc : cells ≤ R.cells ∧ slots ≤ R.slots) (hp : pc + 3 = n) (kk : zV Γ A p l e R s m args below meth c cells slots Q n lv (w :: st) μ') : zV Γ A p l e R s m args below meth c cells slots Q pc lv (a1 :: a0 :: st) μ := zV_callS [a0, a1] st C hy hl hM hd rfl rfl hW hR hc hp kk
theorem zV_callV2v {y : zM} {d idx g ci N : Nat} {k : Int} {CN : String} {T : u_T} {ty : Nat → FieldType} {sp : List (Option (Nat × Int))} {μ' : zMem} {a0 a1 : Value}  {nL : Nat} (C : zCx Γ A p s m args c own cc nL) (b : zCl ci CN T N ty) (hy : zInV y 2) (hl : Cond.methodLink own idx y.1 ∈ tblG) (hM : zRet Γ l d y (.ref (za Γ g k) :: a0 :: a1 :: []) μ none μ') (hd : decode cc pc = .ok (.invokevirtual idx, 3)) (hs : zsh g k = some (.inl (ci, sp))) (hcn : y.1.cls = CN) (hW : (st.map fun v => v.category).sum ≤ 8) (hR : zfit R d y.2.2.1) (hc : cells ≤ R.cells ∧ slots ≤ R.slots) (hp : pc + 3 = n) (kk : zV Γ A p l e R s m args below meth c cells slots Q n lv st μ') : zV Γ A p l e R s m args below meth c cells slots Q pc lv (a1 :: a0 :: .ref (za Γ g k) :: st) μ := zV_callV [a0, a1] st C b hy hl hM hd hs hcn rfl rfl hW hR hc hp kk
theorem zV_callS2v {y : zM} {d idx : Nat} {μ' : zMem} {a0 a1 : Value}  {nL : Nat} (C : zCx Γ A p s m args c own cc nL) (hy : zInS y 2) (hl : Cond.methodLink own idx y.1 ∈ tblG) (hM : zRet Γ l d y [a0, a1] μ none μ') (hd : decode cc pc = .ok (.invokestatic idx, 3)) (hW : (st.map fun v => v.category).sum ≤ 8) (hR : zfit R d y.2.2.1) (hc : cells ≤ R.cells ∧ slots ≤ R.slots) (hp : pc + 3 = n) (kk : zV Γ A p l e R s m args below meth c cells slots Q n lv st μ') : zV Γ A p l e R s m args below meth c cells slots Q pc lv (a1 :: a0 :: st) μ := zV_callS [a0, a1] st C hy hl hM hd rfl rfl hW hR hc hp kk
theorem zV_callV3u {y : zM} {d idx g ci N : Nat} {k : Int} {CN : String} {T : u_T} {ty : Nat → FieldType} {sp : List (Option (Nat × Int))} {μ' : zMem} {a0 a1 a2 : Value} {w : Value} {nL : Nat} (C : zCx Γ A p s m args c own cc nL) (b : zCl ci CN T N ty) (hy : zInV y 3) (hl : Cond.methodLink own idx y.1 ∈ tblG) (hM : zRet Γ l d y (.ref (za Γ g k) :: a0 :: a1 :: a2 :: []) μ (some w) μ') (hd : decode cc pc = .ok (.invokevirtual idx, 3)) (hs : zsh g k = some (.inl (ci, sp))) (hcn : y.1.cls = CN) (hW : (st.map fun v => v.category).sum ≤ 8) (hR : zfit R d y.2.2.1) (hc : cells ≤ R.cells ∧ slots ≤ R.slots) (hp : pc + 3 = n) (kk : zV Γ A p l e R s m args below meth c cells slots Q n lv (w :: st) μ') : zV Γ A p l e R s m args below meth c cells slots Q pc lv (a2 :: a1 :: a0 :: .ref (za Γ g k) :: st) μ := zV_callV [a0, a1, a2] st C b hy hl hM hd hs hcn rfl rfl hW hR hc hp kk
theorem zV_callS3u {y : zM} {d idx : Nat} {μ' : zMem} {a0 a1 a2 : Value} {w : Value} {nL : Nat} (C : zCx Γ A p s m args c own cc nL) (hy : zInS y 3) (hl : Cond.methodLink own idx y.1 ∈ tblG) (hM : zRet Γ l d y [a0, a1, a2] μ (some w) μ') (hd : decode cc pc = .ok (.invokestatic idx, 3)) (hW : (st.map fun v => v.category).sum ≤ 8) (hR : zfit R d y.2.2.1) (hc : cells ≤ R.cells ∧ slots ≤ R.slots) (hp : pc + 3 = n) (kk : zV Γ A p l e R s m args below meth c cells slots Q n lv (w :: st) μ') : zV Γ A p l e R s m args below meth c cells slots Q pc lv (a2 :: a1 :: a0 :: st) μ := zV_callS [a0, a1, a2] st C hy hl hM hd rfl rfl hW hR hc hp kk
theorem zV_callV3v {y : zM} {d idx g ci N : Nat} {k : Int} {CN : String} {T : u_T} {ty : Nat → FieldType} {sp : List (Option (Nat × Int))} {μ' : zMem} {a0 a1 a2 : Value}  {nL : Nat} (C : zCx Γ A p s m args c own cc nL) (b : zCl ci CN T N ty) (hy : zInV y 3) (hl : Cond.methodLink own idx y.1 ∈ tblG) (hM : zRet Γ l d y (.ref (za Γ g k) :: a0 :: a1 :: a2 :: []) μ none μ') (hd : decode cc pc = .ok (.invokevirtual idx, 3)) (hs : zsh g k = some (.inl (ci, sp))) (hcn : y.1.cls = CN) (hW : (st.map fun v => v.category).sum ≤ 8) (hR : zfit R d y.2.2.1) (hc : cells ≤ R.cells ∧ slots ≤ R.slots) (hp : pc + 3 = n) (kk : zV Γ A p l e R s m args below meth c cells slots Q n lv st μ') : zV Γ A p l e R s m args below meth c cells slots Q pc lv (a2 :: a1 :: a0 :: .ref (za Γ g k) :: st) μ := zV_callV [a0, a1, a2] st C b hy hl hM hd hs hcn rfl rfl hW hR hc hp kk
theorem zV_callS3v {y : zM} {d idx : Nat} {μ' : zMem} {a0 a1 a2 : Value}  {nL : Nat} (C : zCx Γ A p s m args c own cc nL) (hy : zInS y 3) (hl : Cond.methodLink own idx y.1 ∈ tblG) (hM : zRet Γ l d y [a0, a1, a2] μ none μ') (hd : decode cc pc = .ok (.invokestatic idx, 3)) (hW : (st.map fun v => v.category).sum ≤ 8) (hR : zfit R d y.2.2.1) (hc : cells ≤ R.cells ∧ slots ≤ R.slots) (hp : pc + 3 = n) (kk : zV Γ A p l e R s m args below meth c cells slots Q n lv st μ') : zV Γ A p l e R s m args below meth c cells slots Q pc lv (a2 :: a1 :: a0 :: st) μ := zV_callS [a0, a1, a2] st C hy hl hM hd rfl rfl hW hR hc hp kk
theorem zV_callV4u {y : zM} {d idx g ci N : Nat} {k : Int} {CN : String} {T : u_T} {ty : Nat → FieldType} {sp : List (Option (Nat × Int))} {μ' : zMem} {a0 a1 a2 a3 : Value} {w : Value} {nL : Nat} (C : zCx Γ A p s m args c own cc nL) (b : zCl ci CN T N ty) (hy : zInV y 4) (hl : Cond.methodLink own idx y.1 ∈ tblG) (hM : zRet Γ l d y (.ref (za Γ g k) :: a0 :: a1 :: a2 :: a3 :: []) μ (some w) μ') (hd : decode cc pc = .ok (.invokevirtual idx, 3)) (hs : zsh g k = some (.inl (ci, sp))) (hcn : y.1.cls = CN) (hW : (st.map fun v => v.category).sum ≤ 8) (hR : zfit R d y.2.2.1) (hc : cells ≤ R.cells ∧ slots ≤ R.slots) (hp : pc + 3 = n) (kk : zV Γ A p l e R s m args below meth c cells slots Q n lv (w :: st) μ') : zV Γ A p l e R s m args below meth c cells slots Q pc lv (a3 :: a2 :: a1 :: a0 :: .ref (za Γ g k) :: st) μ := zV_callV [a0, a1, a2, a3] st C b hy hl hM hd hs hcn rfl rfl hW hR hc hp kk
theorem zV_callS4u {y : zM} {d idx : Nat} {μ' : zMem} {a0 a1 a2 a3 : Value} {w : Value} {nL : Nat} (C : zCx Γ A p s m args c own cc nL) (hy : zInS y 4) (hl : Cond.methodLink own idx y.1 ∈ tblG) (hM : zRet Γ l d y [a0, a1, a2, a3] μ (some w) μ') (hd : decode cc pc = .ok (.invokestatic idx, 3)) (hW : (st.map fun v => v.category).sum ≤ 8) (hR : zfit R d y.2.2.1) (hc : cells ≤ R.cells ∧ slots ≤ R.slots) (hp : pc + 3 = n) (kk : zV Γ A p l e R s m args below meth c cells slots Q n lv (w :: st) μ') : zV Γ A p l e R s m args below meth c cells slots Q pc lv (a3 :: a2 :: a1 :: a0 :: st) μ := zV_callS [a0, a1, a2, a3] st C hy hl hM hd rfl rfl hW hR hc hp kk
theorem zV_callV4v {y : zM} {d idx g ci N : Nat} {k : Int} {CN : String} {T : u_T} {ty : Nat → FieldType} {sp : List (Option (Nat × Int))} {μ' : zMem} {a0 a1 a2 a3 : Value}  {nL : Nat} (C : zCx Γ A p s m args c own cc nL) (b : zCl ci CN T N ty) (hy : zInV y 4) (hl : Cond.methodLink own idx y.1 ∈ tblG) (hM : zRet Γ l d y (.ref (za Γ g k) :: a0 :: a1 :: a2 :: a3 :: []) μ none μ') (hd : decode cc pc = .ok (.invokevirtual idx, 3)) (hs : zsh g k = some (.inl (ci, sp))) (hcn : y.1.cls = CN) (hW : (st.map fun v => v.category).sum ≤ 8) (hR : zfit R d y.2.2.1) (hc : cells ≤ R.cells ∧ slots ≤ R.slots) (hp : pc + 3 = n) (kk : zV Γ A p l e R s m args below meth c cells slots Q n lv st μ') : zV Γ A p l e R s m args below meth c cells slots Q pc lv (a3 :: a2 :: a1 :: a0 :: .ref (za Γ g k) :: st) μ := zV_callV [a0, a1, a2, a3] st C b hy hl hM hd hs hcn rfl rfl hW hR hc hp kk
theorem zV_callS4v {y : zM} {d idx : Nat} {μ' : zMem} {a0 a1 a2 a3 : Value}  {nL : Nat} (C : zCx Γ A p s m args c own cc nL) (hy : zInS y 4) (hl : Cond.methodLink own idx y.1 ∈ tblG) (hM : zRet Γ l d y [a0, a1, a2, a3] μ none μ') (hd : decode cc pc = .ok (.invokestatic idx, 3)) (hW : (st.map fun v => v.category).sum ≤ 8) (hR : zfit R d y.2.2.1) (hc : cells ≤ R.cells ∧ slots ≤ R.slots) (hp : pc + 3 = n) (kk : zV Γ A p l e R s m args below meth c cells slots Q n lv st μ') : zV Γ A p l e R s m args below meth c cells slots Q pc lv (a3 :: a2 :: a1 :: a0 :: st) μ := zV_callS [a0, a1, a2, a3] st C hy hl hM hd rfl rfl hW hR hc hp kk
theorem zV_callV5u {y : zM} {d idx g ci N : Nat} {k : Int} {CN : String} {T : u_T} {ty : Nat → FieldType} {sp : List (Option (Nat × Int))} {μ' : zMem} {a0 a1 a2 a3 a4 : Value} {w : Value} {nL : Nat} (C : zCx Γ A p s m args c own cc nL) (b : zCl ci CN T N ty) (hy : zInV y 5) (hl : Cond.methodLink own idx y.1 ∈ tblG) (hM : zRet Γ l d y (.ref (za Γ g k) :: a0 :: a1 :: a2 :: a3 :: a4 :: []) μ (some w) μ') (hd : decode cc pc = .ok (.invokevirtual idx, 3)) (hs : zsh g k = some (.inl (ci, sp))) (hcn : y.1.cls = CN) (hW : (st.map fun v => v.category).sum ≤ 8) (hR : zfit R d y.2.2.1) (hc : cells ≤ R.cells ∧ slots ≤ R.slots) (hp : pc + 3 = n) (kk : zV Γ A p l e R s m args below meth c cells slots Q n lv (w :: st) μ') : zV Γ A p l e R s m args below meth c cells slots Q pc lv (a4 :: a3 :: a2 :: a1 :: a0 :: .ref (za Γ g k) :: st) μ := zV_callV [a0, a1, a2, a3, a4] st C b hy hl hM hd hs hcn rfl rfl hW hR hc hp kk
theorem zV_callS5u {y : zM} {d idx : Nat} {μ' : zMem} {a0 a1 a2 a3 a4 : Value} {w : Value} {nL : Nat} (C : zCx Γ A p s m args c own cc nL) (hy : zInS y 5) (hl : Cond.methodLink own idx y.1 ∈ tblG) (hM : zRet Γ l d y [a0, a1, a2, a3, a4] μ (some w) μ') (hd : decode cc pc = .ok (.invokestatic idx, 3)) (hW : (st.map fun v => v.category).sum ≤ 8) (hR : zfit R d y.2.2.1) (hc : cells ≤ R.cells ∧ slots ≤ R.slots) (hp : pc + 3 = n) (kk : zV Γ A p l e R s m args below meth c cells slots Q n lv (w :: st) μ') : zV Γ A p l e R s m args below meth c cells slots Q pc lv (a4 :: a3 :: a2 :: a1 :: a0 :: st) μ := zV_callS [a0, a1, a2, a3, a4] st C hy hl hM hd rfl rfl hW hR hc hp kk
theorem zV_callV5v {y : zM} {d idx g ci N : Nat} {k : Int} {CN : String} {T : u_T} {ty : Nat → FieldType} {sp : List (Option (Nat × Int))} {μ' : zMem} {a0 a1 a2 a3 a4 : Value}  {nL : Nat} (C : zCx Γ A p s m args c own cc nL) (b : zCl ci CN T N ty) (hy : zInV y 5) (hl : Cond.methodLink own idx y.1 ∈ tblG) (hM : zRet Γ l d y (.ref (za Γ g k) :: a0 :: a1 :: a2 :: a3 :: a4 :: []) μ none μ') (hd : decode cc pc = .ok (.invokevirtual idx, 3)) (hs : zsh g k = some (.inl (ci, sp))) (hcn : y.1.cls = CN) (hW : (st.map fun v => v.category).sum ≤ 8) (hR : zfit R d y.2.2.1) (hc : cells ≤ R.cells ∧ slots ≤ R.slots) (hp : pc + 3 = n) (kk : zV Γ A p l e R s m args below meth c cells slots Q n lv st μ') : zV Γ A p l e R s m args below meth c cells slots Q pc lv (a4 :: a3 :: a2 :: a1 :: a0 :: .ref (za Γ g k) :: st) μ := zV_callV [a0, a1, a2, a3, a4] st C b hy hl hM hd hs hcn rfl rfl hW hR hc hp kk
theorem zV_callS5v {y : zM} {d idx : Nat} {μ' : zMem} {a0 a1 a2 a3 a4 : Value}  {nL : Nat} (C : zCx Γ A p s m args c own cc nL) (hy : zInS y 5) (hl : Cond.methodLink own idx y.1 ∈ tblG) (hM : zRet Γ l d y [a0, a1, a2, a3, a4] μ none μ') (hd : decode cc pc = .ok (.invokestatic idx, 3)) (hW : (st.map fun v => v.category).sum ≤ 8) (hR : zfit R d y.2.2.1) (hc : cells ≤ R.cells ∧ slots ≤ R.slots) (hp : pc + 3 = n) (kk : zV Γ A p l e R s m args below meth c cells slots Q n lv st μ') : zV Γ A p l e R s m args below meth c cells slots Q pc lv (a4 :: a3 :: a2 :: a1 :: a0 :: st) μ := zV_callS [a0, a1, a2, a3, a4] st C hy hl hM hd rfl rfl hW hR hc hp kk
end ZPATS
end
