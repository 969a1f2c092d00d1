section
-- ===== PART A: goes FIRST, ahead of the names: the tables' words, and 'selects' of the private methods out of them =====
/-- a private method of a class that the tables say can be made, by its rows of tables_1 -/
def lw_okq (q : MethodName × Nat) : Prop := (q.1.cls ≠ "java/lang/invoke/MethodHandle" ∧ q.1.cls ≠ "java/lang/invoke/VarHandle") ∧ Cond.instantiable q.1.cls q.2 ∈ tables_1 ∧ Cond.privateMethod q.1 ∈ tables_1 ∧ Cond.instanceMethod q.1 ∈ tables_1
theorem lw_p0 : lw_okq (⟨"GooseCounty", "changeTrait", "(III)I"⟩, 11) := ⟨⟨by decide +kernel, by decide +kernel⟩, List.mem_of_getElem? (i := 19) (by decide +kernel), List.mem_of_getElem? (i := 337) (by decide +kernel), List.mem_of_getElem? (i := 338) (by decide +kernel)⟩
theorem lw_p1 : lw_okq (⟨"GooseCounty$County", "seeingIn", "(II)I"⟩, 14) := ⟨⟨by decide +kernel, by decide +kernel⟩, List.mem_of_getElem? (i := 27) (by decide +kernel), List.mem_of_getElem? (i := 409) (by decide +kernel), List.mem_of_getElem? (i := 410) (by decide +kernel)⟩
theorem lw_p2 : lw_okq (⟨"GooseCounty$County", "growOlder", "()V"⟩, 14) := ⟨⟨by decide +kernel, by decide +kernel⟩, List.mem_of_getElem? (i := 27) (by decide +kernel), List.mem_of_getElem? (i := 439) (by decide +kernel), List.mem_of_getElem? (i := 440) (by decide +kernel)⟩
theorem lw_p3 : lw_okq (⟨"GooseCounty$County", "meetFox", "()V"⟩, 14) := ⟨⟨by decide +kernel, by decide +kernel⟩, List.mem_of_getElem? (i := 27) (by decide +kernel), List.mem_of_getElem? (i := 443) (by decide +kernel), List.mem_of_getElem? (i := 444) (by decide +kernel)⟩
theorem lw_p4 : lw_okq (⟨"GooseCounty", "best", "(IIII)I"⟩, 11) := ⟨⟨by decide +kernel, by decide +kernel⟩, List.mem_of_getElem? (i := 19) (by decide +kernel), List.mem_of_getElem? (i := 498) (by decide +kernel), List.mem_of_getElem? (i := 499) (by decide +kernel)⟩
theorem lw_p5 : lw_okq (⟨"GooseCounty", "addDifferences", "(LGooseCounty$Sheet;)V"⟩, 11) := ⟨⟨by decide +kernel, by decide +kernel⟩, List.mem_of_getElem? (i := 19) (by decide +kernel), List.mem_of_getElem? (i := 526) (by decide +kernel), List.mem_of_getElem? (i := 527) (by decide +kernel)⟩
theorem lw_p6 : lw_okq (⟨"GooseCounty$Reader", "advance", "()V"⟩, 9) := ⟨⟨by decide +kernel, by decide +kernel⟩, List.mem_of_getElem? (i := 127) (by decide +kernel), List.mem_of_getElem? (i := 568) (by decide +kernel), List.mem_of_getElem? (i := 569) (by decide +kernel)⟩
theorem lw_p7 : lw_okq (⟨"GooseCounty$Reader", "readKey", "()Z"⟩, 9) := ⟨⟨by decide +kernel, by decide +kernel⟩, List.mem_of_getElem? (i := 127) (by decide +kernel), List.mem_of_getElem? (i := 578) (by decide +kernel), List.mem_of_getElem? (i := 579) (by decide +kernel)⟩
theorem lw_p8 : lw_okq (⟨"GooseCounty$Reader", "isWord", "(Ljava/lang/String;)Z"⟩, 9) := ⟨⟨by decide +kernel, by decide +kernel⟩, List.mem_of_getElem? (i := 127) (by decide +kernel), List.mem_of_getElem? (i := 583) (by decide +kernel), List.mem_of_getElem? (i := 584) (by decide +kernel)⟩
theorem lw_p9 : lw_okq (⟨"GooseCounty$Reader", "readOr", "(II)Z"⟩, 9) := ⟨⟨by decide +kernel, by decide +kernel⟩, List.mem_of_getElem? (i := 127) (by decide +kernel), List.mem_of_getElem? (i := 637) (by decide +kernel), List.mem_of_getElem? (i := 638) (by decide +kernel)⟩
theorem lw_p10 : lw_okq (⟨"GooseCounty$Reader", "readAnd", "(II)Z"⟩, 9) := ⟨⟨by decide +kernel, by decide +kernel⟩, List.mem_of_getElem? (i := 127) (by decide +kernel), List.mem_of_getElem? (i := 641) (by decide +kernel), List.mem_of_getElem? (i := 642) (by decide +kernel)⟩
theorem lw_p11 : lw_okq (⟨"GooseCounty$Reader", "readTest", "(II)Z"⟩, 9) := ⟨⟨by decide +kernel, by decide +kernel⟩, List.mem_of_getElem? (i := 127) (by decide +kernel), List.mem_of_getElem? (i := 645) (by decide +kernel), List.mem_of_getElem? (i := 646) (by decide +kernel)⟩
theorem lw_p12 : lw_okq (⟨"GooseCounty$Reader", "readSum", "(II)Z"⟩, 9) := ⟨⟨by decide +kernel, by decide +kernel⟩, List.mem_of_getElem? (i := 127) (by decide +kernel), List.mem_of_getElem? (i := 649) (by decide +kernel), List.mem_of_getElem? (i := 650) (by decide +kernel)⟩
theorem lw_p13 : lw_okq (⟨"GooseCounty$Reader", "readTerm", "(II)Z"⟩, 9) := ⟨⟨by decide +kernel, by decide +kernel⟩, List.mem_of_getElem? (i := 127) (by decide +kernel), List.mem_of_getElem? (i := 653) (by decide +kernel), List.mem_of_getElem? (i := 654) (by decide +kernel)⟩
theorem lw_p14 : lw_okq (⟨"GooseCounty$Reader", "readPiece", "(II)Z"⟩, 9) := ⟨⟨by decide +kernel, by decide +kernel⟩, List.mem_of_getElem? (i := 127) (by decide +kernel), List.mem_of_getElem? (i := 657) (by decide +kernel), List.mem_of_getElem? (i := 658) (by decide +kernel)⟩
theorem lw_p15 : lw_okq (⟨"GooseCounty$Reader", "isSign", "(I)Z"⟩, 9) := ⟨⟨by decide +kernel, by decide +kernel⟩, List.mem_of_getElem? (i := 127) (by decide +kernel), List.mem_of_getElem? (i := 661) (by decide +kernel), List.mem_of_getElem? (i := 662) (by decide +kernel)⟩
def lw_privs_1 : List (MethodName × Nat) := [(⟨"GooseCounty", "changeTrait", "(III)I"⟩, 11), (⟨"GooseCounty$County", "seeingIn", "(II)I"⟩, 14), (⟨"GooseCounty$County", "growOlder", "()V"⟩, 14), (⟨"GooseCounty$County", "meetFox", "()V"⟩, 14), (⟨"GooseCounty", "best", "(IIII)I"⟩, 11), (⟨"GooseCounty", "addDifferences", "(LGooseCounty$Sheet;)V"⟩, 11), (⟨"GooseCounty$Reader", "advance", "()V"⟩, 9), (⟨"GooseCounty$Reader", "readKey", "()Z"⟩, 9), (⟨"GooseCounty$Reader", "isWord", "(Ljava/lang/String;)Z"⟩, 9), (⟨"GooseCounty$Reader", "readOr", "(II)Z"⟩, 9), (⟨"GooseCounty$Reader", "readAnd", "(II)Z"⟩, 9), (⟨"GooseCounty$Reader", "readTest", "(II)Z"⟩, 9), (⟨"GooseCounty$Reader", "readSum", "(II)Z"⟩, 9), (⟨"GooseCounty$Reader", "readTerm", "(II)Z"⟩, 9), (⟨"GooseCounty$Reader", "readPiece", "(II)Z"⟩, 9), (⟨"GooseCounty$Reader", "isSign", "(I)Z"⟩, 9)]
theorem lw_r1 : ∀ q ∈ lw_privs_1, lw_okq q := List.forall_mem_cons.mpr ⟨lw_p0, List.forall_mem_cons.mpr ⟨lw_p1, List.forall_mem_cons.mpr ⟨lw_p2, List.forall_mem_cons.mpr ⟨lw_p3, List.forall_mem_cons.mpr ⟨lw_p4, List.forall_mem_cons.mpr ⟨lw_p5, List.forall_mem_cons.mpr ⟨lw_p6, List.forall_mem_cons.mpr ⟨lw_p7, List.forall_mem_cons.mpr ⟨lw_p8, List.forall_mem_cons.mpr ⟨lw_p9, List.forall_mem_cons.mpr ⟨lw_p10, List.forall_mem_cons.mpr ⟨lw_p11, List.forall_mem_cons.mpr ⟨lw_p12, List.forall_mem_cons.mpr ⟨lw_p13, List.forall_mem_cons.mpr ⟨lw_p14, List.forall_mem_cons.mpr ⟨lw_p15, fun _ h => absurd h List.not_mem_nil⟩⟩⟩⟩⟩⟩⟩⟩⟩⟩⟩⟩⟩⟩⟩⟩
theorem lw_p16 : lw_okq (⟨"GooseCounty$Reader", "write", "(I)V"⟩, 9) := ⟨⟨by decide +kernel, by decide +kernel⟩, List.mem_of_getElem? (i := 127) (by decide +kernel), List.mem_of_getElem? (i := 665) (by decide +kernel), List.mem_of_getElem? (i := 666) (by decide +kernel)⟩
theorem lw_p17 : lw_okq (⟨"GooseCounty$Reader", "readNumber", "()Z"⟩, 9) := ⟨⟨by decide +kernel, by decide +kernel⟩, List.mem_of_getElem? (i := 127) (by decide +kernel), List.mem_of_getElem? (i := 669) (by decide +kernel), List.mem_of_getElem? (i := 670) (by decide +kernel)⟩
theorem lw_p18 : lw_okq (⟨"GooseCounty$Reader", "readOperand", "(I)Z"⟩, 9) := ⟨⟨by decide +kernel, by decide +kernel⟩, List.mem_of_getElem? (i := 127) (by decide +kernel), List.mem_of_getElem? (i := 673) (by decide +kernel), List.mem_of_getElem? (i := 674) (by decide +kernel)⟩
theorem lw_p19 : lw_okq (⟨"GooseCounty$Reader", "readName", "()Z"⟩, 9) := ⟨⟨by decide +kernel, by decide +kernel⟩, List.mem_of_getElem? (i := 127) (by decide +kernel), List.mem_of_getElem? (i := 677) (by decide +kernel), List.mem_of_getElem? (i := 678) (by decide +kernel)⟩
theorem lw_p20 : lw_okq (⟨"GooseCountyModel", "worked", "(I)I"⟩, 29) := ⟨⟨by decide +kernel, by decide +kernel⟩, List.mem_of_getElem? (i := 868) (by decide +kernel), List.mem_of_getElem? (i := 966) (by decide +kernel), List.mem_of_getElem? (i := 967) (by decide +kernel)⟩
theorem lw_p21 : lw_okq (⟨"GooseCountyModel", "isGoose", "(I)Z"⟩, 29) := ⟨⟨by decide +kernel, by decide +kernel⟩, List.mem_of_getElem? (i := 868) (by decide +kernel), List.mem_of_getElem? (i := 980) (by decide +kernel), List.mem_of_getElem? (i := 981) (by decide +kernel)⟩
theorem lw_p22 : lw_okq (⟨"GooseCountyModel", "its", "(II)I"⟩, 29) := ⟨⟨by decide +kernel, by decide +kernel⟩, List.mem_of_getElem? (i := 868) (by decide +kernel), List.mem_of_getElem? (i := 988) (by decide +kernel), List.mem_of_getElem? (i := 989) (by decide +kernel)⟩
theorem lw_p23 : lw_okq (⟨"GooseCountyModel", "adds", "(IIII)I"⟩, 29) := ⟨⟨by decide +kernel, by decide +kernel⟩, List.mem_of_getElem? (i := 868) (by decide +kernel), List.mem_of_getElem? (i := 1008) (by decide +kernel), List.mem_of_getElem? (i := 1009) (by decide +kernel)⟩
theorem lw_p24 : lw_okq (⟨"GooseCountyModel", "sees", "(I)I"⟩, 29) := ⟨⟨by decide +kernel, by decide +kernel⟩, List.mem_of_getElem? (i := 868) (by decide +kernel), List.mem_of_getElem? (i := 1016) (by decide +kernel), List.mem_of_getElem? (i := 1017) (by decide +kernel)⟩
theorem lw_p25 : lw_okq (⟨"GooseCountyModel", "plain", "(I)I"⟩, 29) := ⟨⟨by decide +kernel, by decide +kernel⟩, List.mem_of_getElem? (i := 868) (by decide +kernel), List.mem_of_getElem? (i := 1020) (by decide +kernel), List.mem_of_getElem? (i := 1021) (by decide +kernel)⟩
theorem lw_p26 : lw_okq (⟨"GooseCountyModel", "inYard", "(I)I"⟩, 29) := ⟨⟨by decide +kernel, by decide +kernel⟩, List.mem_of_getElem? (i := 868) (by decide +kernel), List.mem_of_getElem? (i := 1024) (by decide +kernel), List.mem_of_getElem? (i := 1025) (by decide +kernel)⟩
theorem lw_p27 : lw_okq (⟨"GooseCountyModel", "wanders", "(I)I"⟩, 29) := ⟨⟨by decide +kernel, by decide +kernel⟩, List.mem_of_getElem? (i := 868) (by decide +kernel), List.mem_of_getElem? (i := 1031) (by decide +kernel), List.mem_of_getElem? (i := 1032) (by decide +kernel)⟩
theorem lw_p28 : lw_okq (⟨"GooseCountyModel", "tallies", "(I)I"⟩, 29) := ⟨⟨by decide +kernel, by decide +kernel⟩, List.mem_of_getElem? (i := 868) (by decide +kernel), List.mem_of_getElem? (i := 1035) (by decide +kernel), List.mem_of_getElem? (i := 1036) (by decide +kernel)⟩
theorem lw_p29 : lw_okq (⟨"GooseCountyModel", "changed", "(II)I"⟩, 29) := ⟨⟨by decide +kernel, by decide +kernel⟩, List.mem_of_getElem? (i := 868) (by decide +kernel), List.mem_of_getElem? (i := 1054) (by decide +kernel), List.mem_of_getElem? (i := 1055) (by decide +kernel)⟩
theorem lw_p30 : lw_okq (⟨"GooseCountyModel", "counted", "(I)I"⟩, 29) := ⟨⟨by decide +kernel, by decide +kernel⟩, List.mem_of_getElem? (i := 868) (by decide +kernel), List.mem_of_getElem? (i := 1072) (by decide +kernel), List.mem_of_getElem? (i := 1073) (by decide +kernel)⟩
theorem lw_p31 : lw_okq (⟨"GooseCountyModel", "isWitness", "(II)Z"⟩, 29) := ⟨⟨by decide +kernel, by decide +kernel⟩, List.mem_of_getElem? (i := 868) (by decide +kernel), List.mem_of_getElem? (i := 1076) (by decide +kernel), List.mem_of_getElem? (i := 1077) (by decide +kernel)⟩
def lw_privs_2 : List (MethodName × Nat) := [(⟨"GooseCounty$Reader", "write", "(I)V"⟩, 9), (⟨"GooseCounty$Reader", "readNumber", "()Z"⟩, 9), (⟨"GooseCounty$Reader", "readOperand", "(I)Z"⟩, 9), (⟨"GooseCounty$Reader", "readName", "()Z"⟩, 9), (⟨"GooseCountyModel", "worked", "(I)I"⟩, 29), (⟨"GooseCountyModel", "isGoose", "(I)Z"⟩, 29), (⟨"GooseCountyModel", "its", "(II)I"⟩, 29), (⟨"GooseCountyModel", "adds", "(IIII)I"⟩, 29), (⟨"GooseCountyModel", "sees", "(I)I"⟩, 29), (⟨"GooseCountyModel", "plain", "(I)I"⟩, 29), (⟨"GooseCountyModel", "inYard", "(I)I"⟩, 29), (⟨"GooseCountyModel", "wanders", "(I)I"⟩, 29), (⟨"GooseCountyModel", "tallies", "(I)I"⟩, 29), (⟨"GooseCountyModel", "changed", "(II)I"⟩, 29), (⟨"GooseCountyModel", "counted", "(I)I"⟩, 29), (⟨"GooseCountyModel", "isWitness", "(II)Z"⟩, 29)]
theorem lw_r2 : ∀ q ∈ lw_privs_2, lw_okq q := List.forall_mem_cons.mpr ⟨lw_p16, List.forall_mem_cons.mpr ⟨lw_p17, List.forall_mem_cons.mpr ⟨lw_p18, List.forall_mem_cons.mpr ⟨lw_p19, List.forall_mem_cons.mpr ⟨lw_p20, List.forall_mem_cons.mpr ⟨lw_p21, List.forall_mem_cons.mpr ⟨lw_p22, List.forall_mem_cons.mpr ⟨lw_p23, List.forall_mem_cons.mpr ⟨lw_p24, List.forall_mem_cons.mpr ⟨lw_p25, List.forall_mem_cons.mpr ⟨lw_p26, List.forall_mem_cons.mpr ⟨lw_p27, List.forall_mem_cons.mpr ⟨lw_p28, List.forall_mem_cons.mpr ⟨lw_p29, List.forall_mem_cons.mpr ⟨lw_p30, List.forall_mem_cons.mpr ⟨lw_p31, fun _ h => absurd h List.not_mem_nil⟩⟩⟩⟩⟩⟩⟩⟩⟩⟩⟩⟩⟩⟩⟩⟩
theorem lw_p32 : lw_okq (⟨"GooseCountyModel", "geeseIn", "(IZ)I"⟩, 29) := ⟨⟨by decide +kernel, by decide +kernel⟩, List.mem_of_getElem? (i := 868) (by decide +kernel), List.mem_of_getElem? (i := 1080) (by decide +kernel), List.mem_of_getElem? (i := 1081) (by decide +kernel)⟩
theorem lw_p33 : lw_okq (⟨"GooseCountyModel", "isHolding", "(I)Z"⟩, 29) := ⟨⟨by decide +kernel, by decide +kernel⟩, List.mem_of_getElem? (i := 868) (by decide +kernel), List.mem_of_getElem? (i := 1084) (by decide +kernel), List.mem_of_getElem? (i := 1085) (by decide +kernel)⟩
theorem lw_p34 : lw_okq (⟨"GooseCountyModel", "draw", "()I"⟩, 29) := ⟨⟨by decide +kernel, by decide +kernel⟩, List.mem_of_getElem? (i := 868) (by decide +kernel), List.mem_of_getElem? (i := 1097) (by decide +kernel), List.mem_of_getElem? (i := 1098) (by decide +kernel)⟩
theorem lw_p35 : lw_okq (⟨"GooseCountyModel", "isHoldingWith", "(II)Z"⟩, 29) := ⟨⟨by decide +kernel, by decide +kernel⟩, List.mem_of_getElem? (i := 868) (by decide +kernel), List.mem_of_getElem? (i := 1113) (by decide +kernel), List.mem_of_getElem? (i := 1114) (by decide +kernel)⟩
theorem lw_p36 : lw_okq (⟨"GooseCountyModel", "laysAside", "()V"⟩, 29) := ⟨⟨by decide +kernel, by decide +kernel⟩, List.mem_of_getElem? (i := 868) (by decide +kernel), List.mem_of_getElem? (i := 1117) (by decide +kernel), List.mem_of_getElem? (i := 1118) (by decide +kernel)⟩
theorem lw_p37 : lw_okq (⟨"GooseCountyModel", "takesBack", "(I)I"⟩, 29) := ⟨⟨by decide +kernel, by decide +kernel⟩, List.mem_of_getElem? (i := 868) (by decide +kernel), List.mem_of_getElem? (i := 1121) (by decide +kernel), List.mem_of_getElem? (i := 1122) (by decide +kernel)⟩
theorem lw_p38 : lw_okq (⟨"GooseCountyModel", "bargain", "(I)I"⟩, 29) := ⟨⟨by decide +kernel, by decide +kernel⟩, List.mem_of_getElem? (i := 868) (by decide +kernel), List.mem_of_getElem? (i := 1130) (by decide +kernel), List.mem_of_getElem? (i := 1131) (by decide +kernel)⟩
theorem lw_p39 : lw_okq (⟨"GooseCountyModel", "upToLast", "(I)I"⟩, 29) := ⟨⟨by decide +kernel, by decide +kernel⟩, List.mem_of_getElem? (i := 868) (by decide +kernel), List.mem_of_getElem? (i := 1140) (by decide +kernel), List.mem_of_getElem? (i := 1141) (by decide +kernel)⟩
theorem lw_p40 : lw_okq (⟨"GooseCountyModel", "daysGo", "(I)V"⟩, 29) := ⟨⟨by decide +kernel, by decide +kernel⟩, List.mem_of_getElem? (i := 868) (by decide +kernel), List.mem_of_getElem? (i := 1144) (by decide +kernel), List.mem_of_getElem? (i := 1145) (by decide +kernel)⟩
theorem lw_p41 : lw_okq (⟨"GooseCountyModel", "day", "()V"⟩, 29) := ⟨⟨by decide +kernel, by decide +kernel⟩, List.mem_of_getElem? (i := 868) (by decide +kernel), List.mem_of_getElem? (i := 1148) (by decide +kernel), List.mem_of_getElem? (i := 1149) (by decide +kernel)⟩
theorem lw_p42 : lw_okq (⟨"GooseCountyModel", "fox", "()V"⟩, 29) := ⟨⟨by decide +kernel, by decide +kernel⟩, List.mem_of_getElem? (i := 868) (by decide +kernel), List.mem_of_getElem? (i := 1152) (by decide +kernel), List.mem_of_getElem? (i := 1153) (by decide +kernel)⟩
theorem lw_p43 : lw_okq (⟨"GooseCountyModel", "holdingYards", "()I"⟩, 29) := ⟨⟨by decide +kernel, by decide +kernel⟩, List.mem_of_getElem? (i := 868) (by decide +kernel), List.mem_of_getElem? (i := 1160) (by decide +kernel), List.mem_of_getElem? (i := 1161) (by decide +kernel)⟩
theorem lw_p44 : lw_okq (⟨"GooseCountyModel", "together", "(I)I"⟩, 29) := ⟨⟨by decide +kernel, by decide +kernel⟩, List.mem_of_getElem? (i := 868) (by decide +kernel), List.mem_of_getElem? (i := 1164) (by decide +kernel), List.mem_of_getElem? (i := 1165) (by decide +kernel)⟩
theorem lw_p45 : lw_okq (⟨"GooseCountyModel", "eldest", "()I"⟩, 29) := ⟨⟨by decide +kernel, by decide +kernel⟩, List.mem_of_getElem? (i := 868) (by decide +kernel), List.mem_of_getElem? (i := 1168) (by decide +kernel), List.mem_of_getElem? (i := 1169) (by decide +kernel)⟩
theorem lw_p46 : lw_okq (⟨"GooseCountyModel", "toldAt", "(I)I"⟩, 29) := ⟨⟨by decide +kernel, by decide +kernel⟩, List.mem_of_getElem? (i := 868) (by decide +kernel), List.mem_of_getElem? (i := 1180) (by decide +kernel), List.mem_of_getElem? (i := 1181) (by decide +kernel)⟩
theorem lw_p47 : lw_okq (⟨"GooseCountyModel", "isAsked", "(III)Z"⟩, 29) := ⟨⟨by decide +kernel, by decide +kernel⟩, List.mem_of_getElem? (i := 868) (by decide +kernel), List.mem_of_getElem? (i := 1192) (by decide +kernel), List.mem_of_getElem? (i := 1193) (by decide +kernel)⟩
def lw_privs_3 : List (MethodName × Nat) := [(⟨"GooseCountyModel", "geeseIn", "(IZ)I"⟩, 29), (⟨"GooseCountyModel", "isHolding", "(I)Z"⟩, 29), (⟨"GooseCountyModel", "draw", "()I"⟩, 29), (⟨"GooseCountyModel", "isHoldingWith", "(II)Z"⟩, 29), (⟨"GooseCountyModel", "laysAside", "()V"⟩, 29), (⟨"GooseCountyModel", "takesBack", "(I)I"⟩, 29), (⟨"GooseCountyModel", "bargain", "(I)I"⟩, 29), (⟨"GooseCountyModel", "upToLast", "(I)I"⟩, 29), (⟨"GooseCountyModel", "daysGo", "(I)V"⟩, 29), (⟨"GooseCountyModel", "day", "()V"⟩, 29), (⟨"GooseCountyModel", "fox", "()V"⟩, 29), (⟨"GooseCountyModel", "holdingYards", "()I"⟩, 29), (⟨"GooseCountyModel", "together", "(I)I"⟩, 29), (⟨"GooseCountyModel", "eldest", "()I"⟩, 29), (⟨"GooseCountyModel", "toldAt", "(I)I"⟩, 29), (⟨"GooseCountyModel", "isAsked", "(III)Z"⟩, 29)]
theorem lw_r3 : ∀ q ∈ lw_privs_3, lw_okq q := List.forall_mem_cons.mpr ⟨lw_p32, List.forall_mem_cons.mpr ⟨lw_p33, List.forall_mem_cons.mpr ⟨lw_p34, List.forall_mem_cons.mpr ⟨lw_p35, List.forall_mem_cons.mpr ⟨lw_p36, List.forall_mem_cons.mpr ⟨lw_p37, List.forall_mem_cons.mpr ⟨lw_p38, List.forall_mem_cons.mpr ⟨lw_p39, List.forall_mem_cons.mpr ⟨lw_p40, List.forall_mem_cons.mpr ⟨lw_p41, List.forall_mem_cons.mpr ⟨lw_p42, List.forall_mem_cons.mpr ⟨lw_p43, List.forall_mem_cons.mpr ⟨lw_p44, List.forall_mem_cons.mpr ⟨lw_p45, List.forall_mem_cons.mpr ⟨lw_p46, List.forall_mem_cons.mpr ⟨lw_p47, fun _ h => absurd h List.not_mem_nil⟩⟩⟩⟩⟩⟩⟩⟩⟩⟩⟩⟩⟩⟩⟩⟩
theorem lw_p48 : lw_okq (⟨"GooseCountyModel", "mostBy", "(III)I"⟩, 29) := ⟨⟨by decide +kernel, by decide +kernel⟩, List.mem_of_getElem? (i := 868) (by decide +kernel), List.mem_of_getElem? (i := 1197) (by decide +kernel), List.mem_of_getElem? (i := 1198) (by decide +kernel)⟩
theorem lw_p49 : lw_okq (⟨"GooseCountyModel", "heldBehind", "(I)I"⟩, 29) := ⟨⟨by decide +kernel, by decide +kernel⟩, List.mem_of_getElem? (i := 868) (by decide +kernel), List.mem_of_getElem? (i := 1201) (by decide +kernel), List.mem_of_getElem? (i := 1202) (by decide +kernel)⟩
theorem lw_p50 : lw_okq (⟨"GooseCountyModel", "parses", "()V"⟩, 29) := ⟨⟨by decide +kernel, by decide +kernel⟩, List.mem_of_getElem? (i := 868) (by decide +kernel), List.mem_of_getElem? (i := 1235) (by decide +kernel), List.mem_of_getElem? (i := 1236) (by decide +kernel)⟩
theorem lw_p51 : lw_okq (⟨"GooseCountyModel", "next", "()V"⟩, 29) := ⟨⟨by decide +kernel, by decide +kernel⟩, List.mem_of_getElem? (i := 868) (by decide +kernel), List.mem_of_getElem? (i := 1239) (by decide +kernel), List.mem_of_getElem? (i := 1240) (by decide +kernel)⟩
theorem lw_p52 : lw_okq (⟨"GooseCountyModel", "byteAt", "(I)I"⟩, 29) := ⟨⟨by decide +kernel, by decide +kernel⟩, List.mem_of_getElem? (i := 868) (by decide +kernel), List.mem_of_getElem? (i := 1243) (by decide +kernel), List.mem_of_getElem? (i := 1244) (by decide +kernel)⟩
theorem lw_p53 : lw_okq (⟨"GooseCountyModel", "keyHere", "()I"⟩, 29) := ⟨⟨by decide +kernel, by decide +kernel⟩, List.mem_of_getElem? (i := 868) (by decide +kernel), List.mem_of_getElem? (i := 1257) (by decide +kernel), List.mem_of_getElem? (i := 1258) (by decide +kernel)⟩
theorem lw_p54 : lw_okq (⟨"GooseCountyModel", "isWord", "(IIII)Z"⟩, 29) := ⟨⟨by decide +kernel, by decide +kernel⟩, List.mem_of_getElem? (i := 868) (by decide +kernel), List.mem_of_getElem? (i := 1261) (by decide +kernel), List.mem_of_getElem? (i := 1262) (by decide +kernel)⟩
theorem lw_p55 : lw_okq (⟨"GooseCountyModel", "wrong", "()V"⟩, 29) := ⟨⟨by decide +kernel, by decide +kernel⟩, List.mem_of_getElem? (i := 868) (by decide +kernel), List.mem_of_getElem? (i := 1265) (by decide +kernel), List.mem_of_getElem? (i := 1266) (by decide +kernel)⟩
theorem lw_p56 : lw_okq (⟨"GooseCountyModel", "either", "()V"⟩, 29) := ⟨⟨by decide +kernel, by decide +kernel⟩, List.mem_of_getElem? (i := 868) (by decide +kernel), List.mem_of_getElem? (i := 1269) (by decide +kernel), List.mem_of_getElem? (i := 1270) (by decide +kernel)⟩
theorem lw_p57 : lw_okq (⟨"GooseCountyModel", "both", "()V"⟩, 29) := ⟨⟨by decide +kernel, by decide +kernel⟩, List.mem_of_getElem? (i := 868) (by decide +kernel), List.mem_of_getElem? (i := 1273) (by decide +kernel), List.mem_of_getElem? (i := 1274) (by decide +kernel)⟩
theorem lw_p58 : lw_okq (⟨"GooseCountyModel", "test", "()V"⟩, 29) := ⟨⟨by decide +kernel, by decide +kernel⟩, List.mem_of_getElem? (i := 868) (by decide +kernel), List.mem_of_getElem? (i := 1277) (by decide +kernel), List.mem_of_getElem? (i := 1278) (by decide +kernel)⟩
theorem lw_p59 : lw_okq (⟨"GooseCountyModel", "sum", "()V"⟩, 29) := ⟨⟨by decide +kernel, by decide +kernel⟩, List.mem_of_getElem? (i := 868) (by decide +kernel), List.mem_of_getElem? (i := 1281) (by decide +kernel), List.mem_of_getElem? (i := 1282) (by decide +kernel)⟩
theorem lw_p60 : lw_okq (⟨"GooseCountyModel", "term", "()V"⟩, 29) := ⟨⟨by decide +kernel, by decide +kernel⟩, List.mem_of_getElem? (i := 868) (by decide +kernel), List.mem_of_getElem? (i := 1285) (by decide +kernel), List.mem_of_getElem? (i := 1286) (by decide +kernel)⟩
theorem lw_p61 : lw_okq (⟨"GooseCountyModel", "piece", "()V"⟩, 29) := ⟨⟨by decide +kernel, by decide +kernel⟩, List.mem_of_getElem? (i := 868) (by decide +kernel), List.mem_of_getElem? (i := 1289) (by decide +kernel), List.mem_of_getElem? (i := 1290) (by decide +kernel)⟩
theorem lw_p62 : lw_okq (⟨"GooseCountyModel", "nameHere", "()I"⟩, 29) := ⟨⟨by decide +kernel, by decide +kernel⟩, List.mem_of_getElem? (i := 868) (by decide +kernel), List.mem_of_getElem? (i := 1293) (by decide +kernel), List.mem_of_getElem? (i := 1294) (by decide +kernel)⟩
theorem lw_p63 : lw_okq (⟨"GooseCountyModel", "figure", "()V"⟩, 29) := ⟨⟨by decide +kernel, by decide +kernel⟩, List.mem_of_getElem? (i := 868) (by decide +kernel), List.mem_of_getElem? (i := 1297) (by decide +kernel), List.mem_of_getElem? (i := 1298) (by decide +kernel)⟩
def lw_privs_4 : List (MethodName × Nat) := [(⟨"GooseCountyModel", "mostBy", "(III)I"⟩, 29), (⟨"GooseCountyModel", "heldBehind", "(I)I"⟩, 29), (⟨"GooseCountyModel", "parses", "()V"⟩, 29), (⟨"GooseCountyModel", "next", "()V"⟩, 29), (⟨"GooseCountyModel", "byteAt", "(I)I"⟩, 29), (⟨"GooseCountyModel", "keyHere", "()I"⟩, 29), (⟨"GooseCountyModel", "isWord", "(IIII)Z"⟩, 29), (⟨"GooseCountyModel", "wrong", "()V"⟩, 29), (⟨"GooseCountyModel", "either", "()V"⟩, 29), (⟨"GooseCountyModel", "both", "()V"⟩, 29), (⟨"GooseCountyModel", "test", "()V"⟩, 29), (⟨"GooseCountyModel", "sum", "()V"⟩, 29), (⟨"GooseCountyModel", "term", "()V"⟩, 29), (⟨"GooseCountyModel", "piece", "()V"⟩, 29), (⟨"GooseCountyModel", "nameHere", "()I"⟩, 29), (⟨"GooseCountyModel", "figure", "()V"⟩, 29)]
theorem lw_r4 : ∀ q ∈ lw_privs_4, lw_okq q := List.forall_mem_cons.mpr ⟨lw_p48, List.forall_mem_cons.mpr ⟨lw_p49, List.forall_mem_cons.mpr ⟨lw_p50, List.forall_mem_cons.mpr ⟨lw_p51, List.forall_mem_cons.mpr ⟨lw_p52, List.forall_mem_cons.mpr ⟨lw_p53, List.forall_mem_cons.mpr ⟨lw_p54, List.forall_mem_cons.mpr ⟨lw_p55, List.forall_mem_cons.mpr ⟨lw_p56, List.forall_mem_cons.mpr ⟨lw_p57, List.forall_mem_cons.mpr ⟨lw_p58, List.forall_mem_cons.mpr ⟨lw_p59, List.forall_mem_cons.mpr ⟨lw_p60, List.forall_mem_cons.mpr ⟨lw_p61, List.forall_mem_cons.mpr ⟨lw_p62, List.forall_mem_cons.mpr ⟨lw_p63, fun _ h => absurd h List.not_mem_nil⟩⟩⟩⟩⟩⟩⟩⟩⟩⟩⟩⟩⟩⟩⟩⟩
theorem lw_p64 : lw_okq (⟨"GooseCountyModel", "writes", "(I)V"⟩, 29) := ⟨⟨by decide +kernel, by decide +kernel⟩, List.mem_of_getElem? (i := 868) (by decide +kernel), List.mem_of_getElem? (i := 1301) (by decide +kernel), List.mem_of_getElem? (i := 1302) (by decide +kernel)⟩
theorem lw_p65 : lw_okq (⟨"GooseCountyModel", "isSign", "(I)Z"⟩, 29) := ⟨⟨by decide +kernel, by decide +kernel⟩, List.mem_of_getElem? (i := 868) (by decide +kernel), List.mem_of_getElem? (i := 1305) (by decide +kernel), List.mem_of_getElem? (i := 1306) (by decide +kernel)⟩
theorem lw_p66 : lw_okq (⟨"GooseCountyModel", "not", "()V"⟩, 29) := ⟨⟨by decide +kernel, by decide +kernel⟩, List.mem_of_getElem? (i := 868) (by decide +kernel), List.mem_of_getElem? (i := 1309) (by decide +kernel), List.mem_of_getElem? (i := 1310) (by decide +kernel)⟩
theorem lw_p67 : lw_okq (⟨"GooseCountyModel", "inner", "()V"⟩, 29) := ⟨⟨by decide +kernel, by decide +kernel⟩, List.mem_of_getElem? (i := 868) (by decide +kernel), List.mem_of_getElem? (i := 1313) (by decide +kernel), List.mem_of_getElem? (i := 1314) (by decide +kernel)⟩
theorem lw_p68 : lw_okq (⟨"GooseCountyModel", "lays", "()I"⟩, 29) := ⟨⟨by decide +kernel, by decide +kernel⟩, List.mem_of_getElem? (i := 868) (by decide +kernel), List.mem_of_getElem? (i := 1317) (by decide +kernel), List.mem_of_getElem? (i := 1318) (by decide +kernel)⟩
theorem lw_p69 : lw_okq (⟨"GooseCountyModel", "missing", "(I)I"⟩, 29) := ⟨⟨by decide +kernel, by decide +kernel⟩, List.mem_of_getElem? (i := 868) (by decide +kernel), List.mem_of_getElem? (i := 1335) (by decide +kernel), List.mem_of_getElem? (i := 1336) (by decide +kernel)⟩
theorem lw_p70 : lw_okq (⟨"GooseCountyModel", "wrongPlace", "(II)I"⟩, 29) := ⟨⟨by decide +kernel, by decide +kernel⟩, List.mem_of_getElem? (i := 868) (by decide +kernel), List.mem_of_getElem? (i := 1344) (by decide +kernel), List.mem_of_getElem? (i := 1345) (by decide +kernel)⟩
theorem lw_p71 : lw_okq (⟨"GooseCountyModel", "isThere", "(III)Z"⟩, 29) := ⟨⟨by decide +kernel, by decide +kernel⟩, List.mem_of_getElem? (i := 868) (by decide +kernel), List.mem_of_getElem? (i := 1362) (by decide +kernel), List.mem_of_getElem? (i := 1363) (by decide +kernel)⟩
theorem lw_p72 : lw_okq (⟨"GooseCountyModel", "laid", "(III)I"⟩, 29) := ⟨⟨by decide +kernel, by decide +kernel⟩, List.mem_of_getElem? (i := 868) (by decide +kernel), List.mem_of_getElem? (i := 1373) (by decide +kernel), List.mem_of_getElem? (i := 1374) (by decide +kernel)⟩
theorem lw_p73 : lw_okq (⟨"GooseCountyModel", "holdsGoose", "(II)V"⟩, 29) := ⟨⟨by decide +kernel, by decide +kernel⟩, List.mem_of_getElem? (i := 868) (by decide +kernel), List.mem_of_getElem? (i := 1377) (by decide +kernel), List.mem_of_getElem? (i := 1378) (by decide +kernel)⟩
theorem lw_p74 : lw_okq (⟨"GooseCountyModel", "holdsSheet", "(II)V"⟩, 29) := ⟨⟨by decide +kernel, by decide +kernel⟩, List.mem_of_getElem? (i := 868) (by decide +kernel), List.mem_of_getElem? (i := 1381) (by decide +kernel), List.mem_of_getElem? (i := 1382) (by decide +kernel)⟩
theorem lw_p75 : lw_okq (⟨"GooseCountyModel", "become", "([I[I)V"⟩, 29) := ⟨⟨by decide +kernel, by decide +kernel⟩, List.mem_of_getElem? (i := 868) (by decide +kernel), List.mem_of_getElem? (i := 1407) (by decide +kernel), List.mem_of_getElem? (i := 1408) (by decide +kernel)⟩
theorem lw_p76 : lw_okq (⟨"GooseCountyModel", "firstUnlike", "(II)I"⟩, 29) := ⟨⟨by decide +kernel, by decide +kernel⟩, List.mem_of_getElem? (i := 868) (by decide +kernel), List.mem_of_getElem? (i := 1411) (by decide +kernel), List.mem_of_getElem? (i := 1412) (by decide +kernel)⟩
def lw_privs_5 : List (MethodName × Nat) := [(⟨"GooseCountyModel", "writes", "(I)V"⟩, 29), (⟨"GooseCountyModel", "isSign", "(I)Z"⟩, 29), (⟨"GooseCountyModel", "not", "()V"⟩, 29), (⟨"GooseCountyModel", "inner", "()V"⟩, 29), (⟨"GooseCountyModel", "lays", "()I"⟩, 29), (⟨"GooseCountyModel", "missing", "(I)I"⟩, 29), (⟨"GooseCountyModel", "wrongPlace", "(II)I"⟩, 29), (⟨"GooseCountyModel", "isThere", "(III)Z"⟩, 29), (⟨"GooseCountyModel", "laid", "(III)I"⟩, 29), (⟨"GooseCountyModel", "holdsGoose", "(II)V"⟩, 29), (⟨"GooseCountyModel", "holdsSheet", "(II)V"⟩, 29), (⟨"GooseCountyModel", "become", "([I[I)V"⟩, 29), (⟨"GooseCountyModel", "firstUnlike", "(II)I"⟩, 29)]
theorem lw_r5 : ∀ q ∈ lw_privs_5, lw_okq q := List.forall_mem_cons.mpr ⟨lw_p64, List.forall_mem_cons.mpr ⟨lw_p65, List.forall_mem_cons.mpr ⟨lw_p66, List.forall_mem_cons.mpr ⟨lw_p67, List.forall_mem_cons.mpr ⟨lw_p68, List.forall_mem_cons.mpr ⟨lw_p69, List.forall_mem_cons.mpr ⟨lw_p70, List.forall_mem_cons.mpr ⟨lw_p71, List.forall_mem_cons.mpr ⟨lw_p72, List.forall_mem_cons.mpr ⟨lw_p73, List.forall_mem_cons.mpr ⟨lw_p74, List.forall_mem_cons.mpr ⟨lw_p75, List.forall_mem_cons.mpr ⟨lw_p76, fun _ h => absurd h List.not_mem_nil⟩⟩⟩⟩⟩⟩⟩⟩⟩⟩⟩⟩⟩
def lw_privs : List (MethodName × Nat) := lw_privs_1 ++ (lw_privs_2 ++ (lw_privs_3 ++ (lw_privs_4 ++ (lw_privs_5))))
def lw_tbl : List Cond := k2_sels lw_privs ++ tables_1
theorem lw_privs_ok : ∀ q ∈ lw_privs, lw_okq q := by
  show ∀ q ∈ lw_privs_1 ++ (lw_privs_2 ++ (lw_privs_3 ++ (lw_privs_4 ++ (lw_privs_5)))), lw_okq q
  exact List.forall_mem_append.mpr ⟨lw_r1, List.forall_mem_append.mpr ⟨lw_r2, List.forall_mem_append.mpr ⟨lw_r3, List.forall_mem_append.mpr ⟨lw_r4, lw_r5⟩⟩⟩⟩
end
section
/-! ===== whole numbers as the picture has them ===== -/
def w32 (x : Int) : Int := (x + 2147483648) % 4294967296 - 2147483648
def inR (x : Int) : Prop := -2147483648 ≤ x ∧ x < 2147483648
def inL (x : Int) : Prop := -9223372036854775808 ≤ x ∧ x < 9223372036854775808
theorem w32_in (x : Int) : inR (w32 x) := by unfold inR w32; omega
theorem w32_id {x : Int} (h : inR x) : w32 x = x := by unfold inR at h; unfold w32; omega
theorem w32_bmod (x : Int) : w32 x = x.bmod 4294967296 := by
  unfold w32 Int.bmod
  simp only
  split <;> omega
theorem gi_w32 (x : Int) : Int32.ofInt (w32 x) = Int32.ofInt x := by
  apply Int32.toInt_inj.1
  rw [Int32.toInt_ofInt, Int32.toInt_ofInt]
  show (w32 x).bmod 4294967296 = x.bmod 4294967296
  rw [w32_bmod, Int.bmod_bmod]
theorem gi_to {x : Int} (h : inR x) : (Int32.ofInt x).toInt = x := Int32.toInt_ofInt_of_le (by have := h.1; omega) (by have := h.2; omega)
theorem gi_in (x : Int32) : inR x.toInt := ⟨by have := Int32.le_toInt x; omega, by have := Int32.toInt_lt x; omega⟩
theorem gi_eq {a b : Int} (ha : inR a) (hb : inR b) : Int32.ofInt a = Int32.ofInt b ↔ a = b := by
  constructor
  · intro h
    have := congrArg Int32.toInt h
    rwa [gi_to ha, gi_to hb] at this
  · intro h; rw [h]
theorem gi_lt {a b : Int} (ha : inR a) (hb : inR b) : Int32.ofInt a < Int32.ofInt b ↔ a < b := by
  rw [Int32.lt_iff_toInt_lt, gi_to ha, gi_to hb]
theorem gi_le {a b : Int} (ha : inR a) (hb : inR b) : Int32.ofInt a ≤ Int32.ofInt b ↔ a ≤ b := by
  rw [Int32.le_iff_toInt_le, gi_to ha, gi_to hb]
theorem inR_0 : inR 0 := by unfold inR; omega
theorem gi_0 : Int32.ofInt 0 = 0 := rfl
theorem gi_eq0 {a : Int} (ha : inR a) : Int32.ofInt a = 0 ↔ a = 0 := by rw [← gi_0]; exact gi_eq ha inR_0
theorem gi_lt0 {a : Int} (ha : inR a) : Int32.ofInt a < 0 ↔ a < 0 := by rw [← gi_0]; exact gi_lt ha inR_0
theorem gi_le0 {a : Int} (ha : inR a) : Int32.ofInt a ≤ 0 ↔ a ≤ 0 := by rw [← gi_0]; exact gi_le ha inR_0
theorem gi_gt0 {a : Int} (ha : inR a) : 0 < Int32.ofInt a ↔ 0 < a := by rw [← gi_0]; exact gi_lt inR_0 ha
theorem gi_ge0 {a : Int} (ha : inR a) : 0 ≤ Int32.ofInt a ↔ 0 ≤ a := by rw [← gi_0]; exact gi_le inR_0 ha
theorem gi_cl {i : Int} (h : inR i) : (Int32.ofInt i).toNatClampNeg = i.toNat := by
  show (Int32.ofInt i).toInt.toNat = i.toNat
  rw [gi_to h]
theorem gi_vp {i : Int} {n : Nat} (h : inR i) (h0 : 0 ≤ i) (hn : i < n) : vp_in (Int32.ofInt i) n := by
  rintro (q | q)
  · rw [gi_lt0 h] at q; omega
  · rw [gi_cl h] at q; omega
theorem gi_sub (a b : Int) : Int32.ofInt a - Int32.ofInt b = Int32.ofInt (w32 (a - b)) := by rw [gi_w32, Int32.ofInt_sub]
theorem gi_add (a b : Int) : Int32.ofInt a + Int32.ofInt b = Int32.ofInt (w32 (a + b)) := by rw [gi_w32, Int32.ofInt_add]
theorem gi_mul (a b : Int) : Int32.ofInt a * Int32.ofInt b = Int32.ofInt (w32 (a * b)) := by rw [gi_w32, Int32.ofInt_mul]
theorem gi_neg (a : Int) : - Int32.ofInt a = Int32.ofInt (w32 (-a)) := by rw [gi_w32, Int32.ofInt_neg]
theorem gi_div {a b : Int} (ha : inR a) (hb : inR b) : Int32.ofInt a / Int32.ofInt b = Int32.ofInt (w32 (a.tdiv b)) := by
  apply Int32.toInt_inj.1
  rw [Int32.toInt_div, gi_to ha, gi_to hb, gi_to (w32_in _), w32_bmod]
theorem inR_tmod {a b : Int} (ha : inR a) (hb : inR b) (h0 : b ≠ 0) : inR (a.tmod b) := by
  have h1 : (a.tmod b).natAbs = a.natAbs % b.natAbs := Int.natAbs_tmod a b
  have h2 : a.natAbs % b.natAbs < b.natAbs := Nat.mod_lt _ (by omega)
  have h3 : a.natAbs % b.natAbs ≤ a.natAbs := Nat.mod_le _ _
  unfold inR at ha hb ⊢
  rcases Int.le_total 0 a with h | h
  · have := Int.tmod_nonneg b h
    omega
  · omega
theorem gi_rem {a b : Int} (ha : inR a) (hb : inR b) : Int32.ofInt a - Int32.ofInt a / Int32.ofInt b * Int32.ofInt b = Int32.ofInt (a.tmod b) := by
  rw [gi_div ha hb, gi_w32, ← Int32.ofInt_mul, ← Int32.ofInt_sub]
  congr 1
  have := Int.mul_tdiv_add_tmod a b
  have h2 : b * a.tdiv b = a.tdiv b * b := Int.mul_comm _ _
  omega
def iAnd (a b : Int) : Int := (Int32.ofInt a &&& Int32.ofInt b).toInt
def iOr (a b : Int) : Int := (Int32.ofInt a ||| Int32.ofInt b).toInt
def iXor (a b : Int) : Int := (Int32.ofInt a ^^^ Int32.ofInt b).toInt
def iShl (a b : Int) : Int := (Int32.ofInt a <<< (Int32.ofInt b &&& 31)).toInt
def iShr (a b : Int) : Int := (Int32.ofInt a >>> (Int32.ofInt b &&& 31)).toInt
def iUshr (a b : Int) : Int := ((Int32.ofInt a).toUInt32 >>> ((Int32.ofInt b).toUInt32 &&& Int32.toUInt32 31)).toInt32.toInt
def iI2s (a : Int) : Int := (Int32.ofInt a).toInt16.toInt32.toInt
def iI2b (a : Int) : Int := (Int32.ofInt a).toInt8.toInt32.toInt
def iI2c (a : Int) : Int := ((Int32.ofInt a).toUInt32 % 65536).toInt32.toInt
def iCmp (a b : Int) : Int := if b < a then 1 else if a < b then -1 else 0
theorem gl_to {x : Int} (h : inL x) : (Int64.ofInt x).toInt = x := Int64.toInt_ofInt_of_le (by have := h.1; omega) (by have := h.2; omega)
theorem gl_lt {a b : Int} (ha : inL a) (hb : inL b) : Int64.ofInt a < Int64.ofInt b ↔ a < b := by
  rw [Int64.lt_iff_toInt_lt, gl_to ha, gl_to hb]
theorem gl_eq {a b : Int} (ha : inL a) (hb : inL b) : Int64.ofInt a = Int64.ofInt b ↔ a = b := by
  constructor
  · intro h
    have := congrArg Int64.toInt h
    rwa [gl_to ha, gl_to hb] at this
  · intro h; rw [h]
theorem gl_cmp {a b : Int} (ha : inL a) (hb : inL b) : lg_cmp (Int64.ofInt a) (Int64.ofInt b) = Int32.ofInt (iCmp a b) := by
  unfold lg_cmp iCmp
  simp only [gl_lt hb ha, gl_eq ha hb]
  by_cases h1 : b < a
  · rw [if_pos h1, if_pos h1]; rfl
  · rw [if_neg h1, if_neg h1]
    by_cases h2 : a = b
    · rw [if_pos h2, if_neg (by omega)]; rfl
    · rw [if_neg h2, if_pos (by omega)]; rfl
theorem gl_i2l {a : Int} (ha : inR a) : (Int32.ofInt a).toInt64 = Int64.ofInt a := by
  rw [← Int64.ofInt_int32ToInt, gi_to ha]
theorem inL_of {a : Int} (ha : inR a) : inL a := by unfold inR at ha; unfold inL; omega
theorem inR_cmp (a b : Int) : inR (iCmp a b) := by
  unfold iCmp
  split
  · unfold inR; omega
  · split <;> (unfold inR; omega)
/-! ===== values, cells, memory ===== -/
/-- a value: an int, a long, a reference into the memory (or null), a constant's number (or nothing) -/
abbrev GV : Type := Int ⊕ (Int ⊕ (Option Nat ⊕ Option Nat))
abbrev gI (x : Int) : GV := .inl x
abbrev gL (x : Int) : GV := .inr (.inl x)
abbrev gO (o : Option Nat) : GV := .inr (.inr (.inl o))
abbrev gR (a : Nat) : GV := .inr (.inr (.inl (some a)))
abbrev gN : GV := .inr (.inr (.inl none))
abbrev gS (i : Nat) : GV := .inr (.inr (.inr (some i)))
abbrev gU : GV := .inr (.inr (.inr none))
/-- a cell: a row of ints, a row of references to objects of a class, an object -/
abbrev GC : Type := (Nat × (Nat → Int)) ⊕ ((Nat × Nat × (Nat → Option Nat)) ⊕ (Nat × List GV))
abbrev cI (n : Nat) (f : Nat → Int) : GC := .inl (n, f)
abbrev cR (ci n : Nat) (f : Nat → Option Nat) : GC := .inr (.inl (ci, n, f))
abbrev cO (ci : Nat) (fs : List GV) : GC := .inr (.inr (ci, fs))
/-- how many cells, and what they are (beyond: an object of no class) -/
abbrev GM : Type := Nat × (Nat → GC)
/-- the launch, the first free address, the classes, the class of int rows, of rows of objects, the addresses of constants, the script -/
abbrev GX : Type := Launch × Nat × va_G × ClassId × (Nat → ClassId) × (Nat → Nat) × Nat × (Nat → Int)
abbrev xs0 (g : GX) : Nat := g.2.1
abbrev xD (g : GX) : va_G := g.2.2.1
abbrev xaI (g : GX) : ClassId := g.2.2.2.1
abbrev xaR (g : GX) : Nat → ClassId := g.2.2.2.2.1
abbrev xsa (g : GX) : Nat → Nat := g.2.2.2.2.2.1
abbrev xL (g : GX) : Nat := g.2.2.2.2.2.2.1
abbrev xX (g : GX) : Nat → Int := g.2.2.2.2.2.2.2
/-- the method's name, its bytes, its locals, what it answers -/
abbrev GY : Type := MethodName × ByteArray × Nat × Option FieldType
def rv (g : GX) : GV → Value
  | .inl x => .int (Int32.ofInt x)
  | .inr (.inl x) => .long (Int64.ofInt x)
  | .inr (.inr (.inl none)) => .null
  | .inr (.inr (.inl (some a))) => .ref (xs0 g + a)
  | .inr (.inr (.inr (some i))) => .ref (xsa g i)
  | .inr (.inr (.inr none)) => .null
def ro (g : GX) : GV → Option Value
  | .inr (.inr (.inr none)) => none
  | v => some (rv g v)
def rp (st : List GV) : GV → List GV
  | .inr (.inr (.inr none)) => st
  | v => v :: st
def okV : GV → Prop
  | .inl x => inR x
  | .inr (.inl x) => inL x
  | _ => True
def okC : GC → Prop
  | .inl (n, f) => n < 2147483648 ∧ ∀ j, inR (f j)
  | .inr (.inl (_, n, _)) => n < 2147483648
  | .inr (.inr (_, fs)) => ∀ v ∈ fs, okV v
def ce (g : GX) : GC → va_E
  | .inl (n, f) => .inl (xaI g, n, .inl (fun j => Int32.ofInt (f j)))
  | .inr (.inl (ci, n, f)) => .inl (xaR g ci, n, .inr (.inr (.inr (.inr (fun j => (f j).map (fun a => xs0 g + a))))))
  | .inr (.inr (ci, fs)) => .inr (ci, fs.map (rv g))
abbrev gBad : GC := cO 99 []
end
section
/-! ===== printed by wip/whole/gen03.py: classes, fields, words, constants ===== -/
def gw : List Cond := lw_tbl.filter goodWord
theorem gw_of {w : Cond} (h : w ∈ lw_tbl) (hg : goodWord w = true) : w ∈ gw := List.mem_filter.mpr ⟨h, hg⟩
theorem gw_t {w : Cond} (i : Nat) (h : tables_1[i]? = some w) (hg : goodWord w = true) : w ∈ gw := gw_of (List.mem_append_right _ (List.mem_of_getElem? h)) hg
theorem gw_p {w : Cond} (i : Nat) (h : (k2_sels lw_privs)[i]? = some w) (hg : goodWord w = true) : w ∈ gw := gw_of (List.mem_append_left _ (List.mem_of_getElem? h)) hg
def ZR0 : String := "GooseCounty"
def ZT0 : u_T := fun k => match k with
  | 0 => ("GooseCounty", "now", "LGooseCounty$County;", true)
  | 1 => ("GooseCounty", "image", "LGooseCounty$County;", true)
  | 2 => ("GooseCounty", "thought", "LGooseCounty$County;", true)
  | 3 => ("GooseCounty", "reader", "LGooseCounty$Reader;", true)
  | 4 => ("GooseCounty", "sheets", "[LGooseCounty$Sheet;", true)
  | 5 => ("GooseCounty", "slots", "[LGooseCounty$Slot;", true)
  | 6 => ("GooseCounty", "waiting", "[I", true)
  | 7 => ("GooseCounty", "heldWith", "[I", true)
  | 8 => ("GooseCounty", "differences", "[I", true)
  | 9 => ("GooseCounty", "waits", "I", false)
  | _ => ("GooseCounty", "kept", "Z", false)
def Zt0 : Nat → FieldType := fun k => match k with
  | 0 => .object "GooseCounty$County"
  | 1 => .object "GooseCounty$County"
  | 2 => .object "GooseCounty$County"
  | 3 => .object "GooseCounty$Reader"
  | 4 => .array (.object "GooseCounty$Sheet")
  | 5 => .array (.object "GooseCounty$Slot")
  | 6 => .array .int
  | 7 => .array .int
  | 8 => .array .int
  | 9 => .int
  | _ => .boolean
theorem Zn0 : ∀ a, a < 11 → ∀ b, b < 11 → a ≠ b → (ZT0 a).2.1 ≠ (ZT0 b).2.1 := by decide +kernel
theorem Zk0 : ∀ k, k < 11 → parseFieldDescriptor (ZT0 k).2.2.1 = some (Zt0 k) := by decide +kernel
theorem Zw0 : ∀ w ∈ u_ws ZR0 ZT0 11, w ∈ lw_tbl := by decide +kernel
theorem Zg0 : ∀ w ∈ u_ws ZR0 ZT0 11, goodWord w = true := by decide +kernel
def ZR1 : String := "GooseCounty$County"
def ZT1 : u_T := fun k => match k with
  | 0 => ("GooseCounty$County", "geese", "[LGooseCounty$Goose;", true)
  | 1 => ("GooseCounty$County", "need", "[I", true)
  | 2 => ("GooseCounty$County", "laws", "[LGooseCounty$Law;", true)
  | 3 => ("GooseCounty$County", "counting", "[I", true)
  | 4 => ("GooseCounty$County", "tallyAt", "[I", true)
  | 5 => ("GooseCounty$County", "many", "I", false)
  | 6 => ("GooseCounty$County", "texts", "I", false)
  | 7 => ("GooseCounty$County", "eye", "I", false)
  | 8 => ("GooseCounty$County", "fox", "I", false)
  | 9 => ("GooseCounty$County", "held", "I", false)
  | 10 => ("GooseCounty$County", "broken", "I", false)
  | 11 => ("GooseCounty$County", "taken", "I", false)
  | 12 => ("GooseCounty$County", "day", "I", false)
  | _ => ("GooseCounty$County", "z", "I", false)
def Zt1 : Nat → FieldType := fun k => match k with
  | 0 => .array (.object "GooseCounty$Goose")
  | 1 => .array .int
  | 2 => .array (.object "GooseCounty$Law")
  | 3 => .array .int
  | 4 => .array .int
  | 5 => .int
  | 6 => .int
  | 7 => .int
  | 8 => .int
  | 9 => .int
  | 10 => .int
  | 11 => .int
  | 12 => .int
  | _ => .int
theorem Zn1 : ∀ a, a < 14 → ∀ b, b < 14 → a ≠ b → (ZT1 a).2.1 ≠ (ZT1 b).2.1 := by decide +kernel
theorem Zk1 : ∀ k, k < 14 → parseFieldDescriptor (ZT1 k).2.2.1 = some (Zt1 k) := by decide +kernel
theorem Zw1 : ∀ w ∈ u_ws ZR1 ZT1 14, w ∈ lw_tbl := by decide +kernel
theorem Zg1 : ∀ w ∈ u_ws ZR1 ZT1 14, goodWord w = true := by decide +kernel
def ZR2 : String := "GooseCounty$Goose"
def ZT2 : u_T := fun k => match k with
  | 0 => ("GooseCounty$Goose", "kind", "I", false)
  | 1 => ("GooseCounty$Goose", "sight", "I", false)
  | 2 => ("GooseCounty$Goose", "age", "I", false)
  | 3 => ("GooseCounty$Goose", "yard", "I", false)
  | _ => ("GooseCounty$Goose", "saw", "I", false)
def Zt2 : Nat → FieldType := fun k => match k with
  | 0 => .int
  | 1 => .int
  | 2 => .int
  | 3 => .int
  | _ => .int
theorem Zn2 : ∀ a, a < 5 → ∀ b, b < 5 → a ≠ b → (ZT2 a).2.1 ≠ (ZT2 b).2.1 := by decide +kernel
theorem Zk2 : ∀ k, k < 5 → parseFieldDescriptor (ZT2 k).2.2.1 = some (Zt2 k) := by decide +kernel
theorem Zw2 : ∀ w ∈ u_ws ZR2 ZT2 5, w ∈ lw_tbl := by decide +kernel
theorem Zg2 : ∀ w ∈ u_ws ZR2 ZT2 5, goodWord w = true := by decide +kernel
def ZR3 : String := "GooseCounty$Law"
def ZT3 : u_T := fun k => match k with
  | 0 => ("GooseCounty$Law", "key", "I", true)
  | 1 => ("GooseCounty$Law", "operands", "I", true)
  | 2 => ("GooseCounty$Law", "row", "[I", true)
  | _ => ("GooseCounty$Law", "stack", "[I", true)
def Zt3 : Nat → FieldType := fun k => match k with
  | 0 => .int
  | 1 => .int
  | 2 => .array .int
  | _ => .array .int
theorem Zn3 : ∀ a, a < 4 → ∀ b, b < 4 → a ≠ b → (ZT3 a).2.1 ≠ (ZT3 b).2.1 := by decide +kernel
theorem Zk3 : ∀ k, k < 4 → parseFieldDescriptor (ZT3 k).2.2.1 = some (Zt3 k) := by decide +kernel
theorem Zw3 : ∀ w ∈ u_ws ZR3 ZT3 4, w ∈ lw_tbl := by decide +kernel
theorem Zg3 : ∀ w ∈ u_ws ZR3 ZT3 4, goodWord w = true := by decide +kernel
def ZR4 : String := "GooseCounty$Reader"
def ZT4 : u_T := fun k => match k with
  | 0 => ("GooseCounty$Reader", "tape", "[I", true)
  | 1 => ("GooseCounty$Reader", "row", "[I", true)
  | 2 => ("GooseCounty$Reader", "length", "I", false)
  | 3 => ("GooseCounty$Reader", "start", "I", false)
  | 4 => ("GooseCounty$Reader", "end", "I", false)
  | 5 => ("GooseCounty$Reader", "sort", "I", false)
  | 6 => ("GooseCounty$Reader", "size", "I", false)
  | 7 => ("GooseCounty$Reader", "operands", "I", false)
  | _ => ("GooseCounty$Reader", "key", "I", false)
def Zt4 : Nat → FieldType := fun k => match k with
  | 0 => .array .int
  | 1 => .array .int
  | 2 => .int
  | 3 => .int
  | 4 => .int
  | 5 => .int
  | 6 => .int
  | 7 => .int
  | _ => .int
theorem Zn4 : ∀ a, a < 9 → ∀ b, b < 9 → a ≠ b → (ZT4 a).2.1 ≠ (ZT4 b).2.1 := by decide +kernel
theorem Zk4 : ∀ k, k < 9 → parseFieldDescriptor (ZT4 k).2.2.1 = some (Zt4 k) := by decide +kernel
theorem Zw4 : ∀ w ∈ u_ws ZR4 ZT4 9, w ∈ lw_tbl := by decide +kernel
theorem Zg4 : ∀ w ∈ u_ws ZR4 ZT4 9, goodWord w = true := by decide +kernel
def ZR5 : String := "GooseCounty$Sheet"
def ZT5 : u_T := fun k => match k with
  | 0 => ("GooseCounty$Sheet", "sort", "I", false)
  | 1 => ("GooseCounty$Sheet", "places", "I", false)
  | _ => ("GooseCounty$Sheet", "row", "[I", true)
def Zt5 : Nat → FieldType := fun k => match k with
  | 0 => .int
  | 1 => .int
  | _ => .array .int
theorem Zn5 : ∀ a, a < 3 → ∀ b, b < 3 → a ≠ b → (ZT5 a).2.1 ≠ (ZT5 b).2.1 := by decide +kernel
theorem Zk5 : ∀ k, k < 3 → parseFieldDescriptor (ZT5 k).2.2.1 = some (Zt5 k) := by decide +kernel
theorem Zw5 : ∀ w ∈ u_ws ZR5 ZT5 3, w ∈ lw_tbl := by decide +kernel
theorem Zg5 : ∀ w ∈ u_ws ZR5 ZT5 3, goodWord w = true := by decide +kernel
def ZR6 : String := "GooseCounty$Slot"
def ZT6 : u_T := fun k => match k with
  | 0 => ("GooseCounty$Slot", "thing", "I", false)
  | 1 => ("GooseCounty$Slot", "number", "I", false)
  | 2 => ("GooseCounty$Slot", "goose", "LGooseCounty$Goose;", true)
  | _ => ("GooseCounty$Slot", "sheet", "LGooseCounty$Sheet;", true)
def Zt6 : Nat → FieldType := fun k => match k with
  | 0 => .int
  | 1 => .int
  | 2 => .object "GooseCounty$Goose"
  | _ => .object "GooseCounty$Sheet"
theorem Zn6 : ∀ a, a < 4 → ∀ b, b < 4 → a ≠ b → (ZT6 a).2.1 ≠ (ZT6 b).2.1 := by decide +kernel
theorem Zk6 : ∀ k, k < 4 → parseFieldDescriptor (ZT6 k).2.2.1 = some (Zt6 k) := by decide +kernel
theorem Zw6 : ∀ w ∈ u_ws ZR6 ZT6 4, w ∈ lw_tbl := by decide +kernel
theorem Zg6 : ∀ w ∈ u_ws ZR6 ZT6 4, goodWord w = true := by decide +kernel
def ZR7 : String := "GooseCountyModel"
def ZT7 : u_T := fun k => match k with
  | 0 => ("GooseCountyModel", "s", "[I", true)
  | 1 => ("GooseCountyModel", "kept", "[I", true)
  | 2 => ("GooseCountyModel", "aside", "[I", true)
  | 3 => ("GooseCountyModel", "waiting", "[I", true)
  | 4 => ("GooseCountyModel", "stack", "[I", true)
  | 5 => ("GooseCountyModel", "names", "[I", true)
  | 6 => ("GooseCountyModel", "isKept", "Z", false)
  | 7 => ("GooseCountyModel", "waitingMany", "I", false)
  | 8 => ("GooseCountyModel", "apart", "[I", true)
  | 9 => ("GooseCountyModel", "tape", "[I", true)
  | 10 => ("GooseCountyModel", "code", "[I", true)
  | 11 => ("GooseCountyModel", "taped", "I", false)
  | 12 => ("GooseCountyModel", "from", "I", false)
  | 13 => ("GooseCountyModel", "to", "I", false)
  | 14 => ("GooseCountyModel", "sort", "I", false)
  | 15 => ("GooseCountyModel", "written", "I", false)
  | 16 => ("GooseCountyModel", "pieces", "I", false)
  | 17 => ("GooseCountyModel", "opened", "I", false)
  | 18 => ("GooseCountyModel", "turned", "I", false)
  | 19 => ("GooseCountyModel", "key", "I", false)
  | 20 => ("GooseCountyModel", "isWrong", "Z", false)
  | 21 => ("GooseCountyModel", "sortOf", "[I", true)
  | 22 => ("GooseCountyModel", "sizeOf", "[I", true)
  | 23 => ("GooseCountyModel", "numbers", "[I", true)
  | 24 => ("GooseCountyModel", "moved", "[I", true)
  | 25 => ("GooseCountyModel", "thing", "[I", true)
  | 26 => ("GooseCountyModel", "number", "[I", true)
  | 27 => ("GooseCountyModel", "goose", "[I", true)
  | _ => ("GooseCountyModel", "whole", "[I", true)
def Zt7 : Nat → FieldType := fun k => match k with
  | 0 => .array .int
  | 1 => .array .int
  | 2 => .array .int
  | 3 => .array .int
  | 4 => .array .int
  | 5 => .array .int
  | 6 => .boolean
  | 7 => .int
  | 8 => .array .int
  | 9 => .array .int
  | 10 => .array .int
  | 11 => .int
  | 12 => .int
  | 13 => .int
  | 14 => .int
  | 15 => .int
  | 16 => .int
  | 17 => .int
  | 18 => .int
  | 19 => .int
  | 20 => .boolean
  | 21 => .array .int
  | 22 => .array .int
  | 23 => .array .int
  | 24 => .array .int
  | 25 => .array .int
  | 26 => .array .int
  | 27 => .array .int
  | _ => .array .int
theorem Zn7 : ∀ a, a < 29 → ∀ b, b < 29 → a ≠ b → (ZT7 a).2.1 ≠ (ZT7 b).2.1 := by decide +kernel
theorem Zk7 : ∀ k, k < 29 → parseFieldDescriptor (ZT7 k).2.2.1 = some (Zt7 k) := by decide +kernel
theorem Zw7 : ∀ w ∈ u_ws ZR7 ZT7 29, w ∈ lw_tbl := by decide +kernel
theorem Zg7 : ∀ w ∈ u_ws ZR7 ZT7 29, goodWord w = true := by decide +kernel
def clz : List vw_C := [(ZR0, ZT0, 11), (ZR1, ZT1, 14), (ZR2, ZT2, 5), (ZR3, ZT3, 4), (ZR4, ZT4, 9), (ZR5, ZT5, 3), (ZR6, ZT6, 4), (ZR7, ZT7, 29)]
def clt : List (Nat → FieldType) := [Zt0, Zt1, Zt2, Zt3, Zt4, Zt5, Zt6, Zt7]
/-- a class of the list: its fields' words, types and names -/
def CLS (ci : Nat) (C : String) (T : u_T) (N : Nat) (ty : Nat → FieldType) : Prop := clz[ci]? = some (C, T, N) ∧ (∀ w ∈ u_ws C T N, w ∈ gw) ∧ (∀ k, k < N → parseFieldDescriptor (T k).2.2.1 = some (ty k)) ∧ ∀ a, a < N → ∀ b, b < N → a ≠ b → (T a).2.1 ≠ (T b).2.1
theorem cls_0 : CLS 0 ZR0 ZT0 11 Zt0 := ⟨rfl, fun w h => gw_of (Zw0 w h) (Zg0 w h), Zk0, Zn0⟩
theorem cls_1 : CLS 1 ZR1 ZT1 14 Zt1 := ⟨rfl, fun w h => gw_of (Zw1 w h) (Zg1 w h), Zk1, Zn1⟩
theorem cls_2 : CLS 2 ZR2 ZT2 5 Zt2 := ⟨rfl, fun w h => gw_of (Zw2 w h) (Zg2 w h), Zk2, Zn2⟩
theorem cls_3 : CLS 3 ZR3 ZT3 4 Zt3 := ⟨rfl, fun w h => gw_of (Zw3 w h) (Zg3 w h), Zk3, Zn3⟩
theorem cls_4 : CLS 4 ZR4 ZT4 9 Zt4 := ⟨rfl, fun w h => gw_of (Zw4 w h) (Zg4 w h), Zk4, Zn4⟩
theorem cls_5 : CLS 5 ZR5 ZT5 3 Zt5 := ⟨rfl, fun w h => gw_of (Zw5 w h) (Zg5 w h), Zk5, Zn5⟩
theorem cls_6 : CLS 6 ZR6 ZT6 4 Zt6 := ⟨rfl, fun w h => gw_of (Zw6 w h) (Zg6 w h), Zk6, Zn6⟩
theorem cls_7 : CLS 7 ZR7 ZT7 29 Zt7 := ⟨rfl, fun w h => gw_of (Zw7 w h) (Zg7 w h), Zk7, Zn7⟩
/-- the classes of which there are rows -/
def aoL : List String := ["GooseCounty$Goose", "GooseCounty$Law", "GooseCounty$Sheet", "GooseCounty$Slot"]
def tys (g : GX) : List (ClassId × FieldType) := [(xaI g, .int), (xaR g 2, .object "GooseCounty$Goose"), (xaR g 3, .object "GooseCounty$Law"), (xaR g 5, .object "GooseCounty$Sheet"), (xaR g 6, .object "GooseCounty$Slot")]
def nestM : List (String × Nat × MethodName × String) := [("GooseCounty$County", 61, ⟨"GooseCounty$Goose", "<init>", "()V"⟩, "GooseCounty"), ("GooseCounty", 24, ⟨"GooseCounty$Reader", "<init>", "()V"⟩, "GooseCounty"), ("GooseCounty", 59, ⟨"GooseCounty$Sheet", "<init>", "()V"⟩, "GooseCounty"), ("GooseCounty", 60, ⟨"GooseCounty$Slot", "<init>", "()V"⟩, "GooseCounty"), ("GooseCounty$Slot", 20, ⟨"GooseCounty$Goose", "<init>", "()V"⟩, "GooseCounty"), ("GooseCounty$Slot", 27, ⟨"GooseCounty$Sheet", "<init>", "()V"⟩, "GooseCounty"), ("GooseCounty$County", 127, ⟨"GooseCounty", "within", "(III)I"⟩, "GooseCounty")]
def nestF : List (String × Nat × String × String × String × String) := [("GooseCounty$Goose", 27, "GooseCounty", "UNDER", "[I", "GooseCounty"), ("GooseCounty$Goose", 34, "GooseCounty", "WANDERS", "[I", "GooseCounty"), ("GooseCounty$Goose", 31, "GooseCounty", "TALLIES", "[I", "GooseCounty")]
def stT : List (String × List Int) := [("UNDER", [-1, 0, 0, 1, 2, 0]), ("TALLIES", [2, 1, 3, -2, 3, 4]), ("WANDERS", [0, 1, 0, 2, 3, 0]), ("MOST_OF_TRAIT", [5, 99, 99, 5, 9999])]
def srT : List (Nat × String) := [(78, "look"), (84, "fee"), (86, "fine"), (119, "gayn"), (121, "hb"), (123, "gs")]
def srL : List Nat := [4, 3, 4, 4, 2, 2]
def srB : List (List Int32) := [[108, 111, 111, 107], [102, 101, 101], [102, 105, 110, 101], [103, 97, 121, 110], [104, 98], [103, 115]]
end
section
/-! ===== the walk's judgement over pictures of the memory ===== -/
def wsY (y : GY) : List Cond := Cond.code y.1 y.2.1 y.2.2.1 y.2.2.2 :: gw
def MR (g : GX) (M : GM) (H : Heap) : Prop := H.size = xs0 g + M.1 ∧ ∀ k : Nat, (k < M.1 → va_at (xD g) clz (xs0 g + k, ce g (M.2 k)) H ∧ okC (M.2 k)) ∧ (M.1 ≤ k → M.2 k = gBad)
abbrev xA (g : GX) : Nat → Prop := fun q => xs0 g ≤ q
def EV (g : GX) (U : State) : Prop :=
  va_K (xD g) clz (tys g) U ∧
  (∀ q ∈ nestM, va_Nw (.methodLinkNest q.1 q.2.1 q.2.2.1 q.2.2.2) U) ∧
  (∀ q ∈ nestF, va_Nw (.fieldLinkNest q.1 q.2.1 q.2.2.1 q.2.2.2.1 q.2.2.2.2.1 q.2.2.2.2.2) U) ∧
  (∀ C ∈ aoL, va_AO C U) ∧
  (∀ (i : Nat) (q : String × List Int), stT[i]? = some q → va_Z "GooseCounty" q.1 "[I" (.ref (xsa g i)) (xA g) U U.heap ∧ va_T .int (xsa g i) q.2.length (fun j => .int (Int32.ofInt (q.2.getD j 0))) (xA g) U U.heap) ∧
  va_Z "java/lang/String" "COMPACT_STRINGS" "Z" (.int 1) (xA g) U U.heap ∧
  vk_S 6 srL srB (fun i => xsa g (8 + i)) (fun i => xsa g (16 + i)) (xA g) U U.heap ∧
  (∀ (i : Nat) (q : Nat × String), srT[i]? = some q → vk_R "GooseCounty$Reader" q.1 q.2 (xsa g (8 + i)) U) ∧
  va_T .int (xsa g 30) (xL g) (fun j => .int (Int32.ofInt (xX g j))) (xA g) U U.heap ∧ (∀ j, inR (xX g j)) ∧
  (va_Z "jdk/internal/util/Preconditions" "SIOOBE_FORMATTER" "Ljava/util/function/BiFunction;" .null (xA g) U U.heap ∨ va_Z "jdk/internal/util/Preconditions" "SIOOBE_FORMATTER" "Ljava/util/function/BiFunction;" (.ref (xsa g 40)) (xA g) U U.heap) ∧
  xs0 g ≤ U.heap.size
theorem EV.moved {g : GX} {s U : State} (h : EV g s) (hW : s.WarmedH U.vm) (hz : xs0 g ≤ U.heap.size) (hq : ∀ q : Nat, q < xs0 g → U.heap[q]? = s.heap[q]?) : EV g U := by
  obtain ⟨h1, h2, h3, h4, h5, h6, h7, h8, h9, h10, h11, h12⟩ := h
  have hA : ∀ a : Nat, a < s.heap.size → ¬ xA g a → U.heap[a]? = s.heap[a]? := fun a _ h => hq a (Nat.not_le.mp h)
  refine ⟨va_K.moved hW.alike h1, fun q m => va_Nw.warmM hW (h2 q m), fun q m => va_Nw.warmF hW (h3 q m), fun C m => va_AO.moved hW.alike (h4 C m), fun i q e => ⟨((h5 i q e).1.moved hW.alike).kept hA, ((h5 i q e).2.moved hW.alike).kept hA⟩, (h6.moved hW.alike).kept hA, (h7.moved hW.alike).kept hA, fun i q e => (h8 i q e).warm hW, (h9.moved hW.alike).kept hA, h10, ?_, hz⟩
  rcases h11 with h | h
  · exact Or.inl ((h.moved hW.alike).kept hA)
  · exact Or.inr ((h.moved hW.alike).kept hA)
theorem EV.calling {g : GX} {U : State} (h : EV g U) (f : JFrame) (mk : MethodId) (a : Array Value) : EV g (U.calling f mk a) :=
  h.moved (U := U.calling f mk a) (State.WarmedH.refl U) h.2.2.2.2.2.2.2.2.2.2.2 (fun _ _ => rfl)
def CX (g : GX) (y : GY) (p : Program) (s : State) (m : MethodId) (args : Array Value) (meth : Method) (c : Code) : Prop :=
  p.tables.exec = Jvm.exec ∧ c.code = y.2.1 ∧ c.maxLocals = y.2.2.1 ∧ s.vm.findClass y.1.cls = some m.cls ∧ (∀ w ∈ gw, w.before args s = true) ∧ meth.locks = false ∧ meth.name = y.1.name ∧ meth.sig.returnType = y.2.2.2 ∧ EV g s
/-- a return of the method at pc: what it answers, what lies on the stack -/
def RI (y : GY) (pc : Nat) (r : GV) (st : List GV) : Prop :=
  (∃ (x : Int) (ty : FieldType), decode y.2.1 pc = .ok (.ireturn, 1) ∧ y.2.2.2 = some ty ∧ narrow ty (.int (Int32.ofInt x)) = .int (Int32.ofInt x) ∧ inR x ∧ r = gI x ∧ st = [gI x]) ∨
  (decode y.2.1 pc = .ok (.return_, 1) ∧ y.2.2.2 = none ∧ r = gU ∧ st = []) ∨
  (∃ (o : Option Nat) (rt : FieldType), decode y.2.1 pc = .ok (.areturn, 1) ∧ y.2.2.2 = some rt ∧ ((∃ n, rt = .object n) ∨ ∃ t, rt = .array t) ∧ r = gO o ∧ st = [gO o])
def RT (g : GX) (y : GY) (Q : GV → GM → Prop) (p : Program) (e : Env) (R : Room) (s : State) (m : MethodId) (args : Array Value) (below : List Frame) (meth : Method) (c : Code) (Z : State → Prop) : Prop :=
  ∀ (r : GV) (M : GM) (H : Heap) (locs : List Loc) (cells slots pc : Nat) (ls : Array Slot) (st : List GV), RI y pc r st → Q r M → MR g M H → va_S (xA g) s.heap H locs → cells ≤ R.cells → slots ≤ R.slots → W p g.1 e R s m args below meth c H locs cells slots Z (F0 m pc ls (st.map (rv g)))
def LH (g : GX) (ls : Array Slot) (n : Nat) (L : List GV) : Prop := ls.size = n ∧ lv_wf ls ∧ (∀ (i : Nat) (v : GV), L[i]? = some v → v ≠ gU → ls[i]? = some (.val (rv g v))) ∧ ∀ v ∈ L, okV v
/-- from pc, with these locals, this stack and this memory, the method comes to its end with Q; at most bc cells of bs slots come, at most d frames -/
def Go (g : GX) (y : GY) (d bc bs pc : Nat) (L st : List GV) (M : GM) (Q : GV → GM → Prop) : Prop :=
  ∀ {p : Program} {e : Env} {R : Room} {s : State} {m : MethodId} {args : Array Value} {below : List Frame} {meth : Method} {c : Code} {H : Heap} {locs : List Loc} {cells slots : Nat} {ls : Array Slot} {Z : State → Prop},
    CX g y p s m args meth c → RT g y Q p e R s m args below meth c Z → (d ≤ R.frames ∧ 64 * d ≤ R.locals ∧ cells + bc ≤ R.cells ∧ slots + bs ≤ R.slots) → (MR g M H ∧ va_S (xA g) s.heap H locs) → LH g ls y.2.2.1 L → (∀ v ∈ st, okV v) →
    W p g.1 e R s m args below meth c H locs cells slots Z (F0 m pc ls (st.map (rv g)))
theorem okc {v : GV} {st : List GV} (h : okV v) (hs : ∀ x ∈ st, okV x) : ∀ x ∈ v :: st, okV x := List.forall_mem_cons.mpr ⟨h, hs⟩
theorem okt {v : GV} {st : List GV} (hs : ∀ x ∈ v :: st, okV x) : ∀ x ∈ st, okV x := (List.forall_mem_cons.mp hs).2
theorem okh {v : GV} {st : List GV} (hs : ∀ x ∈ v :: st, okV x) : okV v := (List.forall_mem_cons.mp hs).1
theorem LH.at {g : GX} {ls : Array Slot} {n : Nat} {L : List GV} (h : LH g ls n L) {i : Nat} {v : GV} (hi : L[i]? = some v) (hv : v ≠ gU) : ls[i]? = some (.val (rv g v)) := h.2.2.1 i v hi hv
theorem LH.ok {g : GX} {ls : Array Slot} {n : Nat} {L : List GV} (h : LH g ls n L) {i : Nat} {v : GV} (hi : L[i]? = some v) : okV v := h.2.2.2 v (List.mem_of_getElem? hi)
/-- the listed locals for the kit's rows -/
def lvl (g : GX) : Nat → List GV → List (Nat × Value)
  | _, [] => []
  | i, (.inr (.inr (.inr none))) :: L => lvl g (i + 1) L
  | i, v :: L => (i, rv g v) :: lvl g (i + 1) L
theorem lvl_mem {g : GX} : ∀ (L : List GV) (b : Nat) (q : Nat × Value), q ∈ lvl g b L ↔ ∃ (i : Nat) (v : GV), L[i]? = some v ∧ v ≠ gU ∧ q = (b + i, rv g v) := by
  intro L
  induction L with
  | nil => intro b q; simp [lvl]
  | cons a L ih =>
    intro b q
    have step : (∃ (i : Nat) (v : GV), (a :: L)[i]? = some v ∧ v ≠ gU ∧ q = (b + i, rv g v)) ↔ ((a ≠ gU ∧ q = (b, rv g a)) ∨ ∃ (i : Nat) (v : GV), L[i]? = some v ∧ v ≠ gU ∧ q = (b + 1 + i, rv g v)) := by
      constructor
      · rintro ⟨i, v, h1, h2, h3⟩
        cases i with
        | zero => simp at h1; subst h1; exact Or.inl ⟨h2, by simpa using h3⟩
        | succ i => simp at h1; exact Or.inr ⟨i, v, h1, h2, by rw [h3]; congr 1; omega⟩
      · rintro (⟨h1, h2⟩ | ⟨i, v, h1, h2, h3⟩)
        · exact ⟨0, a, by simp, h1, by simpa using h2⟩
        · exact ⟨i + 1, v, by simpa using h1, h2, by rw [h3]; congr 1; omega⟩
    rw [step, ← ih]
    match a with
    | .inl x => simp [lvl]
    | .inr (.inl x) => simp [lvl]
    | .inr (.inr (.inl x)) => simp [lvl]
    | .inr (.inr (.inr none)) => simp [lvl]
    | .inr (.inr (.inr (some x))) => simp [lvl]
theorem LH.has {g : GX} {ls : Array Slot} {n : Nat} {L : List GV} (h : LH g ls n L) : lv_has ls n (lvl g 0 L) := by
  refine ⟨h.1, h.2.1, fun q hq => ?_⟩
  obtain ⟨i, v, h1, h2, rfl⟩ := (lvl_mem L 0 q).mp hq
  rw [Nat.zero_add]
  exact h.at h1 h2
/-- a local of one slot is stored; no long ends there -/
def noL (L : List GV) (i : Nat) : Prop := ∀ x, L[i - 1]? ≠ some (gL x)
theorem LH.store {g : GX} {ls' : Array Slot} {n : Nat} {L : List GV} {i : Nat} {v : GV} (hk : ∀ v ∈ L, okV v) (hl : noL L i) (hv : okV v) (hi : i < L.length)
    (h' : lv_has ls' n ((i, rv g v) :: (lvl g 0 L).filter (fun q => !(q.1 == i) && !(q.1 + 1 == i && q.2.category == 2)))) : LH g ls' n (L.set i v) := by
  refine ⟨h'.1, h'.2.1, fun j w hj hw => ?_, fun w hw => ?_⟩
  · by_cases e : j = i
    · subst e
      rw [List.getElem?_set_self hi] at hj
      cases hj
      exact h'.2.2 (j, rv g v) List.mem_cons_self
    · rw [List.getElem?_set_ne (Ne.symm e)] at hj
      refine h'.2.2 (j, rv g w) (List.mem_cons_of_mem _ (List.mem_filter.mpr ⟨(lvl_mem L 0 _).mpr ⟨j, w, hj, hw, by rw [Nat.zero_add]⟩, ?_⟩))
      simp only [Bool.and_eq_true, Bool.not_eq_true', beq_eq_false_iff_ne, Bool.and_eq_false_iff]
      refine ⟨e, ?_⟩
      by_cases e2 : j + 1 = i
      · right
        have hj' : L[i - 1]? = some w := by rw [← e2]; simpa using hj
        match w, hj' with
        | .inl x, _ => simp [rv, Value.category]
        | .inr (.inl x), hj' => exact absurd hj' (hl x)
        | .inr (.inr (.inl none)), _ => simp [rv, Value.category]
        | .inr (.inr (.inl (some x))), _ => simp [rv, Value.category]
        | .inr (.inr (.inr none)), _ => simp [rv, Value.category]
        | .inr (.inr (.inr (some x))), _ => simp [rv, Value.category]
      · left; exact e2
  · rcases List.mem_or_eq_of_mem_set hw with h | h
    · exact hk w h
    · subst h; exact hv
section GOROWS
variable {g : GX} {y : GY} {d bc bs pc : Nat} {L st : List GV} {M : GM} {Q : GV → GM → Prop}
/-- what the walk knows of its numbers -/
theorem go_ok (k : (∀ v ∈ L, okV v) → (∀ v ∈ st, okV v) → (∀ j, okC (M.2 j)) → Go g y d bc bs pc L st M Q) : Go g y d bc bs pc L st M Q := by
  intro p e R s m args below meth c H locs cells slots ls Z C hRT hr hM hl hs
  refine k hl.2.2.2 hs (fun j => ?_) C hRT hr hM hl hs
  by_cases hj : j < M.1
  · exact ((hM.1.2 j).1 hj).2
  · rw [(hM.1.2 j).2 (by omega)]
    intro v hv
    cases hv
theorem go_cast {pc' : Nat} {L' st' : List GV} {M' : GM} (h1 : pc = pc') (h2 : L = L') (h3 : st = st') (h4 : M = M') (k : Go g y d bc bs pc' L' st' M' Q) : Go g y d bc bs pc L st M Q := by
  subst h1 h2 h3 h4; exact k
theorem go_mono {Q' : GV → GM → Prop} (h : ∀ r M', Q' r M' → Q r M') (k : Go g y d bc bs pc L st M Q') : Go g y d bc bs pc L st M Q := by
  intro p e R s m args below meth c H locs cells slots ls Z C hRT hr hM hl hs
  exact k C (fun r M' H' locs' cells' slots' pc' ls' st' h1 h2 => hRT r M' H' locs' cells' slots' pc' ls' st' h1 (h r M' h2)) hr hM hl hs

theorem go_iconst {n : Int} (hd : decode y.2.1 pc = .ok (.iconst n, 1)) (hn : inR n) (k : Go g y d bc bs (pc + 1) L (gI n :: st) M Q) : Go g y d bc bs pc L st M Q := by
  intro p e R s m args below meth c H locs cells slots ls Z C hRT hr hM hl hs
  exact lv_iconst C.1 C.2.1 hd rfl (k C hRT hr hM hl (okc hn hs))
theorem go_bipush {n : Int} (hd : decode y.2.1 pc = .ok (.bipush n, 2)) (hn : inR n) (hv : (Int8.ofInt n).toInt32 = Int32.ofInt n) (k : Go g y d bc bs (pc + 2) L (gI n :: st) M Q) : Go g y d bc bs pc L st M Q := by
  intro p e R s m args below meth c H locs cells slots ls Z C hRT hr hM hl hs
  exact lv_bipush C.1 C.2.1 hd hv (k C hRT hr hM hl (okc hn hs))
theorem go_sipush {n : Int} (hd : decode y.2.1 pc = .ok (.sipush n, 3)) (hn : inR n) (hv : (Int16.ofInt n).toInt32 = Int32.ofInt n) (k : Go g y d bc bs (pc + 3) L (gI n :: st) M Q) : Go g y d bc bs pc L st M Q := by
  intro p e R s m args below meth c H locs cells slots ls Z C hRT hr hM hl hs
  exact lv_sipush C.1 C.2.1 hd hv (k C hRT hr hM hl (okc hn hs))
theorem go_lconst {n : Fin 2} {x : Int} (hd : decode y.2.1 pc = .ok (.lconst n, 1)) (hn : inL x) (hv : Int64.ofNat (n : Nat) = Int64.ofInt x) (k : Go g y d bc bs (pc + 1) L (gL x :: st) M Q) : Go g y d bc bs pc L st M Q := by
  intro p e R s m args below meth c H locs cells slots ls Z C hRT hr hM hl hs
  exact lv_lconst C.1 C.2.1 hd hv (k C hRT hr hM hl (okc hn hs))
theorem go_ldc {i : Nat} {x : Int} (hd : decode y.2.1 pc = .ok (.ldc i, 2)) (hw : Cond.constant y.1.cls i (Int32.ofInt x) ∈ gw) (hn : inR x) (k : Go g y d bc bs (pc + 2) L (gI x :: st) M Q) : Go g y d bc bs pc L st M Q := by
  intro p e R s m args below meth c H locs cells slots ls Z C hRT hr hM hl hs
  exact lv_ldc C.1 C.2.1 C.2.2.2.1 (C.2.2.2.2.1 _ hw) hd (k C hRT hr hM hl (okc hn hs))
theorem go_ldcw {i : Nat} {x : Int} (hd : decode y.2.1 pc = .ok (.ldc_w i, 3)) (hw : Cond.constant y.1.cls i (Int32.ofInt x) ∈ gw) (hn : inR x) (k : Go g y d bc bs (pc + 3) L (gI x :: st) M Q) : Go g y d bc bs pc L st M Q := by
  intro p e R s m args below meth c H locs cells slots ls Z C hRT hr hM hl hs
  exact lv_ldcw C.1 C.2.1 C.2.2.2.1 (C.2.2.2.2.1 _ hw) hd (k C hRT hr hM hl (okc hn hs))
theorem go_ldc2 {i : Nat} {x : Int} (hd : decode y.2.1 pc = .ok (.ldc2_w i, 3)) (hw : Cond.constantLong y.1.cls i (Int64.ofInt x) ∈ gw) (hn : inL x) (k : Go g y d bc bs (pc + 3) L (gL x :: st) M Q) : Go g y d bc bs pc L st M Q := by
  intro p e R s m args below meth c H locs cells slots ls Z C hRT hr hM hl hs
  exact lv_ldc2 C.1 C.2.1 C.2.2.2.1 (C.2.2.2.2.1 _ hw) hd (k C hRT hr hM hl (okc hn hs))
theorem go_null (hd : decode y.2.1 pc = .ok (.aconst_null, 1)) (k : Go g y d bc bs (pc + 1) L (gN :: st) M Q) : Go g y d bc bs pc L st M Q := by
  intro p e R s m args below meth c H locs cells slots ls Z C hRT hr hM hl hs
  exact lv_null C.1 C.2.1 hd (k C hRT hr hM hl (okc trivial hs))
theorem go_iload_n {n : Fin 4} {i : Nat} {x : Int} (hd : decode y.2.1 pc = .ok (.iload_n n, 1)) (hi : (n : Nat) = i) (hv : L[i]? = some (gI x)) (k : Go g y d bc bs (pc + 1) L (gI x :: st) M Q) : Go g y d bc bs pc L st M Q := by
  intro p e R s m args below meth c H locs cells slots ls Z C hRT hr hM hl hs
  exact lv_iload_n C.1 C.2.1 hd hi (hl.at hv (fun h => by cases h)) (k C hRT hr hM hl (okc (hl.ok hv) hs))
theorem go_iload {i : Nat} {x : Int} (hd : decode y.2.1 pc = .ok (.iload i, 2)) (hv : L[i]? = some (gI x)) (k : Go g y d bc bs (pc + 2) L (gI x :: st) M Q) : Go g y d bc bs pc L st M Q := by
  intro p e R s m args below meth c H locs cells slots ls Z C hRT hr hM hl hs
  exact lv_iload C.1 C.2.1 hd (hl.at hv (fun h => by cases h)) (k C hRT hr hM hl (okc (hl.ok hv) hs))
theorem go_lload_n {n : Fin 4} {i : Nat} {x : Int} (hd : decode y.2.1 pc = .ok (.lload_n n, 1)) (hi : (n : Nat) = i) (hv : L[i]? = some (gL x)) (k : Go g y d bc bs (pc + 1) L (gL x :: st) M Q) : Go g y d bc bs pc L st M Q := by
  intro p e R s m args below meth c H locs cells slots ls Z C hRT hr hM hl hs
  exact lv_lload_n C.1 C.2.1 hd hi (hl.at hv (fun h => by cases h)) (k C hRT hr hM hl (okc (hl.ok hv) hs))
theorem go_lload {i : Nat} {x : Int} (hd : decode y.2.1 pc = .ok (.lload i, 2)) (hv : L[i]? = some (gL x)) (k : Go g y d bc bs (pc + 2) L (gL x :: st) M Q) : Go g y d bc bs pc L st M Q := by
  intro p e R s m args below meth c H locs cells slots ls Z C hRT hr hM hl hs
  exact lv_lload C.1 C.2.1 hd (hl.at hv (fun h => by cases h)) (k C hRT hr hM hl (okc (hl.ok hv) hs))
/-- a reference: into the memory, null, or a constant's -/
def isA : GV → Prop
  | .inr (.inr (.inl _)) => True
  | .inr (.inr (.inr (some _))) => True
  | _ => False
theorem isA_ok {v : GV} (h : isA v) : okV v := by
  match v, h with
  | .inr (.inr (.inl _)), _ => trivial
  | .inr (.inr (.inr (some _))), _ => trivial
theorem go_aload_n {n : Fin 4} {i : Nat} {v : GV} (hd : decode y.2.1 pc = .ok (.aload_n n, 1)) (hi : (n : Nat) = i) (hv : L[i]? = some v) (ha : isA v) (k : Go g y d bc bs (pc + 1) L (v :: st) M Q) : Go g y d bc bs pc L st M Q := by
  intro p e R s m args below meth c H locs cells slots ls Z C hRT hr hM hl hs
  have hk := k C hRT hr hM hl (okc (isA_ok ha) hs)
  match v, ha, hv, hk with
  | .inr (.inr (.inl none)), _, hv, hk => exact lv_aload_nN C.1 C.2.1 hd hi (hl.at hv (fun h => by cases h)) hk
  | .inr (.inr (.inl (some a))), _, hv, hk => exact lv_aload_n C.1 C.2.1 hd hi (hl.at hv (fun h => by cases h)) hk
  | .inr (.inr (.inr (some a))), _, hv, hk => exact lv_aload_n C.1 C.2.1 hd hi (hl.at hv (fun h => by cases h)) hk
theorem go_aload {i : Nat} {v : GV} (hd : decode y.2.1 pc = .ok (.aload i, 2)) (hv : L[i]? = some v) (ha : isA v) (k : Go g y d bc bs (pc + 2) L (v :: st) M Q) : Go g y d bc bs pc L st M Q := by
  intro p e R s m args below meth c H locs cells slots ls Z C hRT hr hM hl hs
  have hk := k C hRT hr hM hl (okc (isA_ok ha) hs)
  match v, ha, hv, hk with
  | .inr (.inr (.inl none)), _, hv, hk => exact lv_aloadN C.1 C.2.1 hd (hl.at hv (fun h => by cases h)) hk
  | .inr (.inr (.inl (some a))), _, hv, hk => exact lv_aload C.1 C.2.1 hd (hl.at hv (fun h => by cases h)) hk
  | .inr (.inr (.inr (some a))), _, hv, hk => exact lv_aload C.1 C.2.1 hd (hl.at hv (fun h => by cases h)) hk
theorem go_istore_n {n : Fin 4} {i : Nat} {x : Int} (hd : decode y.2.1 pc = .ok (.istore_n n, 1)) (hi : (n : Nat) = i) (hn : i < y.2.2.1) (hi2 : i < L.length) (hlo : noL L i) (k : Go g y d bc bs (pc + 1) (L.set i (gI x)) st M Q) : Go g y d bc bs pc L (gI x :: st) M Q := by
  intro p e R s m args below meth c H locs cells slots ls Z C hRT hr hM hl hs
  exact lv_istore_n C.1 C.2.1 hd hi hl.has hn rfl (fun ls' h' => k C hRT hr hM (LH.store hl.2.2.2 hlo (okh hs) hi2 h') (okt hs))
theorem go_istore {i : Nat} {x : Int} (hd : decode y.2.1 pc = .ok (.istore i, 2)) (hn : i < y.2.2.1) (hi2 : i < L.length) (hlo : noL L i) (k : Go g y d bc bs (pc + 2) (L.set i (gI x)) st M Q) : Go g y d bc bs pc L (gI x :: st) M Q := by
  intro p e R s m args below meth c H locs cells slots ls Z C hRT hr hM hl hs
  exact lv_istore C.1 C.2.1 hd hl.has hn rfl (fun ls' h' => k C hRT hr hM (LH.store hl.2.2.2 hlo (okh hs) hi2 h') (okt hs))
theorem go_iinc {i : Nat} {n x : Int} (hd : decode y.2.1 pc = .ok (.iinc i n, 3)) (hv : L[i]? = some (gI x)) (hn : i < y.2.2.1) (hlo : noL L i) (k : Go g y d bc bs (pc + 3) (L.set i (gI (w32 (x + n)))) st M Q) : Go g y d bc bs pc L st M Q := by
  intro p e R s m args below meth c H locs cells slots ls Z C hRT hr hM hl hs
  have hi2 : i < L.length := (List.getElem?_eq_some_iff.mp hv).1
  have hq : (i, Value.int (Int32.ofInt x)) ∈ lvl g 0 L := (lvl_mem L 0 _).mpr ⟨i, gI x, hv, (fun h => by cases h), by rw [Nat.zero_add]; rfl⟩
  obtain ⟨j, hj⟩ := List.getElem?_of_mem hq
  exact lv_iinc (k := j) C.1 C.2.1 hd hl.has hj (gi_add x n) hn rfl (fun ls' h' => k C hRT hr hM (LH.store hl.2.2.2 hlo (w32_in _) hi2 h') hs)
theorem go_astore_n {n : Fin 4} {i : Nat} {v : GV} (hd : decode y.2.1 pc = .ok (.astore_n n, 1)) (hi : (n : Nat) = i) (ha : isA v) (hn : i < y.2.2.1) (hi2 : i < L.length) (hlo : noL L i) (k : Go g y d bc bs (pc + 1) (L.set i v) st M Q) : Go g y d bc bs pc L (v :: st) M Q := by
  intro p e R s m args below meth c H locs cells slots ls Z C hRT hr hM hl hs
  have hk := fun (ls' : Array Slot) (h' : LH g ls' y.2.2.1 (L.set i v)) => k (ls := ls') C hRT hr hM h' (okt hs)
  have hv := okh hs
  match v, ha, hk, hv with
  | .inr (.inr (.inl none)), _, hk, hv => exact lv_astore_nN C.1 C.2.1 hd hi hl.has hn rfl (fun ls' h' => hk ls' (LH.store hl.2.2.2 hlo hv hi2 h'))
  | .inr (.inr (.inl (some a))), _, hk, hv => exact lv_astore_n C.1 C.2.1 hd hi hl.has hn rfl (fun ls' h' => hk ls' (LH.store hl.2.2.2 hlo hv hi2 h'))
  | .inr (.inr (.inr (some a))), _, hk, hv => exact lv_astore_n C.1 C.2.1 hd hi hl.has hn rfl (fun ls' h' => hk ls' (LH.store hl.2.2.2 hlo hv hi2 h'))
theorem go_astore {i : Nat} {v : GV} (hd : decode y.2.1 pc = .ok (.astore i, 2)) (ha : isA v) (hn : i < y.2.2.1) (hi2 : i < L.length) (hlo : noL L i) (k : Go g y d bc bs (pc + 2) (L.set i v) st M Q) : Go g y d bc bs pc L (v :: st) M Q := by
  intro p e R s m args below meth c H locs cells slots ls Z C hRT hr hM hl hs
  have hk := fun (ls' : Array Slot) (h' : LH g ls' y.2.2.1 (L.set i v)) => k (ls := ls') C hRT hr hM h' (okt hs)
  have hv := okh hs
  match v, ha, hk, hv with
  | .inr (.inr (.inl none)), _, hk, hv => exact lv_astoreN C.1 C.2.1 hd hl.has hn rfl (fun ls' h' => hk ls' (LH.store hl.2.2.2 hlo hv hi2 h'))
  | .inr (.inr (.inl (some a))), _, hk, hv => exact lv_astore C.1 C.2.1 hd hl.has hn rfl (fun ls' h' => hk ls' (LH.store hl.2.2.2 hlo hv hi2 h'))
  | .inr (.inr (.inr (some a))), _, hk, hv => exact lv_astore C.1 C.2.1 hd hl.has hn rfl (fun ls' h' => hk ls' (LH.store hl.2.2.2 hlo hv hi2 h'))
theorem go_iadd {a b : Int} (hd : decode y.2.1 pc = .ok (.iadd, 1)) (k : Go g y d bc bs (pc + 1) L (gI (w32 (a + b)) :: st) M Q) : Go g y d bc bs pc L (gI b :: gI a :: st) M Q := by
  intro p e R s m args below meth c H locs cells slots ls Z C hRT hr hM hl hs
  have hk := k C hRT hr hM hl (okc (w32_in _) (okt (okt hs)))
  refine lv_iadd C.1 C.2.1 hd ?_
  rw [gi_add]
  exact hk
theorem go_isub {a b : Int} (hd : decode y.2.1 pc = .ok (.isub, 1)) (k : Go g y d bc bs (pc + 1) L (gI (w32 (a - b)) :: st) M Q) : Go g y d bc bs pc L (gI b :: gI a :: st) M Q := by
  intro p e R s m args below meth c H locs cells slots ls Z C hRT hr hM hl hs
  have hk := k C hRT hr hM hl (okc (w32_in _) (okt (okt hs)))
  refine lv_isub C.1 C.2.1 hd ?_
  rw [gi_sub]
  exact hk
theorem go_imul {a b : Int} (hd : decode y.2.1 pc = .ok (.imul, 1)) (k : Go g y d bc bs (pc + 1) L (gI (w32 (a * b)) :: st) M Q) : Go g y d bc bs pc L (gI b :: gI a :: st) M Q := by
  intro p e R s m args below meth c H locs cells slots ls Z C hRT hr hM hl hs
  have hk := k C hRT hr hM hl (okc (w32_in _) (okt (okt hs)))
  refine lv_imul C.1 C.2.1 hd ?_
  rw [gi_mul]
  exact hk
theorem go_iand {a b : Int} (hd : decode y.2.1 pc = .ok (.iand, 1)) (k : Go g y d bc bs (pc + 1) L (gI (iAnd a b) :: st) M Q) : Go g y d bc bs pc L (gI b :: gI a :: st) M Q := by
  intro p e R s m args below meth c H locs cells slots ls Z C hRT hr hM hl hs
  have hk := k C hRT hr hM hl (okc (gi_in _) (okt (okt hs)))
  refine lv_iand C.1 C.2.1 hd ?_
  have e1 : Int32.ofInt (iAnd a b) = Int32.ofInt a &&& Int32.ofInt b := Int32.ofInt_toInt _
  rw [← e1]
  exact hk
theorem go_ior {a b : Int} (hd : decode y.2.1 pc = .ok (.ior, 1)) (k : Go g y d bc bs (pc + 1) L (gI (iOr a b) :: st) M Q) : Go g y d bc bs pc L (gI b :: gI a :: st) M Q := by
  intro p e R s m args below meth c H locs cells slots ls Z C hRT hr hM hl hs
  have hk := k C hRT hr hM hl (okc (gi_in _) (okt (okt hs)))
  refine lv_ior C.1 C.2.1 hd ?_
  have e1 : Int32.ofInt (iOr a b) = Int32.ofInt a ||| Int32.ofInt b := Int32.ofInt_toInt _
  rw [← e1]
  exact hk
theorem go_ixor {a b : Int} (hd : decode y.2.1 pc = .ok (.ixor, 1)) (k : Go g y d bc bs (pc + 1) L (gI (iXor a b) :: st) M Q) : Go g y d bc bs pc L (gI b :: gI a :: st) M Q := by
  intro p e R s m args below meth c H locs cells slots ls Z C hRT hr hM hl hs
  have hk := k C hRT hr hM hl (okc (gi_in _) (okt (okt hs)))
  refine lv_ixor C.1 C.2.1 hd ?_
  have e1 : Int32.ofInt (iXor a b) = Int32.ofInt a ^^^ Int32.ofInt b := Int32.ofInt_toInt _
  rw [← e1]
  exact hk
theorem go_ishl {a b : Int} (hd : decode y.2.1 pc = .ok (.ishl, 1)) (k : Go g y d bc bs (pc + 1) L (gI (iShl a b) :: st) M Q) : Go g y d bc bs pc L (gI b :: gI a :: st) M Q := by
  intro p e R s m args below meth c H locs cells slots ls Z C hRT hr hM hl hs
  have hk := k C hRT hr hM hl (okc (gi_in _) (okt (okt hs)))
  refine lv_ishl C.1 C.2.1 hd ?_
  have e1 : Int32.ofInt (iShl a b) = Int32.ofInt a <<< (Int32.ofInt b &&& 31) := Int32.ofInt_toInt _
  rw [← e1]
  exact hk
theorem go_ishr {a b : Int} (hd : decode y.2.1 pc = .ok (.ishr, 1)) (k : Go g y d bc bs (pc + 1) L (gI (iShr a b) :: st) M Q) : Go g y d bc bs pc L (gI b :: gI a :: st) M Q := by
  intro p e R s m args below meth c H locs cells slots ls Z C hRT hr hM hl hs
  have hk := k C hRT hr hM hl (okc (gi_in _) (okt (okt hs)))
  refine lv_ishr C.1 C.2.1 hd ?_
  have e1 : Int32.ofInt (iShr a b) = Int32.ofInt a >>> (Int32.ofInt b &&& 31) := Int32.ofInt_toInt _
  rw [← e1]
  exact hk
theorem go_iushr {a b : Int} (hd : decode y.2.1 pc = .ok (.iushr, 1)) (k : Go g y d bc bs (pc + 1) L (gI (iUshr a b) :: st) M Q) : Go g y d bc bs pc L (gI b :: gI a :: st) M Q := by
  intro p e R s m args below meth c H locs cells slots ls Z C hRT hr hM hl hs
  exact lv_iushr C.1 C.2.1 hd (Int32.ofInt_toInt _).symm (k C hRT hr hM hl (okc (gi_in _) (okt (okt hs))))
theorem go_i2s {a : Int} (hd : decode y.2.1 pc = .ok (.i2s, 1)) (k : Go g y d bc bs (pc + 1) L (gI (iI2s a) :: st) M Q) : Go g y d bc bs pc L (gI a :: st) M Q := by
  intro p e R s m args below meth c H locs cells slots ls Z C hRT hr hM hl hs
  exact lv_i2s C.1 C.2.1 hd (Int32.ofInt_toInt _).symm (k C hRT hr hM hl (okc (gi_in _) (okt hs)))
theorem go_i2b {a : Int} (hd : decode y.2.1 pc = .ok (.i2b, 1)) (k : Go g y d bc bs (pc + 1) L (gI (iI2b a) :: st) M Q) : Go g y d bc bs pc L (gI a :: st) M Q := by
  intro p e R s m args below meth c H locs cells slots ls Z C hRT hr hM hl hs
  exact lv_i2b C.1 C.2.1 hd (Int32.ofInt_toInt _).symm (k C hRT hr hM hl (okc (gi_in _) (okt hs)))
theorem go_i2c {a : Int} (hd : decode y.2.1 pc = .ok (.i2c, 1)) (k : Go g y d bc bs (pc + 1) L (gI (iI2c a) :: st) M Q) : Go g y d bc bs pc L (gI a :: st) M Q := by
  intro p e R s m args below meth c H locs cells slots ls Z C hRT hr hM hl hs
  exact lv_i2c C.1 C.2.1 hd (Int32.ofInt_toInt _).symm (k C hRT hr hM hl (okc (gi_in _) (okt hs)))
theorem go_i2l {a : Int} (hd : decode y.2.1 pc = .ok (.i2l, 1)) (k : Go g y d bc bs (pc + 1) L (gL a :: st) M Q) : Go g y d bc bs pc L (gI a :: st) M Q := by
  intro p e R s m args below meth c H locs cells slots ls Z C hRT hr hM hl hs
  exact lv_i2l C.1 C.2.1 hd (gl_i2l (okh hs)) (k C hRT hr hM hl (okc (inL_of (okh hs)) (okt hs)))
theorem go_ineg {a : Int} (hd : decode y.2.1 pc = .ok (.ineg, 1)) (k : Go g y d bc bs (pc + 1) L (gI (w32 (-a)) :: st) M Q) : Go g y d bc bs pc L (gI a :: st) M Q := by
  intro p e R s m args below meth c H locs cells slots ls Z C hRT hr hM hl hs
  have hk := k C hRT hr hM hl (okc (w32_in _) (okt hs))
  refine lv_ineg C.1 C.2.1 hd ?_
  rw [gi_neg]
  exact hk
theorem go_idiv {a b : Int} (hd : decode y.2.1 pc = .ok (.idiv, 1)) (h0 : b ≠ 0) (k : Go g y d bc bs (pc + 1) L (gI (w32 (a.tdiv b)) :: st) M Q) : Go g y d bc bs pc L (gI b :: gI a :: st) M Q := by
  intro p e R s m args below meth c H locs cells slots ls Z C hRT hr hM hl hs
  have hk := k C hRT hr hM hl (okc (w32_in _) (okt (okt hs)))
  refine lv_idiv C.1 C.2.1 hd (fun h => h0 ((gi_eq0 (okh hs)).mp h)) ?_
  rw [gi_div (okh (okt hs)) (okh hs)]
  exact hk
theorem go_irem {a b : Int} (hd : decode y.2.1 pc = .ok (.irem, 1)) (h0 : b ≠ 0) (k : Go g y d bc bs (pc + 1) L (gI (a.tmod b) :: st) M Q) : Go g y d bc bs pc L (gI b :: gI a :: st) M Q := by
  intro p e R s m args below meth c H locs cells slots ls Z C hRT hr hM hl hs
  have hk := k C hRT hr hM hl (okc (inR_tmod (okh (okt hs)) (okh hs) h0) (okt (okt hs)))
  refine lv_irem C.1 C.2.1 hd (fun h => h0 ((gi_eq0 (okh hs)).mp h)) ?_
  rw [gi_rem (okh (okt hs)) (okh hs)]
  exact hk
theorem go_lcmp {a b : Int} (hd : decode y.2.1 pc = .ok (.lcmp, 1)) (k : Go g y d bc bs (pc + 1) L (gI (iCmp a b) :: st) M Q) : Go g y d bc bs pc L (gL b :: gL a :: st) M Q := by
  intro p e R s m args below meth c H locs cells slots ls Z C hRT hr hM hl hs
  have hk := k C hRT hr hM hl (okc (inR_cmp a b) (okt (okt hs)))
  refine W.lcmp C.1 C.2.1 hd ?_
  rw [gl_cmp (okh (okt hs)) (okh hs)]
  exact hk
def c1 : GV → Prop
  | .inr (.inl _) => False
  | _ => True
theorem c1_cat {g : GX} {v : GV} (h : c1 v) : (rv g v).category = 1 := by
  match v, h with
  | .inl _, _ => rfl
  | .inr (.inr (.inl none)), _ => rfl
  | .inr (.inr (.inl (some _))), _ => rfl
  | .inr (.inr (.inr none)), _ => rfl
  | .inr (.inr (.inr (some _))), _ => rfl
theorem go_dup {v : GV} (hd : decode y.2.1 pc = .ok (.dup, 1)) (h1 : c1 v) (k : Go g y d bc bs (pc + 1) L (v :: v :: st) M Q) : Go g y d bc bs pc L (v :: st) M Q := by
  intro p e R s m args below meth c H locs cells slots ls Z C hRT hr hM hl hs
  exact lv_dup C.1 C.2.1 hd (c1_cat h1) (k C hRT hr hM hl (okc (okh hs) hs))
theorem go_pop {v : GV} (hd : decode y.2.1 pc = .ok (.pop, 1)) (h1 : c1 v) (k : Go g y d bc bs (pc + 1) L st M Q) : Go g y d bc bs pc L (v :: st) M Q := by
  intro p e R s m args below meth c H locs cells slots ls Z C hRT hr hM hl hs
  exact lv_pop C.1 C.2.1 hd (c1_cat h1) (k C hRT hr hM hl (okt hs))
theorem go_dup2 {v w : GV} (hd : decode y.2.1 pc = .ok (.dup2, 1)) (h1 : c1 v) (h2 : c1 w) (k : Go g y d bc bs (pc + 1) L (v :: w :: v :: w :: st) M Q) : Go g y d bc bs pc L (v :: w :: st) M Q := by
  intro p e R s m args below meth c H locs cells slots ls Z C hRT hr hM hl hs
  exact lv_dup2_11 C.1 C.2.1 hd (c1_cat h1) (c1_cat h2) (k C hRT hr hM hl (okc (okh hs) (okc (okh (okt hs)) hs)))
theorem go_if_eq {a off : Int} (tgt : Nat) (hd : decode y.2.1 pc = .ok (.ifCond .eq off, 3)) (ht : (pc : Int) + off = (tgt : Int)) (kt : a = 0 → Go g y d bc bs tgt L st M Q) (kf : ¬ a = 0 → Go g y d bc bs (pc + 3) L st M Q) : Go g y d bc bs pc L (gI a :: st) M Q := by
  intro p e R s m args below meth c H locs cells slots ls Z C hRT hr hM hl hs
  have ha : inR a := okh hs
  refine lv_if_eq (tgt := tgt) C.1 C.2.1 hd ht (fun h => ?_) (fun h => ?_)
  · exact kt (by simpa only [gi_eq0 ha] using h) C hRT hr hM hl (okt hs)
  · exact kf (by simpa only [gi_eq0 ha, Classical.not_not] using h) C hRT hr hM hl (okt hs)
theorem go_if_ne {a off : Int} (tgt : Nat) (hd : decode y.2.1 pc = .ok (.ifCond .ne off, 3)) (ht : (pc : Int) + off = (tgt : Int)) (kt : ¬ a = 0 → Go g y d bc bs tgt L st M Q) (kf : a = 0 → Go g y d bc bs (pc + 3) L st M Q) : Go g y d bc bs pc L (gI a :: st) M Q := by
  intro p e R s m args below meth c H locs cells slots ls Z C hRT hr hM hl hs
  have ha : inR a := okh hs
  refine lv_if_ne (tgt := tgt) C.1 C.2.1 hd ht (fun h => ?_) (fun h => ?_)
  · exact kt (by simpa only [gi_eq0 ha] using h) C hRT hr hM hl (okt hs)
  · exact kf (by simpa only [gi_eq0 ha, Classical.not_not] using h) C hRT hr hM hl (okt hs)
theorem go_if_lt {a off : Int} (tgt : Nat) (hd : decode y.2.1 pc = .ok (.ifCond .lt off, 3)) (ht : (pc : Int) + off = (tgt : Int)) (kt : a < 0 → Go g y d bc bs tgt L st M Q) (kf : ¬ a < 0 → Go g y d bc bs (pc + 3) L st M Q) : Go g y d bc bs pc L (gI a :: st) M Q := by
  intro p e R s m args below meth c H locs cells slots ls Z C hRT hr hM hl hs
  have ha : inR a := okh hs
  refine lv_if_lt (tgt := tgt) C.1 C.2.1 hd ht (fun h => ?_) (fun h => ?_)
  · exact kt (by simpa only [gi_lt0 ha] using h) C hRT hr hM hl (okt hs)
  · exact kf (by simpa only [gi_lt0 ha, Classical.not_not] using h) C hRT hr hM hl (okt hs)
theorem go_if_ge {a off : Int} (tgt : Nat) (hd : decode y.2.1 pc = .ok (.ifCond .ge off, 3)) (ht : (pc : Int) + off = (tgt : Int)) (kt : 0 ≤ a → Go g y d bc bs tgt L st M Q) (kf : ¬ 0 ≤ a → Go g y d bc bs (pc + 3) L st M Q) : Go g y d bc bs pc L (gI a :: st) M Q := by
  intro p e R s m args below meth c H locs cells slots ls Z C hRT hr hM hl hs
  have ha : inR a := okh hs
  refine lv_if_ge (tgt := tgt) C.1 C.2.1 hd ht (fun h => ?_) (fun h => ?_)
  · exact kt (by simpa only [gi_ge0 ha] using h) C hRT hr hM hl (okt hs)
  · exact kf (by simpa only [gi_ge0 ha, Classical.not_not] using h) C hRT hr hM hl (okt hs)
theorem go_if_gt {a off : Int} (tgt : Nat) (hd : decode y.2.1 pc = .ok (.ifCond .gt off, 3)) (ht : (pc : Int) + off = (tgt : Int)) (kt : 0 < a → Go g y d bc bs tgt L st M Q) (kf : ¬ 0 < a → Go g y d bc bs (pc + 3) L st M Q) : Go g y d bc bs pc L (gI a :: st) M Q := by
  intro p e R s m args below meth c H locs cells slots ls Z C hRT hr hM hl hs
  have ha : inR a := okh hs
  refine lv_if_gt (tgt := tgt) C.1 C.2.1 hd ht (fun h => ?_) (fun h => ?_)
  · exact kt (by simpa only [gi_gt0 ha] using h) C hRT hr hM hl (okt hs)
  · exact kf (by simpa only [gi_gt0 ha, Classical.not_not] using h) C hRT hr hM hl (okt hs)
theorem go_if_le {a off : Int} (tgt : Nat) (hd : decode y.2.1 pc = .ok (.ifCond .le off, 3)) (ht : (pc : Int) + off = (tgt : Int)) (kt : a ≤ 0 → Go g y d bc bs tgt L st M Q) (kf : ¬ a ≤ 0 → Go g y d bc bs (pc + 3) L st M Q) : Go g y d bc bs pc L (gI a :: st) M Q := by
  intro p e R s m args below meth c H locs cells slots ls Z C hRT hr hM hl hs
  have ha : inR a := okh hs
  refine lv_if_le (tgt := tgt) C.1 C.2.1 hd ht (fun h => ?_) (fun h => ?_)
  · exact kt (by simpa only [gi_le0 ha] using h) C hRT hr hM hl (okt hs)
  · exact kf (by simpa only [gi_le0 ha, Classical.not_not] using h) C hRT hr hM hl (okt hs)
theorem go_ic_eq {a b off : Int} (tgt : Nat) (hd : decode y.2.1 pc = .ok (.if_icmp .eq off, 3)) (ht : (pc : Int) + off = (tgt : Int)) (kt : a = b → Go g y d bc bs tgt L st M Q) (kf : ¬ a = b → Go g y d bc bs (pc + 3) L st M Q) : Go g y d bc bs pc L (gI b :: gI a :: st) M Q := by
  intro p e R s m args below meth c H locs cells slots ls Z C hRT hr hM hl hs
  have hb : inR b := okh hs
  have ha : inR a := okh (okt hs)
  refine lv_icmp_eq (tgt := tgt) C.1 C.2.1 hd ht (fun h => ?_) (fun h => ?_)
  · exact kt (by simpa only [gi_eq ha hb] using h) C hRT hr hM hl (okt (okt hs))
  · exact kf (by simpa only [gi_eq ha hb, Classical.not_not] using h) C hRT hr hM hl (okt (okt hs))
theorem go_ic_ne {a b off : Int} (tgt : Nat) (hd : decode y.2.1 pc = .ok (.if_icmp .ne off, 3)) (ht : (pc : Int) + off = (tgt : Int)) (kt : ¬ a = b → Go g y d bc bs tgt L st M Q) (kf : a = b → Go g y d bc bs (pc + 3) L st M Q) : Go g y d bc bs pc L (gI b :: gI a :: st) M Q := by
  intro p e R s m args below meth c H locs cells slots ls Z C hRT hr hM hl hs
  have hb : inR b := okh hs
  have ha : inR a := okh (okt hs)
  refine lv_icmp_ne (tgt := tgt) C.1 C.2.1 hd ht (fun h => ?_) (fun h => ?_)
  · exact kt (by simpa only [gi_eq ha hb] using h) C hRT hr hM hl (okt (okt hs))
  · exact kf (by simpa only [gi_eq ha hb, Classical.not_not] using h) C hRT hr hM hl (okt (okt hs))
theorem go_ic_lt {a b off : Int} (tgt : Nat) (hd : decode y.2.1 pc = .ok (.if_icmp .lt off, 3)) (ht : (pc : Int) + off = (tgt : Int)) (kt : a < b → Go g y d bc bs tgt L st M Q) (kf : ¬ a < b → Go g y d bc bs (pc + 3) L st M Q) : Go g y d bc bs pc L (gI b :: gI a :: st) M Q := by
  intro p e R s m args below meth c H locs cells slots ls Z C hRT hr hM hl hs
  have hb : inR b := okh hs
  have ha : inR a := okh (okt hs)
  refine lv_icmp_lt (tgt := tgt) C.1 C.2.1 hd ht (fun h => ?_) (fun h => ?_)
  · exact kt (by simpa only [gi_lt ha hb] using h) C hRT hr hM hl (okt (okt hs))
  · exact kf (by simpa only [gi_lt ha hb, Classical.not_not] using h) C hRT hr hM hl (okt (okt hs))
theorem go_ic_ge {a b off : Int} (tgt : Nat) (hd : decode y.2.1 pc = .ok (.if_icmp .ge off, 3)) (ht : (pc : Int) + off = (tgt : Int)) (kt : b ≤ a → Go g y d bc bs tgt L st M Q) (kf : ¬ b ≤ a → Go g y d bc bs (pc + 3) L st M Q) : Go g y d bc bs pc L (gI b :: gI a :: st) M Q := by
  intro p e R s m args below meth c H locs cells slots ls Z C hRT hr hM hl hs
  have hb : inR b := okh hs
  have ha : inR a := okh (okt hs)
  refine lv_icmp_ge (tgt := tgt) C.1 C.2.1 hd ht (fun h => ?_) (fun h => ?_)
  · exact kt (by simpa only [gi_le hb ha] using h) C hRT hr hM hl (okt (okt hs))
  · exact kf (by simpa only [gi_le hb ha, Classical.not_not] using h) C hRT hr hM hl (okt (okt hs))
theorem go_ic_gt {a b off : Int} (tgt : Nat) (hd : decode y.2.1 pc = .ok (.if_icmp .gt off, 3)) (ht : (pc : Int) + off = (tgt : Int)) (kt : b < a → Go g y d bc bs tgt L st M Q) (kf : ¬ b < a → Go g y d bc bs (pc + 3) L st M Q) : Go g y d bc bs pc L (gI b :: gI a :: st) M Q := by
  intro p e R s m args below meth c H locs cells slots ls Z C hRT hr hM hl hs
  have hb : inR b := okh hs
  have ha : inR a := okh (okt hs)
  refine lv_icmp_gt (tgt := tgt) C.1 C.2.1 hd ht (fun h => ?_) (fun h => ?_)
  · exact kt (by simpa only [gi_lt hb ha] using h) C hRT hr hM hl (okt (okt hs))
  · exact kf (by simpa only [gi_lt hb ha, Classical.not_not] using h) C hRT hr hM hl (okt (okt hs))
theorem go_ic_le {a b off : Int} (tgt : Nat) (hd : decode y.2.1 pc = .ok (.if_icmp .le off, 3)) (ht : (pc : Int) + off = (tgt : Int)) (kt : a ≤ b → Go g y d bc bs tgt L st M Q) (kf : ¬ a ≤ b → Go g y d bc bs (pc + 3) L st M Q) : Go g y d bc bs pc L (gI b :: gI a :: st) M Q := by
  intro p e R s m args below meth c H locs cells slots ls Z C hRT hr hM hl hs
  have hb : inR b := okh hs
  have ha : inR a := okh (okt hs)
  refine lv_icmp_le (tgt := tgt) C.1 C.2.1 hd ht (fun h => ?_) (fun h => ?_)
  · exact kt (by simpa only [gi_le ha hb] using h) C hRT hr hM hl (okt (okt hs))
  · exact kf (by simpa only [gi_le ha hb, Classical.not_not] using h) C hRT hr hM hl (okt (okt hs))
theorem go_goto {off : Int} (tgt : Nat) (hd : decode y.2.1 pc = .ok (.goto off, 3)) (ht : (pc : Int) + off = (tgt : Int)) (k : Go g y d bc bs tgt L st M Q) : Go g y d bc bs pc L st M Q := by
  intro p e R s m args below meth c H locs cells slots ls Z C hRT hr hM hl hs
  exact lv_goto (tgt := tgt) C.1 C.2.1 hd ht (k C hRT hr hM hl hs)
theorem go_nonnullR {a : Nat} {off : Int} (tgt : Nat) (hd : decode y.2.1 pc = .ok (.ifnonnull off, 3)) (ht : (pc : Int) + off = (tgt : Int)) (k : Go g y d bc bs tgt L st M Q) : Go g y d bc bs pc L (gR a :: st) M Q := by
  intro p e R s m args below meth c H locs cells slots ls Z C hRT hr hM hl hs
  exact lv_ifnonnull (tgt := tgt) C.1 C.2.1 hd ht (k C hRT hr hM hl (okt hs))
theorem go_nonnullN {off : Int} (hd : decode y.2.1 pc = .ok (.ifnonnull off, 3)) (k : Go g y d bc bs (pc + 3) L st M Q) : Go g y d bc bs pc L (gN :: st) M Q := by
  intro p e R s m args below meth c H locs cells slots ls Z C hRT hr hM hl hs
  exact lv_ifnonnullN C.1 C.2.1 hd (k C hRT hr hM hl (okt hs))
theorem go_tabOut {a dflt lo hi : Int} {offs : Array Int} {len : Nat} (tgt : Nat) (hd : decode y.2.1 pc = .ok (.tableswitch dflt lo hi offs, len)) (h : a < lo ∨ hi < a) (ht : (pc : Int) + dflt = (tgt : Int)) (k : Go g y d bc bs tgt L st M Q) : Go g y d bc bs pc L (gI a :: st) M Q := by
  intro p e R s m args below meth c H locs cells slots ls Z C hRT hr hM hl hs
  exact lv_tableOut (tgt := tgt) C.1 C.2.1 hd (by rw [gi_to (okh hs)]; exact h) ht (k C hRT hr hM hl (okt hs))
theorem go_tabIn {a dflt lo hi off : Int} {offs : Array Int} {len : Nat} (tgt : Nat) (hd : decode y.2.1 pc = .ok (.tableswitch dflt lo hi offs, len)) (h1 : lo ≤ a) (h2 : a ≤ hi) (ho : offs[(a - lo).toNat]? = some off) (ht : (pc : Int) + off = (tgt : Int)) (k : Go g y d bc bs tgt L st M Q) : Go g y d bc bs pc L (gI a :: st) M Q := by
  intro p e R s m args below meth c H locs cells slots ls Z C hRT hr hM hl hs
  exact lv_tableIn (tgt := tgt) C.1 C.2.1 hd (by rw [gi_to (okh hs)]; omega) (by rw [gi_to (okh hs)]; omega) (by rw [gi_to (okh hs)]; exact ho) ht (k C hRT hr hM hl (okt hs))
theorem go_lookup {a dflt off : Int} {ps : Array (Int × Int)} {len : Nat} (tgt : Nat) (hd : decode y.2.1 pc = .ok (.lookupswitch dflt ps, len)) (hp : (ps.toList.zip (ps.toList.drop 1)).all (fun (a, next) => a.1 < next.1) = true) (ho : Op.lookupswitch.offset ps.toList dflt a = off) (ht : (pc : Int) + off = (tgt : Int)) (k : Go g y d bc bs tgt L st M Q) : Go g y d bc bs pc L (gI a :: st) M Q := by
  intro p e R s m args below meth c H locs cells slots ls Z C hRT hr hM hl hs
  exact lv_lookup (tgt := tgt) C.1 C.2.1 hd hp (by rw [gi_to (okh hs)]; exact ho) ht (k C hRT hr hM hl (okt hs))
theorem go_iret {x : Int} {ty : FieldType} (hd : decode y.2.1 pc = .ok (.ireturn, 1)) (hr0 : y.2.2.2 = some ty) (hn : narrow ty (.int (Int32.ofInt x)) = .int (Int32.ofInt x)) (hq : Q (gI x) M) : Go g y d bc bs pc L [gI x] M Q := by
  intro p e R s m args below meth c H locs cells slots ls Z C hRT hr hM hl hs
  exact hRT (gI x) M H locs cells slots pc ls [gI x] (Or.inl ⟨x, ty, hd, hr0, hn, okh hs, rfl, rfl⟩) hq hM.1 hM.2 (by omega) (by omega)
theorem go_vret (hd : decode y.2.1 pc = .ok (.return_, 1)) (hr0 : y.2.2.2 = none) (hq : Q gU M) : Go g y d bc bs pc L [] M Q := by
  intro p e R s m args below meth c H locs cells slots ls Z C hRT hr hM hl hs
  exact hRT gU M H locs cells slots pc ls [] (Or.inr (Or.inl ⟨hd, hr0, rfl, rfl⟩)) hq hM.1 hM.2 (by omega) (by omega)
theorem go_aret {o : Option Nat} {rt : FieldType} (hd : decode y.2.1 pc = .ok (.areturn, 1)) (hr0 : y.2.2.2 = some rt) (hrt : (∃ n, rt = .object n) ∨ ∃ t, rt = .array t) (hq : Q (gO o) M) : Go g y d bc bs pc L [gO o] M Q := by
  intro p e R s m args below meth c H locs cells slots ls Z C hRT hr hM hl hs
  exact hRT (gO o) M H locs cells slots pc ls [gO o] (Or.inr (Or.inr ⟨o, rt, hd, hr0, hrt, rfl, rfl⟩)) hq hM.1 hM.2 (by omega) (by omega)
end GOROWS
end
section
/-! ===== the memory's rows ===== -/
theorem MR.lt {g : GX} {M : GM} {H : Heap} (hM : MR g M H) {a : Nat} (h : M.2 a ≠ gBad) : a < M.1 := by
  by_cases hj : a < M.1
  · exact hj
  · exact absurd ((hM.2 a).2 (by omega)) h
theorem MR.at {g : GX} {M : GM} {H : Heap} (hM : MR g M H) {a : Nat} {c : GC} (h : M.2 a = c) (hc : c ≠ gBad) : va_at (xD g) clz (xs0 g + a, ce g c) H ∧ okC c := by
  have h1 := (hM.2 a).1 (hM.lt (by rw [h]; exact hc))
  rw [h] at h1
  exact h1
theorem MR.set {g : GX} {M : GM} {H H1 : Heap} (hM : MR g M H) {a : Nat} {c c0 : GC} (h : M.2 a = c0) (hc : c0 ≠ gBad) (hat : va_at (xD g) clz (xs0 g + a, ce g c) H1) (hok : okC c) (hz : H1.size = H.size) (ho : ∀ q : Nat, q ≠ xs0 g + a → H1[q]? = H[q]?) : MR g (M.1, va_up M.2 a c) H1 := by
  have ha : a < M.1 := hM.lt (by rw [h]; exact hc)
  refine ⟨hz.trans hM.1, fun k => ⟨fun hk => ?_, fun hk => ?_⟩⟩
  · show va_at _ _ (_, ce g (va_up M.2 a c k)) H1 ∧ okC (va_up M.2 a c k)
    by_cases e : k = a
    · subst e
      rw [va_up_self]
      exact ⟨hat, hok⟩
    · rw [va_up_ne _ _ e]
      have h1 := (hM.2 k).1 hk
      exact ⟨h1.1.kept (ho _ (by show xs0 g + k ≠ _; omega)), h1.2⟩
  · show va_up M.2 a c k = gBad
    have hk' : M.1 ≤ k := hk
    rw [va_up_ne _ _ (by omega)]
    exact (hM.2 k).2 hk
theorem MR.push {g : GX} {M : GM} {H H1 : Heap} (hM : MR g M H) {c : GC} (hat : va_at (xD g) clz (H.size, ce g c) H1) (hok : okC c) (hz : H1.size = H.size + 1) (ho : ∀ q : Nat, q < H.size → H1[q]? = H[q]?) : MR g (M.1 + 1, va_up M.2 M.1 c) H1 := by
  refine ⟨by rw [hz, hM.1]; show _ = xs0 g + (M.1 + 1); omega, fun k => ⟨fun hk => ?_, fun hk => ?_⟩⟩
  · show va_at _ _ (_, ce g (va_up M.2 M.1 c k)) H1 ∧ okC (va_up M.2 M.1 c k)
    have hk' : k < M.1 + 1 := hk
    by_cases e : k = M.1
    · subst e
      rw [va_up_self, ← hM.1]
      exact ⟨hat, hok⟩
    · rw [va_up_ne _ _ e]
      have h1 := (hM.2 k).1 (by omega)
      exact ⟨h1.1.kept (ho _ (by show xs0 g + k < _; rw [hM.1]; omega)), h1.2⟩
  · show va_up M.2 M.1 c k = gBad
    have hk' : M.1 + 1 ≤ k := hk
    rw [va_up_ne _ _ (by omega)]
    exact (hM.2 k).2 (by omega)
theorem va_P1 {D : va_G} {cl : List vw_C} {q : Nat × va_E} {H : Heap} (h : va_at D cl q H) : va_P D cl [q] H := by
  intro k q' hk
  cases k with
  | zero => simp at hk; subst hk; exact h
  | succ k => simp at hk
theorem va_S.new {A : Nat → Prop} {H0 H H1 : Heap} {locs : List Loc} (h : va_S A H0 H locs) (z : H.size ≤ H1.size) (ho : ∀ q : Nat, q < H.size → H1[q]? = H[q]?) : va_S A H0 H1 locs :=
  ⟨Nat.le_trans h.1 z, fun x h1 h2 => (ho x (Nat.lt_of_lt_of_le h1 h.1)).trans (h.2.1 x h1 h2), h.2.2⟩
/-- the field k of class ci, of that type, final or not, by the pool's entry idx of the class 'own' -/
def FL (own : String) (idx ci k : Nat) (ty : FieldType) (fin : Bool) : Prop := ∃ (C : String) (T : u_T) (N : Nat) (tf : Nat → FieldType), CLS ci C T N tf ∧ k < N ∧ Cond.fieldLink own idx (T k).1 (T k).2.1 (T k).2.2.1 ∈ gw ∧ tf k = ty ∧ (T k).2.2.2 = fin ∧ (T k).1 = C
theorem neO {ci : Nat} {fs : List GV} {v : GV} {k : Nat} (h : fs[k]? = some v) : cO ci fs ≠ gBad := by
  intro e
  injection e with e; injection e with e; injection e with e1 e2
  subst e2
  simp at h
theorem neOl {ci : Nat} {fs : List GV} {k : Nat} (h : k < fs.length) : cO ci fs ≠ gBad := by
  intro e
  injection e with e; injection e with e; injection e with e1 e2
  subst e2
  simp at h
theorem neI {n : Nat} {f : Nat → Int} : cI n f ≠ gBad := fun e => by injection e
theorem neR {ci n : Nat} {f : Nat → Option Nat} : cR ci n f ≠ gBad := fun e => by injection e with e; injection e
section GOHEAP
variable {g : GX} {y : GY} {d bc bs pc : Nat} {L st : List GV} {N : Nat} {F : Nat → GC} {Q : GV → GM → Prop}
theorem go_getf {idx ci k a : Nat} {ty : FieldType} {fin : Bool} {fs : List GV} {v : GV} (hd : decode y.2.1 pc = .ok (.getfield idx, 3)) (hf : FL y.1.cls idx ci k ty fin) (hm : F a = cO ci fs) (hv : fs[k]? = some v) (kk : Go g y d bc bs (pc + 3) L (v :: st) (N, F) Q) : Go g y d bc bs pc L (gR a :: st) (N, F) Q := by
  intro p e R s m args below meth c H locs cells slots ls Z C hRT hr hM hl hs
  obtain ⟨K, T, n, tf, ⟨c1, c2, c3, c4⟩, f1, f2, f3, f4, f5⟩ := hf
  obtain ⟨hat, hok⟩ := hM.1.at (a := a) hm (neO hv)
  exact va_get (ws := [(xs0 g + a, .inr (ci, fs.map (rv g)))]) C.1 C.2.1 C.2.2.2.2.1 c2 C.2.2.2.1 C.2.2.2.2.2.2.2.2.1 (va_P1 hat) 0 rfl c1 k f1 (C.2.2.2.2.1 _ f2) (fun _ h => h) (v := rv g v) (by rw [List.getElem?_map, hv]; rfl) hd (kk C hRT hr hM hl (okc (hok v (List.mem_of_getElem? hv)) (okt hs)))
theorem go_putf {idx ci k a : Nat} {ty : FieldType} {fs : List GV} {v : GV} (hd : decode y.2.1 pc = .ok (.putfield idx, 3)) (hf : FL y.1.cls idx ci k ty false) (hm : F a = cO ci fs) (hk : k < fs.length) (hn : narrow ty (rv g v) = rv g v) (hfit : fits ty (rv g v) = true) (kk : Go g y d bc bs (pc + 3) L st (N, va_up F a (cO ci (fs.set k v))) Q) : Go g y d bc bs pc L (v :: gR a :: st) (N, F) Q := by
  intro p e R s m args below meth c H locs cells slots ls Z C hRT hr hM hl hs
  obtain ⟨K, T, n, tf, ⟨c1, c2, c3, c4⟩, f1, f2, f3, f4, f5⟩ := hf
  obtain ⟨hat, hok⟩ := hM.1.at (a := a) hm (neOl hk)
  have hts := C.2.2.2.2.1
  have hK := C.2.2.2.2.2.2.2.2.1
  have hown := C.2.2.2.1
  have hap := va_apart (own := y.1.cls) hts c2 tf c3 c4 hK c1
  obtain ⟨r, h1, cell, q1, q2, q3, q4⟩ := hat
  have hre : r = (K, T, n) := Option.some.inj (h1.symm.trans c1)
  subst hre
  obtain ⟨hS, hfc, kC, hkC, hkind⟩ := hK.1 ci _ c1
  obtain ⟨cf, kf, fi, fd, hi, hsl⟩ := hS k f1
  have hlay := hts _ (c2 _ (u_in_lay f1))
  unfold u_lay at hlay
  rw [if_neg (by rw [f4]; decide)] at hlay
  have hst := (u_facts hfc hkC (u_lays hts c2 f1) hi).1
  have h6 := u_store hfc hkC hkind hlay hi (by rw [c3 k f1, f3]) hn hfit
  refine W.putK C.1 C.2.1 (f := fd) ⟨hown, hts _ f2, ⟨_, _, _, hi⟩, hst⟩ (by rw [q2]; exact h6) q1 q3 (by rw [hsl]; exact k2_hasslot (q4 k f1)) rfl rfl hd fun H' e1 e2 e3 => ?_
  rw [hsl] at e1 ⊢
  refine kk C hRT hr ⟨hM.1.set hm (neOl hk) ⟨_, c1, t_OB.to (V := updV (vp_V (fs.map (rv g))) k (rv g v)) ⟨_, e1, q2, q3, t_set q4 hap f1 _⟩ (fun j _ => ?_)⟩ ?_ e2 e3, hM.2.put e2 e3 (by show xs0 g ≤ _; omega)⟩ hl (okt (okt hs))
  · rw [vp_updV_set (by rw [List.length_map]; exact hk), ← List.map_set]
  · intro w hw
    rcases List.mem_or_eq_of_mem_set hw with h | h
    · exact hok w h
    · subst h; exact okh hs
theorem go_putF {idx ci k a : Nat} {ty : FieldType} {fs : List GV} {v : GV} (hd : decode y.2.1 pc = .ok (.putfield idx, 3)) (hf : FL y.1.cls idx ci k ty true) (hin : y.1.name = "<init>") (hcl : clz[ci]?.map (fun q => q.1) = some y.1.cls) (hm : F a = cO ci fs) (hk : k < fs.length) (hn : narrow ty (rv g v) = rv g v) (hfit : fits ty (rv g v) = true) (kk : Go g y d bc bs (pc + 3) L st (N, va_up F a (cO ci (fs.set k v))) Q) : Go g y d bc bs pc L (v :: gR a :: st) (N, F) Q := by
  intro p e R s m args below meth c H locs cells slots ls Z C hRT hr hM hl hs
  obtain ⟨K, T, n, tf, ⟨c1, c2, c3, c4⟩, f1, f2, f3, f4, f5⟩ := hf
  obtain ⟨hat, hok⟩ := hM.1.at (a := a) hm (neOl hk)
  have hts := C.2.2.2.2.1
  have hK := C.2.2.2.2.2.2.2.2.1
  have hown := C.2.2.2.1
  have hap := va_apart (own := y.1.cls) hts c2 tf c3 c4 hK c1
  have hdecl : (T k).1 = y.1.cls := by
    rw [f5]
    rw [c1] at hcl
    exact Option.some.inj hcl
  obtain ⟨r, h1, cell, q1, q2, q3, q4⟩ := hat
  have hre : r = (K, T, n) := Option.some.inj (h1.symm.trans c1)
  subst hre
  obtain ⟨hS, hfc, kC, hkC, hkind⟩ := hK.1 ci _ c1
  obtain ⟨cf, kf, fi, fd, hi, hsl⟩ := hS k f1
  have hlay := hts _ (c2 _ (u_in_lay f1))
  unfold u_lay at hlay
  rw [if_pos f4] at hlay
  have hst := (u_facts hfc hkC (u_lays hts c2 f1) hi).1
  have hcf : m.cls = cf := by
    obtain ⟨_, _, c', _, _, _, -, -, hf', -, -, -, hown2, -⟩ := Cond.laysFinal_spec hlay
    have e1 : c' = cf := by have := hi.symm.trans hf'; simp at this; exact this.1.symm
    rw [hdecl] at hown2
    rw [← e1]; exact Option.some.inj (hown.symm.trans hown2)
  have h6 := u_fits hfc hkC hkind (Or.inr hlay) hi (by rw [c3 k f1, f3]) hn hfit
  refine W.putFinK C.1 C.2.1 hown (hts _ f2) hi hst hcf (C.2.2.2.2.2.2.1.trans hin) (by rw [q2]; exact h6) q1 q3 (by rw [hsl]; exact k2_hasslot (q4 k f1)) rfl rfl hd fun H' e1 e2 e3 => ?_
  rw [hsl] at e1 ⊢
  refine kk C hRT hr ⟨hM.1.set hm (neOl hk) ⟨_, c1, t_OB.to (V := updV (vp_V (fs.map (rv g))) k (rv g v)) ⟨_, e1, q2, q3, t_set q4 hap f1 _⟩ (fun j _ => ?_)⟩ ?_ e2 e3, hM.2.put e2 e3 (by show xs0 g ≤ _; omega)⟩ hl (okt (okt hs))
  · rw [vp_updV_set (by rw [List.length_map]; exact hk), ← List.map_set]
  · intro w hw
    rcases List.mem_or_eq_of_mem_set hw with h | h
    · exact hok w h
    · subst h; exact okh hs
theorem go_iald {a n : Nat} {f : Nat → Int} {i : Int} (hd : decode y.2.1 pc = .ok (.iaload, 1)) (hm : F a = cI n f) (h0 : 0 ≤ i) (h1 : i < n) (kk : Go g y d bc bs (pc + 1) L (gI (f i.toNat) :: st) (N, F) Q) : Go g y d bc bs pc L (gI i :: gR a :: st) (N, F) Q := by
  intro p e R s m args below meth c H locs cells slots ls Z C hRT hr hM hl hs
  obtain ⟨hat, hok⟩ := hM.1.at (a := a) hm neI
  have hk := kk C hRT hr hM hl (okc (hok.2 _) (okt (okt hs)))
  refine va_iald (ws := [(xs0 g + a, ce g (cI n f))]) C.1 C.2.1 C.2.2.2.2.2.2.2.2.1 (va_P1 hat) 0 0 rfl rfl (gi_vp (okh hs) h0 h1) hd ?_
  rw [gi_cl (okh hs)]
  exact hk
theorem go_iast {a n : Nat} {f : Nat → Int} {i x : Int} (hd : decode y.2.1 pc = .ok (.iastore, 1)) (hm : F a = cI n f) (h0 : 0 ≤ i) (h1 : i < n) (kk : Go g y d bc bs (pc + 1) L st (N, va_up F a (cI n (va_up f i.toNat x))) Q) : Go g y d bc bs pc L (gI x :: gI i :: gR a :: st) (N, F) Q := by
  intro p e R s m args below meth c H locs cells slots ls Z C hRT hr hM hl hs
  obtain ⟨hat, hok⟩ := hM.1.at (a := a) hm neI
  have hi : inR i := okh (okt hs)
  have hcell : H[xs0 g + a]? = some (arrV (xaI g) n (fun j => .int (Int32.ofInt (f j)))) := hat
  refine W.iast C.1 C.2.1 hcell ((C.2.2.2.2.2.2.2.2.1.2 0 _ rfl).1 n (fun j => .int (Int32.ofInt (f j)))) (fun q => by cases q) (by rw [arrV_size]; exact gi_vp hi h0 h1) rfl rfl hd fun H1 e z oq => ?_
  refine kk C hRT hr ⟨hM.1.set hm neI ?_ ⟨hok.1, fun j => ?_⟩ z oq, hM.2.put z oq (by show xs0 g ≤ _; omega)⟩ hl (okt (okt (okt hs)))
  · show H1[xs0 g + a]? = some (arrV (xaI g) n (fun j => .int (Int32.ofInt (va_up f i.toNat x j))))
    rw [e, arrV_store, gi_cl hi]
    congr 2
    funext q
    by_cases hq : q = i.toNat
    · subst hq
      simp [updV, va_up]
    · simp [updV, va_up, hq]
  · by_cases hj : j = i.toNat
    · subst hj; rw [va_up_self]; exact okh hs
    · rw [va_up_ne _ _ hj]; exact hok.2 j
theorem go_aald {a n ci : Nat} {f : Nat → Option Nat} {i : Int} (t : Nat) (K : String) (hd : decode y.2.1 pc = .ok (.aaload, 1)) (hm : F a = cR ci n f) (ht : (tys g)[t]? = some (xaR g ci, .object K)) (h0 : 0 ≤ i) (h1 : i < n) (kk : Go g y d bc bs (pc + 1) L (gO (f i.toNat) :: st) (N, F) Q) : Go g y d bc bs pc L (gI i :: gR a :: st) (N, F) Q := by
  intro p e R s m args below meth c H locs cells slots ls Z C hRT hr hM hl hs
  obtain ⟨hat, hok⟩ := hM.1.at (a := a) hm neR
  have hk := kk C hRT hr hM hl (okc trivial (okt (okt hs)))
  refine va_aldq (ws := [(xs0 g + a, ce g (cR ci n f))]) C.1 C.2.1 C.2.2.2.2.2.2.2.2.1 (va_P1 hat) 0 t rfl ht (gi_vp (okh hs) h0 h1) hd ?_
  rw [gi_cl (okh hs)]
  show W p g.1 e R s m args below meth c H locs cells slots Z (F0 m (pc + 1) ls (va_rf ((f i.toNat).map _) :: _))
  cases hf : f i.toNat with
  | none => rw [hf] at hk; exact hk
  | some b => rw [hf] at hk; exact hk
theorem go_aast {a n ci b : Nat} {f : Nat → Option Nat} {fs : List GV} {i : Int} (t : Nat) (K : String) (hd : decode y.2.1 pc = .ok (.aastore, 1)) (hm : F a = cR ci n f) (hb : F b = cO ci fs) (hne : fs ≠ []) (ht : (tys g)[t]? = some (xaR g ci, .object K)) (hci : clz[ci]?.map (fun q => q.1) = some K) (h0 : 0 ≤ i) (h1 : i < n) (kk : Go g y d bc bs (pc + 1) L st (N, va_up F a (cR ci n (va_up f i.toNat (some b)))) Q) : Go g y d bc bs pc L (gR b :: gI i :: gR a :: st) (N, F) Q := by
  intro p e R s m args below meth c H locs cells slots ls Z C hRT hr hM hl hs
  obtain ⟨hat, hok⟩ := hM.1.at (a := a) hm neR
  have hnb : cO ci fs ≠ gBad := by
    intro e
    injection e with e; injection e with e; injection e with e1 e2
    exact hne e2
  obtain ⟨hatb, -⟩ := hM.1.at (a := b) hb hnb
  have hi : inR i := okh (okt hs)
  have hK := C.2.2.2.2.2.2.2.2.1
  have hcell : H[xs0 g + a]? = some (arrV (xaR g ci) n (fun j => va_rf ((f j).map (fun a => xs0 g + a)))) := hat
  obtain ⟨r, hr', cellV, g1, g2, g3, -⟩ := hatb
  have hr' : clz[ci]? = some r := hr'
  have hrK : r.1 = K := by rw [hr'] at hci; exact Option.some.inj hci
  have hcls := (hK.1 ci r hr').2
  rw [hrK] at hcls
  obtain ⟨kA, comp, k1, k2, k3, -⟩ := (hK.2 t _ ht).2
  have hcomp : comp = (xD g).1 ci := Option.some.inj (k3.symm.trans hcls.1)
  subst hcomp
  obtain ⟨kC, hkC, -⟩ := hcls.2
  have hin := gi_vp (n := n) hi h0 h1
  have hlt : (Int32.ofInt i).toNatClampNeg < n := Nat.not_le.mp fun q => hin (Or.inr q)
  have hneg : ¬ Int32.ofInt i < 0 := fun q => hin (Or.inl q)
  refine W.aast C.1 C.2.1 hcell (fun q h => by cases h) (fun h => by cases h) k1 k2 rfl hkC ⟨hneg, by show _ < (arrV _ _ _).slots.size; rw [arrV_size]; exact hlt⟩ g1 (fun q h => by rw [g3] at h; cases h) (by rw [g2]; exact hkC) (by rw [g2]; exact va_assign hcls) rfl rfl hd fun H1 e z oq => ?_
  refine kk C hRT hr ⟨hM.1.set hm neR ?_ hok z oq, hM.2.put z oq (by show xs0 g ≤ _; omega)⟩ hl (okt (okt (okt hs)))
  show H1[xs0 g + a]? = some (arrV (xaR g ci) n (fun j => va_rf ((va_up f i.toNat (some b) j).map (fun a => xs0 g + a))))
  rw [e, arrV_store, gi_cl hi]
  congr 2
  funext q
  by_cases hq : q = i.toNat
  · subst hq
    simp [updV, va_up, va_rf]
  · simp [updV, va_up, hq]
theorem go_alenI {a n : Nat} {f : Nat → Int} (hd : decode y.2.1 pc = .ok (.arraylength, 1)) (hm : F a = cI n f) (kk : Go g y d bc bs (pc + 1) L (gI n :: st) (N, F) Q) : Go g y d bc bs pc L (gR a :: st) (N, F) Q := by
  intro p e R s m args below meth c H locs cells slots ls Z C hRT hr hM hl hs
  obtain ⟨hat, hok⟩ := hM.1.at (a := a) hm neI
  have hn : inR (n : Int) := by have := hok.1; unfold inR; omega
  exact va_alen (ws := [(xs0 g + a, ce g (cI n f))]) C.1 C.2.1 C.2.2.2.2.2.2.2.2.1 (va_P1 hat) 0 0 rfl (ty := .int) rfl (v := Int32.ofInt n) (Int32.ofInt_eq_ofNat).symm hd (kk C hRT hr hM hl (okc hn (okt hs)))
theorem go_newI {n : Int} (hd : decode y.2.1 pc = .ok (.newarray .int, 2)) (hw : Cond.arrayClass .int ∈ gw) (h0 : 0 ≤ n) (h1 : n < 100000) (hbc : 1 ≤ bc) (hbs : n.toNat ≤ bs) (kk : Go g y d (bc - 1) (bs - n.toNat) (pc + 2) L (gR N :: st) (N + 1, va_up F N (cI n.toNat (fun _ => 0))) Q) : Go g y d bc bs pc L (gI n :: st) (N, F) Q := by
  intro p e R s m args below meth c H locs cells slots ls Z C hRT hr hM hl hs
  have hn : inR n := okh hs
  refine va_newaK (atype := .int) (N := n.toNat) C.1 C.2.1 (C.2.2.2.2.1 _ hw) rfl hd rfl (by rw [gi_lt0 hn]; omega) (gi_cl hn) (by show n.toNat * 4 ≤ _; omega) (by omega) (by omega) rfl fun H1 cA e1 z1 o1 hAr hNm => ?_
  have hcA : cA = xaI g := by
    have h2 : s.vm.findClass ("[" ++ (FieldType.int).toString) = some (xaI g) := (C.2.2.2.2.2.2.2.2.1.2 0 _ rfl).2
    exact Option.some.inj (hNm.symm.trans h2)
  subst hcA
  have hk := kk (H := H1) (locs := locs) (cells := cells + 1) (slots := slots + n.toNat) C hRT ⟨hr.1, hr.2.1, by omega, by omega⟩ ⟨hM.1.push (by exact e1) ⟨by omega, fun _ => inR_0⟩ z1 o1, hM.2.new (by omega) o1⟩ hl (okc trivial (okt hs))
  have hH : H.size = xs0 g + N := hM.1.1
  rw [hH]
  exact hk
theorem go_newR {n : Int} {idx ci : Nat} (t : Nat) (K : String) (hd : decode y.2.1 pc = .ok (.anewarray idx, 3)) (hw : Cond.classLink y.1.cls idx K ∈ gw) (hao : K ∈ aoL) (ht : (tys g)[t]? = some (xaR g ci, .object K)) (h0 : 0 ≤ n) (h1 : n < 100000) (hbc : 1 ≤ bc) (hbs : n.toNat ≤ bs) (kk : Go g y d (bc - 1) (bs - n.toNat) (pc + 3) L (gR N :: st) (N + 1, va_up F N (cR ci n.toNat (fun _ => none))) Q) : Go g y d bc bs pc L (gI n :: st) (N, F) Q := by
  intro p e R s m args below meth c H locs cells slots ls Z C hRT hr hM hl hs
  have hn : inR n := okh hs
  have hover := C.2.2.2.2.2.2.2.2.2.2.2.1 K hao
  refine W.anew C.1 C.2.1 C.2.2.2.1 (C.2.2.2.2.1 _ hw) (va_AO.use hover) rfl hd rfl (by rw [gi_lt0 hn]; omega) (by rw [gi_cl hn]; omega) (by omega) (by rw [gi_cl hn]; omega) fun cA kA comp f1 f2 f3 f4 => ?_
  rw [gi_cl hn]
  generalize hH1 : H.push ({ cls := cA, slots := Array.replicate n.toNat .null, vm := .none } : Cell) = H1
  have z1 : H1.size = H.size + 1 := by rw [← hH1, Array.size_push]
  have e1 : H1[H.size]? = some (arrV cA n.toNat (fun _ => .null)) := by rw [← hH1, Array.getElem?_push_size, ← arrV_new]
  have o1 : ∀ q : Nat, q < H.size → H1[q]? = H[q]? := fun q hq => by rw [← hH1, Array.getElem?_push, if_neg (Nat.ne_of_lt hq)]
  have hcA : cA = xaR g ci := by
    obtain ⟨kA', comp', -, -, -, h2⟩ := (C.2.2.2.2.2.2.2.2.1.2 t _ ht).2
    exact Option.some.inj (f1.symm.trans h2)
  subst hcA
  have hk := kk (H := H1) (locs := locs) (cells := cells + 1) (slots := slots + n.toNat) C hRT ⟨hr.1, hr.2.1, by omega, by omega⟩ ⟨hM.1.push (by exact e1) (by show n.toNat < 2147483648; omega) z1 o1, hM.2.new (by omega) o1⟩ hl (okc trivial (okt hs))
  have hH : H.size = xs0 g + N := hM.1.1
  rw [hH]
  exact hk
theorem go_new {idx ci n : Nat} {K : String} {T : u_T} {tf : Nat → FieldType} {fs : List GV} (hd : decode y.2.1 pc = .ok (.new idx, 3)) (hc : CLS ci K T n tf) (hw : Cond.classLink y.1.cls idx K ∈ gw) (hw2 : Cond.instantiable K n ∈ gw) (hw3 : Cond.initialized K ∈ gw) (hfs : ∀ g : GX, ∀ j, j < n → defaultValue (tf j) = vp_V (fs.map (rv g)) j) (hne : fs ≠ []) (hok : ∀ v ∈ fs, okV v) (hbc : 1 ≤ bc) (hbs : n ≤ bs) (kk : Go g y d (bc - 1) (bs - n) (pc + 3) L (gR N :: st) (N + 1, va_up F N (cO ci fs)) Q) : Go g y d bc bs pc L st (N, F) Q := by
  intro p e R s m args below meth c H locs cells slots ls Z C hRT hr hM hl hs
  obtain ⟨c1, c2, c3, c4⟩ := hc
  have hts := C.2.2.2.2.1
  have hKn := C.2.2.2.2.2.2.2.2.1.1 ci _ c1
  refine W.newcK C.1 C.2.1 C.2.2.2.1 (hts _ hw) (hts _ hw2) (hts _ hw3) rfl hd (by omega) (by omega) hKn.2.1 rfl fun H1 kC hkC e1 z1 o1 => ?_
  have hk := kk (H := H1) (locs := locs) (cells := cells + 1) (slots := slots + n) C hRT ⟨hr.1, hr.2.1, by omega, by omega⟩ ⟨hM.1.push ⟨_, c1, (u_born tf hts c2 hKn hkC e1 c3).to (hfs g)⟩ hok z1 o1, hM.2.new (by omega) o1⟩ hl (okc trivial hs)
  have hH : H.size = xs0 g + N := hM.1.1
  rw [hH]
  exact hk
theorem go_objInit {idx a : Nat} (hd : decode y.2.1 pc = .ok (.invokespecial idx, 3)) (hw : Cond.methodLink y.1.cls idx Lib.objectInit ∈ gw) (hw2 : Cond.instanceMethod Lib.objectInit ∈ gw) (hw3 : Cond.code Lib.objectInit ⟨#[0xb1]⟩ 1 none ∈ gw) (hst : ((st.map (rv g)).map fun v => v.category).sum ≤ 8) (hdd : 1 ≤ d) (kk : Go g y d bc bs (pc + 3) L st (N, F) Q) : Go g y d bc bs pc L (gR a :: st) (N, F) Q := by
  intro p e R s m args below meth c H locs cells slots ls Z C hRT hr hM hl hs
  have hts := C.2.2.2.2.1
  refine W.objInit C.1 C.2.1 C.2.2.2.1 (hts _ hw) (hts _ hw2) (hts _ hw3) rfl (by rw [C.2.2.1]; exact hl.1) rfl hd (by omega) (by show 2 * 0 + _ + 12 ≤ _; omega) ?_
  exact kk C hRT hr hM hl (okt hs)
end GOHEAP
end
section
/-! ===== constants, copies, calls ===== -/
section GOCONST
variable {g : GX} {y : GY} {d bc bs pc : Nat} {L st : List GV} {N : Nat} {F : Nat → GC} {Q : GV → GM → Prop}
theorem go_gets {idx i : Nat} {q : String × List Int} (hd : decode y.2.1 pc = .ok (.getstatic idx, 3)) (hw : Cond.fieldLink y.1.cls idx "GooseCounty" q.1 "[I" ∈ gw) (hi : stT[i]? = some q) (kk : Go g y d bc bs (pc + 3) L (gS i :: st) (N, F) Q) : Go g y d bc bs pc L st (N, F) Q := by
  intro p e R s m args below meth c H locs cells slots ls Z C hRT hr hM hl hs
  have hE := C.2.2.2.2.2.2.2.2
  exact va_gets C.1 C.2.1 (hE.2.2.2.2.1 i q hi).1 hM.2 C.2.2.2.1 (C.2.2.2.2.1 _ hw) (fun _ h => h) hd (kk C hRT hr hM hl (okc trivial hs))
theorem go_getsN {idx i j : Nat} {q : String × List Int} {w : String × Nat × String × String × String × String} (hd : decode y.2.1 pc = .ok (.getstatic idx, 3)) (hj : nestF[j]? = some w) (hw : w = (y.1.cls, idx, "GooseCounty", q.1, "[I", w.2.2.2.2.2)) (hi : stT[i]? = some q) (kk : Go g y d bc bs (pc + 3) L (gS i :: st) (N, F) Q) : Go g y d bc bs pc L st (N, F) Q := by
  intro p e R s m args below meth c H locs cells slots ls Z C hRT hr hM hl hs
  have hE := C.2.2.2.2.2.2.2.2
  have h1 := hE.2.2.1 w (List.mem_of_getElem? hj)
  rw [hw] at h1
  exact va_getsN C.1 C.2.1 (hE.2.2.2.2.1 i q hi).1 hM.2 C.2.2.2.1 (va_Nw.use rfl h1) (fun _ h => h) hd (kk C hRT hr hM hl (okc trivial hs))
theorem go_getcs {idx : Nat} (hd : decode y.2.1 pc = .ok (.getstatic idx, 3)) (hw : Cond.fieldLink y.1.cls idx "java/lang/String" "COMPACT_STRINGS" "Z" ∈ gw) (kk : Go g y d bc bs (pc + 3) L (gI 1 :: st) (N, F) Q) : Go g y d bc bs pc L st (N, F) Q := by
  intro p e R s m args below meth c H locs cells slots ls Z C hRT hr hM hl hs
  have hE := C.2.2.2.2.2.2.2.2
  exact va_gets C.1 C.2.1 hE.2.2.2.2.2.1 hM.2 C.2.2.2.1 (C.2.2.2.2.1 _ hw) (fun _ h => h) hd (kk C hRT hr hM hl (okc (by unfold okV inR; omega) hs))
theorem go_getsio {idx : Nat} (hd : decode y.2.1 pc = .ok (.getstatic idx, 3)) (hw : Cond.fieldLink y.1.cls idx "jdk/internal/util/Preconditions" "SIOOBE_FORMATTER" "Ljava/util/function/BiFunction;" ∈ gw) (k1 : Go g y d bc bs (pc + 3) L (gN :: st) (N, F) Q) (k2 : Go g y d bc bs (pc + 3) L (gS 40 :: st) (N, F) Q) : Go g y d bc bs pc L st (N, F) Q := by
  intro p e R s m args below meth c H locs cells slots ls Z C hRT hr hM hl hs
  have hE := C.2.2.2.2.2.2.2.2
  rcases hE.2.2.2.2.2.2.2.2.2.2.1 with h | h
  · exact va_gets C.1 C.2.1 h hM.2 C.2.2.2.1 (C.2.2.2.2.1 _ hw) (fun _ h => h) hd (k1 C hRT hr hM hl (okc trivial hs))
  · exact va_gets C.1 C.2.1 h hM.2 C.2.2.2.1 (C.2.2.2.2.1 _ hw) (fun _ h => h) hd (k2 C hRT hr hM hl (okc trivial hs))
theorem stT_in : ∀ q ∈ stT, ∀ x ∈ q.2, -2147483648 ≤ x ∧ x < 2147483648 := by decide +kernel
theorem go_stald {i : Nat} {q : String × List Int} {j : Int} (hd : decode y.2.1 pc = .ok (.iaload, 1)) (hi : stT[i]? = some q) (h0 : 0 ≤ j) (h1 : j < q.2.length) (kk : Go g y d bc bs (pc + 1) L (gI (q.2.getD j.toNat 0) :: st) (N, F) Q) : Go g y d bc bs pc L (gI j :: gS i :: st) (N, F) Q := by
  intro p e R s m args below meth c H locs cells slots ls Z C hRT hr hM hl hs
  have hE := C.2.2.2.2.2.2.2.2
  have hx : inR (q.2.getD j.toNat 0) := by
    rw [List.getD_eq_getElem?_getD, List.getElem?_eq_getElem (by omega)]
    exact stT_in q (List.mem_of_getElem? hi) _ (List.getElem_mem _)
  exact va_ti C.1 C.2.1 (hE.2.2.2.2.1 i q hi).2 hM.2 (gi_vp (okh hs) h0 h1) (by rw [gi_cl (okh hs)]; rfl) hd (kk C hRT hr hM hl (okc hx (okt (okt hs))))
theorem go_scld {j : Int} (hd : decode y.2.1 pc = .ok (.iaload, 1)) (h0 : 0 ≤ j) (h1 : j < xL g) (kk : Go g y d bc bs (pc + 1) L (gI (xX g j.toNat) :: st) (N, F) Q) : Go g y d bc bs pc L (gI j :: gS 30 :: st) (N, F) Q := by
  intro p e R s m args below meth c H locs cells slots ls Z C hRT hr hM hl hs
  have hE := C.2.2.2.2.2.2.2.2
  exact va_ti C.1 C.2.1 hE.2.2.2.2.2.2.2.2.1 hM.2 (gi_vp (okh hs) h0 h1) (by rw [gi_cl (okh hs)]; rfl) hd (kk C hRT hr hM hl (okc (hE.2.2.2.2.2.2.2.2.2.1 _) (okt (okt hs))))
theorem go_sclen (hd : decode y.2.1 pc = .ok (.arraylength, 1)) (h : xL g < 2147483648) (kk : Go g y d bc bs (pc + 1) L (gI (xL g) :: st) (N, F) Q) : Go g y d bc bs pc L (gS 30 :: st) (N, F) Q := by
  intro p e R s m args below meth c H locs cells slots ls Z C hRT hr hM hl hs
  have hE := C.2.2.2.2.2.2.2.2
  exact va_tlen C.1 C.2.1 hE.2.2.2.2.2.2.2.2.1 hM.2 (v := Int32.ofInt (xL g)) (Int32.ofInt_eq_ofNat).symm hd (kk C hRT hr hM hl (okc (by unfold okV inR; omega) (okt hs)))
theorem go_ldcS {idx i : Nat} {tx : String} (hd : decode y.2.1 pc = .ok (.ldc idx, 2)) (hy : y.1.cls = "GooseCounty$Reader") (hi : srT[i]? = some (idx, tx)) (kk : Go g y d bc bs (pc + 2) L (gS (8 + i) :: st) (N, F) Q) : Go g y d bc bs pc L st (N, F) Q := by
  intro p e R s m args below meth c H locs cells slots ls Z C hRT hr hM hl hs
  have hE := C.2.2.2.2.2.2.2.2
  exact va_ldcS C.1 C.2.1 (by rw [← hy]; exact C.2.2.2.1) (hE.2.2.2.2.2.2.2.1 i _ hi) hd (kk C hRT hr hM hl (okc trivial hs))
theorem go_sval {idx i : Nat} (hd : decode y.2.1 pc = .ok (.getfield idx, 3)) (hw : Cond.fieldLink y.1.cls idx "java/lang/String" "value" "[B" ∈ gw) (hi : i < 6) (kk : Go g y d bc bs (pc + 3) L (gS (16 + i) :: st) (N, F) Q) : Go g y d bc bs pc L (gS (8 + i) :: st) (N, F) Q := by
  intro p e R s m args below meth c H locs cells slots ls Z C hRT hr hM hl hs
  have hE := C.2.2.2.2.2.2.2.2
  exact vk_getf C.1 C.2.1 (hE.2.2.2.2.2.2.1.1 i hi).2.2.1 hM.2 C.2.2.2.1 (C.2.2.2.2.1 _ hw) (fun _ h => h) hd (kk C hRT hr hM hl (okc trivial (okt hs)))
theorem go_scod {idx i : Nat} (hd : decode y.2.1 pc = .ok (.getfield idx, 3)) (hw : Cond.fieldLink y.1.cls idx "java/lang/String" "coder" "B" ∈ gw) (hi : i < 6) (kk : Go g y d bc bs (pc + 3) L (gI 0 :: st) (N, F) Q) : Go g y d bc bs pc L (gS (8 + i) :: st) (N, F) Q := by
  intro p e R s m args below meth c H locs cells slots ls Z C hRT hr hM hl hs
  have hE := C.2.2.2.2.2.2.2.2
  exact vk_getf C.1 C.2.1 (hE.2.2.2.2.2.2.1.1 i hi).2.1 hM.2 C.2.2.2.1 (C.2.2.2.2.1 _ hw) (fun _ h => h) hd (kk C hRT hr hM hl (okc inR_0 (okt hs)))
theorem go_slen {i : Nat} (hd : decode y.2.1 pc = .ok (.arraylength, 1)) (hi : i < 6) (hx : srL.getD i 0 < 100) (kk : Go g y d bc bs (pc + 1) L (gI ((srL.getD i 0 : Nat) : Int) :: st) (N, F) Q) : Go g y d bc bs pc L (gS (16 + i) :: st) (N, F) Q := by
  intro p e R s m args below meth c H locs cells slots ls Z C hRT hr hM hl hs
  have hE := C.2.2.2.2.2.2.2.2
  exact va_tlen C.1 C.2.1 (hE.2.2.2.2.2.2.1.1 i hi).2.2.2 hM.2 (v := Int32.ofInt ((srL.getD i 0 : Nat) : Int)) (Int32.ofInt_eq_ofNat).symm hd (kk C hRT hr hM hl (okc (by show inR _; unfold inR; omega) (okt hs)))
theorem go_sbald {i : Nat} {j : Int} (hd : decode y.2.1 pc = .ok (.baload, 1)) (hi : i < 6) (h0 : 0 ≤ j) (h1 : j < ((srL.getD i 0 : Nat) : Int)) (kk : Go g y d bc bs (pc + 1) L (gI (((srB.getD i []).getD j.toNat 0).toInt) :: st) (N, F) Q) : Go g y d bc bs pc L (gI j :: gS (16 + i) :: st) (N, F) Q := by
  intro p e R s m args below meth c H locs cells slots ls Z C hRT hr hM hl hs
  have hE := C.2.2.2.2.2.2.2.2
  refine va_tb C.1 C.2.1 (hE.2.2.2.2.2.2.1.1 i hi).2.2.2 hM.2 (gi_vp (okh hs) h0 h1) (v := .int (Int32.ofInt ((srB.getD i []).getD j.toNat 0).toInt)) (by rw [gi_cl (okh hs), Int32.ofInt_toInt]) hd (kk C hRT hr hM hl (okc (gi_in _) (okt (okt hs))))
end GOCONST
section GOCOPY
variable {g : GX} {y : GY} {d bc bs pc : Nat} {L st : List GV} {N : Nat} {F : Nat → GC} {Q : GV → GM → Prop}
theorem gi_nn {z : Int} (hz : inR z) (h : 0 ≤ z) : (Int32.ofInt z).toInt = ((Int32.ofInt z).toNatClampNeg : Int) := by
  rw [gi_cl hz, gi_to hz]; omega
def acWords (y : GY) (idx : Nat) : Prop := Cond.methodLink y.1.cls idx arraycopyName ∈ gw ∧ Cond.native arraycopyName ∈ gw ∧ Cond.static arraycopyName ∈ gw ∧ Cond.initialized "java/lang/System" ∈ gw
theorem go_acI {idx a b n0 n1 : Nat} {f h : Nat → Int} {sp dp n : Int} (hd : decode y.2.1 pc = .ok (.invokestatic idx, 3)) (hw : acWords y idx) (hm0 : F a = cI n0 f) (hm1 : F b = cI n1 h) (h1 : 0 ≤ sp) (h2 : 0 ≤ dp) (h3 : 0 ≤ n) (h4 : sp + n ≤ n0) (h5 : dp + n ≤ n1) (hst : ((st.map (rv g)).map fun v => v.category).sum ≤ 8) (hdd : 1 ≤ d)
    (kk : Go g y d bc bs (pc + 3) L st (N, va_up F b (cI n1 (va_cpy f h sp.toNat dp.toNat n.toNat))) Q) : Go g y d bc bs pc L (gI n :: gI dp :: gR b :: gI sp :: gR a :: st) (N, F) Q := by
  intro p e R s m args below meth c H locs cells slots ls Z C hRT hr hM hl hs
  obtain ⟨hlink, hnat, hstat, hini⟩ := hw
  have hts := C.2.2.2.2.1
  have hK := C.2.2.2.2.2.2.2.2.1
  obtain ⟨hat0, hok0⟩ := hM.1.at (a := a) hm0 neI
  obtain ⟨hat1, hok1⟩ := hM.1.at (a := b) hm1 neI
  have hn : inR n := okh hs
  have hdp : inR dp := okh (okt hs)
  have hsp : inR sp := okh (okt (okt (okt hs)))
  have hnf : nativeFrameWords "java/lang/System" "arraycopy" 5 ≤ 40 := by decide +kernel
  have hloc : 2 * 0 + ((st.map (rv g)).map fun v => v.category).sum + (nativeFrameWords "java/lang/System" "arraycopy" 5 + 11) ≤ R.locals := by
    have h1 := hr.2.1
    omega
  intro T hT X
  have hc0 : H[xs0 g + a]? = some (arrV (xaI g) n0 (fun j => .int (Int32.ofInt (f j)))) := hat0
  have hc1 : H[xs0 g + b]? = some (arrV (xaI g) n1 (fun j => .int (Int32.ofInt (h j)))) := hat1
  obtain ⟨-, k0, hk0, cm0, hkk0⟩ := (hK.2 0 _ rfl).1 n0 (fun j => .int (Int32.ofInt (f j)))
  obtain ⟨-, k1, hk1, cm1, hkk1⟩ := (hK.2 0 _ rfl).1 n1 (fun j => .int (Int32.ofInt (h j)))
  obtain ⟨vm', X', step⟩ := X.arraycopy C.1 C.2.2.2.1 (hts _ hlink) (hts _ hnat) (hts _ hstat) (hts _ hini) (src := xs0 g + a) (dst := xs0 g + b) (cs := arrV (xaI g) n0 (fun j => .int (Int32.ofInt (f j)))) (cd := arrV (xaI g) n1 (fun j => .int (Int32.ofInt (h j)))) (srcPos := Int32.ofInt sp) (destPos := Int32.ofInt dp) (n := Int32.ofInt n) (by rw [hT]; exact hc0) (by rw [hT]; exact hc1)
    (fun _ h => by cases h) (fun _ h => by cases h) (fun h => by cases h) (fun h => by cases h) hk0 hk1 hkk0 hkk1 rfl (by rw [gi_lt0 hsp]; omega) (by rw [gi_lt0 hdp]; omega) (by rw [gi_lt0 hn]; omega)
    (by rw [gi_to hsp, gi_to hn, arrV_size]; omega)
    (by rw [gi_to hdp, gi_to hn, arrV_size]; omega)
    (fun vm₁ _ i hi => by
      rw [gi_cl hn] at hi
      have e : (arrV (xaI g) n0 (fun j => .int (Int32.ofInt (f j)))).slots.getD ((Int32.ofInt sp).toNatClampNeg + i) .null = .int (Int32.ofInt (f ((Int32.ofInt sp).toNatClampNeg + i))) := by
        rw [Array.getD_eq_getD_getElem?, arrV_read _ _ (by rw [gi_cl hsp]; omega)]
        rfl
      refine ⟨?_, ?_⟩
      · rw [e]; rfl
      · rw [e]; exact trivial)
    (g := F0 m pc ls (.int (Int32.ofInt n) :: .int (Int32.ofInt dp) :: .ref (xs0 g + b) :: .int (Int32.ofInt sp) :: .ref (xs0 g + a) :: st.map (rv g))) rfl (by show ls.size = _; rw [C.2.2.1]; exact hl.1) (rest := st.map (rv g)) rfl (by rw [C.2.1]; exact hd) (by omega) hloc
  have e1 : copied (arrV (xaI g) n0 (fun j => .int (Int32.ofInt (f j)))) (arrV (xaI g) n1 (fun j => .int (Int32.ofInt (h j)))) (Int32.ofInt sp) (Int32.ofInt dp) (Int32.ofInt n) = arrV (xaI g) n1 (fun j => .int (Int32.ofInt (va_cpy f h sp.toNat dp.toNat n.toNat j))) := by
    have := va_copied (fun z : Int => .int (Int32.ofInt z)) (xaI g) (xaI g) (n0 := n0) (n1 := n1) (sp := sp.toNat) (dp := dp.toNat) (n := n.toNat) f h (by omega)
    rw [← this, ← gi_cl hsp, ← gi_cl hdp, ← gi_cl hn]
  rw [e1] at X' step
  have hl1 : xs0 g + b < H.size := (Array.getElem?_eq_some_iff.mp hc1).1
  generalize hcell : arrV (xaI g) n1 (fun j => .int (Int32.ofInt (va_cpy f h sp.toNat dp.toNat n.toNat j))) = cell at X' step e1
  have hheap : ((T.setVm vm').setCell (xs0 g + b) cell).heap = H.setIfInBounds (xs0 g + b) cell := by rw [← hT]; rfl
  have oq : ∀ q : Nat, q ≠ xs0 g + b → (H.setIfInBounds (xs0 g + b) cell)[q]? = H[q]? := fun q hq => by simp [Array.getElem?_setIfInBounds, Ne.symm hq]
  obtain ⟨t, a1, b1⟩ := kk C hRT hr ⟨hM.1.set (H1 := H.setIfInBounds (xs0 g + b) cell) hm1 neI (show (H.setIfInBounds (xs0 g + b) cell)[xs0 g + b]? = some (arrV (xaI g) n1 (fun j => .int (Int32.ofInt (va_cpy f h sp.toNat dp.toNat n.toNat j)))) by rw [hcell]; simp [Array.getElem?_setIfInBounds, hl1]) ⟨hok1.1, fun j => by
      unfold va_cpy
      split
      · exact hok0.2 _
      · exact hok1.2 _⟩ (by simp) oq, ⟨by simp; exact hM.2.1, fun q g1 g2 => by
      rw [oq q (fun e => g2 (by rw [e]; show xs0 g ≤ _; omega))]
      exact hM.2.2.1 q g1 g2, fun q hq => by
      rcases List.mem_append.mp hq with h | h
      · exact hM.2.2.2 q h
      · obtain ⟨z, -, hz⟩ := List.mem_map.mp h
        rw [← hz]
        show xs0 g ≤ xs0 g + b
        omega⟩⟩ hl (okt (okt (okt (okt (okt hs))))) _ hheap X'
  exact ⟨t, step t a1, b1⟩
/-- the cells that such a row names are objects of the class -/
def okR (F : Nat → GC) (ci : Nat) (f : Nat → Option Nat) (lo n : Nat) : Prop := ∀ i : Nat, i < n → ∀ b : Nat, f (lo + i) = some b → ∃ fs : List GV, fs ≠ [] ∧ F b = cO ci fs
theorem neOn {ci : Nat} {fs : List GV} (h : fs ≠ []) : cO ci fs ≠ gBad := by
  intro e
  injection e with e; injection e with e; injection e with e1 e2
  exact h e2
theorem go_acR {idx a b ci n0 n1 : Nat} {f h : Nat → Option Nat} {sp dp n : Int} (t : Nat) (K : String) (hd : decode y.2.1 pc = .ok (.invokestatic idx, 3)) (hw : acWords y idx) (hm0 : F a = cR ci n0 f) (hm1 : F b = cR ci n1 h) (ht : (tys g)[t]? = some (xaR g ci, .object K)) (hci : clz[ci]?.map (fun q => q.1) = some K) (h1 : 0 ≤ sp) (h2 : 0 ≤ dp) (h3 : 0 ≤ n) (h4 : sp + n ≤ n0) (h5 : dp + n ≤ n1) (hel : okR F ci f sp.toNat n.toNat) (hst : ((st.map (rv g)).map fun v => v.category).sum ≤ 8) (hdd : 1 ≤ d)
    (kk : Go g y d bc bs (pc + 3) L st (N, va_up F b (cR ci n1 (va_cpy f h sp.toNat dp.toNat n.toNat))) Q) : Go g y d bc bs pc L (gI n :: gI dp :: gR b :: gI sp :: gR a :: st) (N, F) Q := by
  intro p e R s m args below meth c H locs cells slots ls Z C hRT hr hM hl hs
  obtain ⟨hlink, hnat, hstat, hini⟩ := hw
  have hts := C.2.2.2.2.1
  have hK := C.2.2.2.2.2.2.2.2.1
  obtain ⟨hat0, hok0⟩ := hM.1.at (a := a) hm0 neR
  obtain ⟨hat1, hok1⟩ := hM.1.at (a := b) hm1 neR
  have hn : inR n := okh hs
  have hdp : inR dp := okh (okt hs)
  have hsp : inR sp := okh (okt (okt (okt hs)))
  have hnf : nativeFrameWords "java/lang/System" "arraycopy" 5 ≤ 40 := by decide +kernel
  have hloc : 2 * 0 + ((st.map (rv g)).map fun v => v.category).sum + (nativeFrameWords "java/lang/System" "arraycopy" 5 + 11) ≤ R.locals := by
    have h1 := hr.2.1
    omega
  intro T hT X
  have hc0 : H[xs0 g + a]? = some (arrV (xaR g ci) n0 (fun j => va_rf ((f j).map (fun a => xs0 g + a)))) := hat0
  have hc1 : H[xs0 g + b]? = some (arrV (xaR g ci) n1 (fun j => va_rf ((h j).map (fun a => xs0 g + a)))) := hat1
  obtain ⟨-, k0, hk0, cm0, hkk0⟩ := (hK.2 t _ ht).1 n0 (fun j => va_rf ((f j).map (fun a => xs0 g + a)))
  obtain ⟨-, k1, hk1, cm1, hkk1⟩ := (hK.2 t _ ht).1 n1 (fun j => va_rf ((h j).map (fun a => xs0 g + a)))
  obtain ⟨vm', X', step⟩ := X.arraycopy C.1 C.2.2.2.1 (hts _ hlink) (hts _ hnat) (hts _ hstat) (hts _ hini) (src := xs0 g + a) (dst := xs0 g + b) (cs := arrV (xaR g ci) n0 (fun j => va_rf ((f j).map (fun a => xs0 g + a)))) (cd := arrV (xaR g ci) n1 (fun j => va_rf ((h j).map (fun a => xs0 g + a)))) (srcPos := Int32.ofInt sp) (destPos := Int32.ofInt dp) (n := Int32.ofInt n) (by rw [hT]; exact hc0) (by rw [hT]; exact hc1)
    (fun _ h => by cases h) (fun _ h => by cases h) (fun h => by cases h) (fun h => by cases h) hk0 hk1 hkk0 hkk1 rfl (by rw [gi_lt0 hsp]; omega) (by rw [gi_lt0 hdp]; omega) (by rw [gi_lt0 hn]; omega)
    (by rw [gi_to hsp, gi_to hn, arrV_size]; omega)
    (by rw [gi_to hdp, gi_to hn, arrV_size]; omega)
    (fun vm₁ hal i hi => by
      rw [gi_cl hn] at hi
      have e : (arrV (xaR g ci) n0 (fun j => va_rf ((f j).map (fun a => xs0 g + a)))).slots.getD ((Int32.ofInt sp).toNatClampNeg + i) .null = va_rf ((f (sp.toNat + i)).map (fun a => xs0 g + a)) := by
        rw [Array.getD_eq_getD_getElem?, arrV_read _ _ (by rw [gi_cl hsp]; omega), gi_cl hsp]
        rfl
      rw [e]
      cases hy : f (sp.toNat + i) with
      | none => exact ⟨rfl, trivial⟩
      | some z =>
        obtain ⟨fs, hfs, hz⟩ := hel i hi z hy
        obtain ⟨⟨r, hr', cellV, g1, g2, g3, -⟩, -⟩ := hM.1.at (a := z) hz (neOn hfs)
        have hr' : clz[ci]? = some r := hr'
        have hrK : r.1 = K := by rw [hr'] at hci; exact Option.some.inj hci
        have hcls := (hK.1 ci r hr').2
        rw [hrK] at hcls
        obtain ⟨kA, comp, r1, r2, r3, -⟩ := (hK.2 t _ ht).2
        have hk1' : s.vm.classes[xaR g ci]? = some k1 := hk1
        have hkk1' : k1.kind = .array cm1 (.object K) := hkk1
        cases hk1'.symm.trans r1
        cases hkk1'.symm.trans r2
        have hcomp : cm1 = (xD g).1 ci := Option.some.inj (r3.symm.trans hcls.1)
        subst hcomp
        obtain ⟨kC, hkC, -⟩ := hcls.2
        obtain ⟨kC', hkC', -⟩ := hal.2.2 _ _ hkC
        refine ⟨rfl, cellV, (show T.heap[xs0 g + z]? = some cellV by rw [hT]; exact g1), (fun q h => by rw [g3] at h; cases h), ⟨kC', by rw [g2]; exact hkC'⟩, ⟨kC', hkC'⟩, ?_⟩
        show vm₁.assignable cellV.cls _ = true
        rw [hal.assignable, g2]
        exact va_assign hcls)
    (g := F0 m pc ls (.int (Int32.ofInt n) :: .int (Int32.ofInt dp) :: .ref (xs0 g + b) :: .int (Int32.ofInt sp) :: .ref (xs0 g + a) :: st.map (rv g))) rfl (by show ls.size = _; rw [C.2.2.1]; exact hl.1) (rest := st.map (rv g)) rfl (by rw [C.2.1]; exact hd) (by omega) hloc
  have e1 : copied (arrV (xaR g ci) n0 (fun j => va_rf ((f j).map (fun a => xs0 g + a)))) (arrV (xaR g ci) n1 (fun j => va_rf ((h j).map (fun a => xs0 g + a)))) (Int32.ofInt sp) (Int32.ofInt dp) (Int32.ofInt n) = arrV (xaR g ci) n1 (fun j => va_rf ((va_cpy f h sp.toNat dp.toNat n.toNat j).map (fun a => xs0 g + a))) := by
    have := va_copied (fun z : Option Nat => va_rf (z.map (fun a => xs0 g + a))) (xaR g ci) (xaR g ci) (n0 := n0) (n1 := n1) (sp := sp.toNat) (dp := dp.toNat) (n := n.toNat) f h (by omega)
    rw [← this, ← gi_cl hsp, ← gi_cl hdp, ← gi_cl hn]
  rw [e1] at X' step
  have hl1 : xs0 g + b < H.size := (Array.getElem?_eq_some_iff.mp hc1).1
  generalize hcell : arrV (xaR g ci) n1 (fun j => va_rf ((va_cpy f h sp.toNat dp.toNat n.toNat j).map (fun a => xs0 g + a))) = cell at X' step e1
  have hheap : ((T.setVm vm').setCell (xs0 g + b) cell).heap = H.setIfInBounds (xs0 g + b) cell := by rw [← hT]; rfl
  have oq : ∀ q : Nat, q ≠ xs0 g + b → (H.setIfInBounds (xs0 g + b) cell)[q]? = H[q]? := fun q hq => by simp [Array.getElem?_setIfInBounds, Ne.symm hq]
  obtain ⟨t, a1, b1⟩ := kk C hRT hr ⟨hM.1.set (H1 := H.setIfInBounds (xs0 g + b) cell) hm1 neR (show (H.setIfInBounds (xs0 g + b) cell)[xs0 g + b]? = some (arrV (xaR g ci) n1 (fun j => va_rf ((va_cpy f h sp.toNat dp.toNat n.toNat j).map (fun a => xs0 g + a)))) by rw [hcell]; simp [Array.getElem?_setIfInBounds, hl1]) hok1 (by simp) oq, ⟨by simp; exact hM.2.1, fun q g1 g2 => by
      rw [oq q (fun e => g2 (by rw [e]; show xs0 g ≤ _; omega))]
      exact hM.2.2.1 q g1 g2, fun q hq => by
      rcases List.mem_append.mp hq with h | h
      · exact hM.2.2.2 q h
      · obtain ⟨z, -, hz⟩ := List.mem_map.mp h
        rw [← hz]
        show xs0 g ≤ xs0 g + b
        omega⟩⟩ hl (okt (okt (okt (okt (okt hs))))) _ hheap X'
  exact ⟨t, step t a1, b1⟩
end GOCOPY
/-! ===== contracts ===== -/
def rmG (d bc bs : Nat) : Room := { frames := d, cells := bc, slots := bs, locals := 64 * d }
def PcG (g : GX) (as : List GV) (M : GM) : Array Value → State → Prop := fun v U => v = (as.map (rv g)).toArray ∧ EV g U ∧ MR g M U.heap
def QcG (g : GX) (Q : GV → GM → Prop) : Array Value → State → Outcome → State → Prop := fun _ st o t => ∃ (r : GV) (M : GM), o = .returned (ro g r) ∧ Q r M ∧ okV r ∧ MR g M t.heap ∧ ∀ q : Nat, q < xs0 g → t.heap[q]? = st.heap[q]?
/-- the method, called with these arguments over this memory, comes back with Q; at most bc cells of bs slots come, d frames are enough -/
def CT (g : GX) (y : GY) (d bc bs : Nat) (as : List GV) (M : GM) (Q : GV → GM → Prop) : Prop := (∀ v ∈ as, okV v) → Met g.1 y.1 (wsY y) (rmG d bc bs) (PcG g as M) (QcG g Q) bc bs (fun q => xs0 g ≤ q)
/-- the locals with which a method begins -/
def eL : List GV → List GV
  | [] => []
  | (.inr (.inl x)) :: as => gL x :: gU :: eL as
  | v :: as => v :: eL as
theorem eL_mem {g : GX} : ∀ (as : List GV) (b i : Nat) (v : GV), (eL as)[i]? = some v → v ≠ gU → (b + i, rv g v) ∈ lv_args b (as.map (rv g)) := by
  intro as
  induction as with
  | nil => intro b i v h; simp [eL] at h
  | cons a as ih =>
    intro b i v h hv
    have one : ∀ (hc : (rv g a).category = 1) (he : eL (a :: as) = a :: eL as), (b + i, rv g v) ∈ lv_args b ((a :: as).map (rv g)) := by
      intro hc he
      rw [he] at h
      show _ ∈ (b, rv g a) :: lv_args (if (rv g a).category = 2 then b + 2 else b + 1) (as.map (rv g))
      cases i with
      | zero => simp at h; subst h; exact List.mem_cons_self
      | succ i =>
        simp at h
        refine List.mem_cons_of_mem _ ?_
        rw [if_neg (by omega)]
        have := ih (b + 1) i v h hv
        rwa [show b + 1 + i = b + (i + 1) by omega] at this
    match a, one with
    | .inl x, one => exact one rfl rfl
    | .inr (.inr (.inl none)), one => exact one rfl rfl
    | .inr (.inr (.inl (some x))), one => exact one rfl rfl
    | .inr (.inr (.inr none)), one => exact one rfl rfl
    | .inr (.inr (.inr (some x))), one => exact one rfl rfl
    | .inr (.inl x), _ =>
      have h : (gL x :: gU :: eL as)[i]? = some v := h
      show _ ∈ (b, rv g (gL x)) :: lv_args (if (rv g (gL x)).category = 2 then b + 2 else b + 1) (as.map (rv g))
      match i, h with
      | 0, h => simp at h; subst h; exact List.mem_cons_self
      | 1, h => simp at h; exact absurd h.symm hv
      | i + 2, h =>
        simp at h
        refine List.mem_cons_of_mem _ ?_
        rw [if_pos (show (rv g (gL x)).category = 2 from rfl)]
        have := ih (b + 2) i v h hv
        rwa [show b + 2 + i = b + (i + 2) by omega] at this
theorem eL_ok : ∀ (as : List GV), (∀ v ∈ as, okV v) → ∀ v ∈ eL as, okV v := by
  intro as
  induction as with
  | nil => intro _ v h; cases h
  | cons a as ih =>
    intro h v hv
    have ht := ih (okt h)
    match a, h, hv with
    | .inl x, h, hv => exact okc (okh h) ht v hv
    | .inr (.inr (.inl x)), h, hv => exact okc (okh h) ht v hv
    | .inr (.inr (.inr x)), h, hv =>
      have hv : v ∈ (.inr (.inr (.inr x))) :: eL as := by
        cases x <;> exact hv
      exact okc (okh h) ht v hv
    | .inr (.inl x), h, hv => exact okc (okh h) (okc (v := gU) trivial ht) v hv
theorem ret_of {g : GX} {y : GY} {Q : GV → GM → Prop} {p : Program} {e : Env} {R : Room} {s : State} {m : MethodId} {args : Array Value} {below : List Frame} {meth : Method} {c : Code} (C : CX g y p s m args meth c) :
    RT g y Q p e R s m args below meth c (MQ below (QcG g Q) args s R.cells R.slots (fun q => xs0 g ≤ q)) := by
  intro r M H locs cells slots pc ls st hR hq hM hS hcl hsl
  refine W.widen hcl hsl ?_
  have hlocks := C.2.2.2.2.2.1
  have hz := C.2.2.2.2.2.2.2.2.2.2.2.2.2.2.2.2.2.2.2
  have fr : ∀ t : State, t.heap = H → ∀ q : Nat, q < xs0 g → t.heap[q]? = s.heap[q]? := fun t ht q h => by
    rw [ht]
    exact hS.2.1 q (by omega) (by show ¬ xs0 g ≤ q; omega)
  rcases hR with ⟨x, ty, hd, hr, hn, hx, rfl, rfl⟩ | ⟨hd, hr, rfl, rfl⟩ | ⟨o, rt, hd, hr, hrt, rfl, rfl⟩
  · exact W.zret (v := Int32.ofInt x) (ty := ty) C.1 C.2.1 (C.2.2.2.2.2.2.2.1.trans hr) hn (fun t ht hW => ⟨gI x, M, rfl, hq, hx, by rw [ht]; exact hM, fr t ht⟩) hS.2.2 hd hlocks
  · exact W.vret C.1 C.2.1 (C.2.2.2.2.2.2.2.1.trans hr) (fun t ht hW => ⟨gU, M, rfl, hq, trivial, by rw [ht]; exact hM, fr t ht⟩) hS.2.2 hd hlocks
  · have hv : rv g (gO o) = .null ∨ ∃ a, rv g (gO o) = .ref a := by
      cases o with
      | none => exact Or.inl rfl
      | some a => exact Or.inr ⟨_, rfl⟩
    exact W.aret (v := rv g (gO o)) (rt := rt) C.1 C.2.1 (C.2.2.2.2.2.2.2.1.trans hr) hrt hv (fun t ht hW => ⟨gO o, M, rfl, hq, trivial, by rw [ht]; exact hM, fr t ht⟩) hS.2.2 hd hlocks
/-- the contract out of the walk from 0 -/
theorem CT.of {g : GX} {y : GY} {d bc bs : Nat} {as : List GV} {M : GM} {Q : GV → GM → Prop} (hy : plainName y.1.cls = true) (hn : (lg_sl (as.map (rv g))).length ≤ y.2.2.1)
    (k : Go g y d bc bs 0 (eL as ++ List.replicate (y.2.2.1 - (eL as).length) gU) [] M Q) : CT g y d bc bs as M Q := by
  intro hok
  refine Met.ofW (cc := y.2.1) (maxL := y.2.2.1) (ret := y.2.2.2) hy rfl ?_
  intro p e s m args below meth c s₁ B hml hv
  obtain ⟨rfl, hE, hM⟩ := hv
  have hts := atoms_spec (ws := wsY y) B.pre
  have hown : s.vm.findClass y.1.cls = some m.cls := findClass_of_methodNamed B.named
  have C : CX g y p s m ((as.map (rv g)).toArray) meth c := ⟨B.exec, B.bytes, hml, hown, fun w hw => hts w (List.mem_cons_of_mem _ hw), B.notSynchronized, (name_of_methodNamed B.named B.method).1, B.returns, hE⟩
  have hl := lv_entry (as.map (rv g)) hn
  rw [lg_entry_eq]
  generalize (lg_sl (as.map (rv g)) ++ List.replicate (y.2.2.1 - (lg_sl (as.map (rv g))).length) Slot.unset).toArray = ls at hl ⊢
  have hR := ret_of (Q := Q) (e := e) (R := (headSpec (wsY y) (rmG d bc bs)).room) (below := below) C
  refine k C hR ⟨Nat.le_refl d, Nat.le_refl (64 * d), Nat.le_of_eq (Nat.zero_add bc), Nat.le_of_eq (Nat.zero_add bs)⟩ ⟨hM, va_S.rf⟩ ⟨hl.1, hl.2.1, fun i v hi hv => ?_, fun v hv => ?_⟩ (fun v hv => by cases hv)
  · by_cases hlt : i < (eL as).length
    · rw [List.getElem?_append_left hlt] at hi
      have := eL_mem (g := g) as 0 i v hi hv
      rw [Nat.zero_add] at this
      exact hl.2.2 _ this
    · rw [List.getElem?_append_right (by omega)] at hi
      have := List.mem_of_getElem? hi
      exact absurd (List.eq_of_mem_replicate this) hv
  · rcases List.mem_append.mp hv with h | h
    · exact eL_ok as hok v h
    · rw [List.eq_of_mem_replicate h]; trivial
theorem PcG.blind {g : GX} {as : List GV} {M : GM} : FrameBlind (PcG g as M) := fun a U f mk h => ⟨h.1, h.2.1.calling f mk a, h.2.2⟩
theorem CT.mono {g : GX} {y : GY} {d bc bs : Nat} {as : List GV} {M : GM} {Q Q' : GV → GM → Prop} (h : ∀ r M', Q r M' → Q' r M') (k : CT g y d bc bs as M Q) : CT g y d bc bs as M Q' := by
  intro hok
  refine MetFree.mono (k hok) (fun _ _ h => h) (fun _ _ _ _ _ h => h) (fun a st o t _ hq => ?_)
  obtain ⟨⟨r, M', h1, h2, h3⟩, h4⟩ := hq
  exact ⟨⟨r, M', h1, h r M' h2, h3⟩, h4⟩
/-! ===== calls ===== -/
/-- the words of a method that is called -/
def MW (z : GY) (n : Nat) : Prop := Cond.code z.1 z.2.1 z.2.2.1 z.2.2.2 ∈ gw ∧ Cond.initialized z.1.cls ∈ gw ∧ (z.1.cls ≠ "java/lang/invoke/MethodHandle" ∧ z.1.cls ≠ "java/lang/invoke/VarHandle") ∧ (parseMethodDescriptor z.1.desc).map (fun d => d.parameters.length) = some n ∧ z.2.2.1 ≤ 45
theorem gw_good {w : Cond} (h : w ∈ gw) : (w.onTables && w.keeps) = true ∨ ∃ ty, w = .arrayClass ty := good_of_word (List.mem_filter.mp h).2
theorem wsY_pay {g : GX} {y z : GY} {p : Program} {s : State} {m : MethodId} {args : Array Value} {meth : Method} {c : Code} {n : Nat} (C : CX g y p s m args meth c) (hz : MW z n) : ∀ w ∈ wsY z, ∀ (a' : Array Value) (U : State), s.WarmedH U.vm → w.before a' U = true := by
  intro w hw a' U hW
  rcases List.mem_cons.mp hw with rfl | h
  · exact word_at hW (gw_good hz.1) (C.2.2.2.2.1 _ hz.1)
  · exact word_at hW (gw_good h) (C.2.2.2.2.1 _ h)
theorem callB_ofG {g : GX} {y z : GY} {p : Program} {R : Room} {s : State} {m : MethodId} {args : Array Value} {meth : Method} {c : Code} {n d d' bc bs idx : Nat} (C : CX g y p s m args meth c) (hz : MW z n) (hl : Cond.methodLink y.1.cls idx z.1 ∈ gw) (hd : d' + 1 ≤ d) (hr : d ≤ R.frames ∧ 64 * d ≤ R.locals) :
    CallB R s args y.1.cls idx z.1 z.2.1 z.2.2.1 z.2.2.2 (wsY z) (rmG d' bc bs) bc bs n := by
  refine ⟨rfl, rfl, by show d' + 1 ≤ _; omega, by show 8 + (z.2.2.1 + 11) + 64 * d' ≤ _; have := hz.2.2.2.2; omega, wsY_pay C hz, List.mem_cons_self, C.2.2.2.2.1 _ hz.1, C.2.2.2.2.1 _ hz.2.1, hz.2.2.1, fun sig h => ?_, C.2.2.2.2.1 _ hl⟩
  have h2 := hz.2.2.2.1
  rw [h] at h2
  exact (Option.some.inj h2).symm
theorem callN_ofG {g : GX} {y z : GY} {p : Program} {R : Room} {s : State} {m : MethodId} {args : Array Value} {meth : Method} {c : Code} {n d d' bc bs idx : Nat} {host : String} (C : CX g y p s m args meth c) (hz : MW z n) (hl : (y.1.cls, idx, z.1, host) ∈ nestM) (hd : d' + 1 ≤ d) (hr : d ≤ R.frames ∧ 64 * d ≤ R.locals) :
    va_CN R s args y.1.cls idx z.1 host z.2.1 z.2.2.1 z.2.2.2 (wsY z) (rmG d' bc bs) bc bs n := by
  refine ⟨⟨rfl, rfl, by show d' + 1 ≤ _; omega, by show 8 + (z.2.2.1 + 11) + 64 * d' ≤ _; have := hz.2.2.2.2; omega, wsY_pay C hz, List.mem_cons_self⟩, C.2.2.2.2.1 _ hz.1, C.2.2.2.2.1 _ hz.2.1, hz.2.2.1, fun sig h => ?_, va_Nw.use rfl (C.2.2.2.2.2.2.2.2.2.1 _ hl)⟩
  have h2 := hz.2.2.2.1
  rw [h] at h2
  exact (Option.some.inj h2).symm
section GOCALL
variable {g : GX} {y z : GY} {d bc bs pc : Nat} {L st : List GV} {M : GM} {Q Q1 : GV → GM → Prop} {p : Program} {e : Env} {R : Room} {s : State} {m : MethodId} {args : Array Value} {below : List Frame} {meth : Method} {c : Code} {H : Heap} {locs : List Loc} {cells slots : Nat} {ls : Array Slot} {Z : State → Prop}
/-- behind any call -/
theorem go_behind {bc' bs' : Nat} {st0 : List Value} {a : Array Value} (hb1 : bc' ≤ bc) (hb2 : bs' ≤ bs) (C : CX g y p s m args meth c) (hRT : RT g y Q p e R s m args below meth c Z) (hr : d ≤ R.frames ∧ 64 * d ≤ R.locals ∧ cells + bc ≤ R.cells ∧ slots + bs ≤ R.slots) (hM : MR g M H ∧ va_S (xA g) s.heap H locs) (hl : LH g ls y.2.2.1 L) (hs : ∀ v ∈ st, okV v)
    (run : va_Run p g.1 e R s m args below meth c H locs cells slots bc' bs' (F0 m pc ls st0) (st.map (rv g)) (QcG g Q1 a) (fun q => xs0 g ≤ q))
    (k : ∀ r M', Q1 r M' → okV r → Go g y d (bc - bc') (bs - bs') (pc + 3) L (rp st r) M' Q) : W p g.1 e R s m args below meth c H locs cells slots Z (F0 m pc ls st0) := by
  intro T hT X
  obtain ⟨v, st₀, t, T', Lc, h0, X', hL, e1, e2, ⟨r, M', hv, hq, hok, hM', hlow⟩, step⟩ := run T hT X
  injection hv with hv
  have hz := C.2.2.2.2.2.2.2.2.2.2.2.2.2.2.2.2.2.2.2
  have hS' : va_S (xA g) s.heap T'.heap (locs ++ Lc) := by
    refine ⟨X'.same.2.1, fun q h1 h2 => ?_, fun q hq => ?_⟩
    · have h2' : q < xs0 g := Nat.not_le.mp h2
      rw [e1, hlow q h2', h0]
      exact hM.2.2.1 q h1 h2
    · rcases List.mem_append.mp hq with h | h
      · exact hM.2.2.2 q h
      · exact hL q h
  have hW := k r M' hq hok (H := T'.heap) (locs := locs ++ Lc) (cells := cells + bc') (slots := slots + bs') C hRT ⟨hr.1, hr.2.1, by omega, by omega⟩ ⟨by rw [e1]; exact hM', hS'⟩ hl (by
    match r, hok with
    | .inl x, hok => exact okc hok hs
    | .inr (.inl x), hok => exact okc hok hs
    | .inr (.inr (.inl x)), hok => exact okc hok hs
    | .inr (.inr (.inr none)), hok => exact hs
    | .inr (.inr (.inr (some x))), hok => exact okc hok hs)
  obtain ⟨t2, a1, b1⟩ := hW T' rfl X'
  refine ⟨t2, step t2 ?_, b1⟩
  have hstk : v.toList ++ st.map (rv g) = (rp st r).map (rv g) := by
    rw [hv]
    match r with
    | .inl x => rfl
    | .inr (.inl x) => rfl
    | .inr (.inr (.inl none)) => rfl
    | .inr (.inr (.inl (some x))) => rfl
    | .inr (.inr (.inr none)) => rfl
    | .inr (.inr (.inr (some x))) => rfl
  show Steps _ _ _ (T'.setTop (F0 m (pc + 3) ls (v.toList ++ st.map (rv g)))) t2
  rw [hstk]
  exact a1
/-- what a callee needs to begin -/
theorem go_pre {as : List GV} (C : CX g y p s m args meth c) (hM : MR g M H ∧ va_S (xA g) s.heap H locs) {U : State} (hU : U.heap = H) (hW : s.WarmedH U.vm) : PcG g as M ((as.map (rv g)).toArray) U := by
  have hE := C.2.2.2.2.2.2.2.2
  have hz := hE.2.2.2.2.2.2.2.2.2.2.2
  refine ⟨rfl, hE.moved hW (by rw [hU, hM.1.1]; omega) (fun q hq => ?_), by rw [hU]; exact hM.1⟩
  rw [hU]
  exact hM.2.2.1 q (by omega) (by show ¬ xs0 g ≤ q; omega)
end GOCALL
section GOCALLS
variable {g : GX} {y z : GY} {d bc bs pc : Nat} {L st : List GV} {N : Nat} {F : Nat → GC} {Q Q1 : GV → GM → Prop}
def cat8 (st : List GV) : Prop := ∀ g : GX, ((st.map (rv g)).map fun v => v.category).sum ≤ 8
/-- static, of the own class or another -/
theorem go_callS {idx n d' bc' bs' : Nat} {stk as : List GV} (hd : decode y.2.1 pc = .ok (.invokestatic idx, 3)) (hz : MW z n) (hzs : Cond.static z.1 ∈ gw) (hl : Cond.methodLink y.1.cls idx z.1 ∈ gw) (hct : CT g z d' bc' bs' as (N, F) Q1) (hn : as.length = n) (hdd : d' + 1 ≤ d) (hb1 : bc' ≤ bc) (hb2 : bs' ≤ bs) (hst : stk = as.reverse ++ st) (h8 : cat8 st)
    (k : ∀ r M', Q1 r M' → okV r → Go g y d (bc - bc') (bs - bs') (pc + 3) L (rp st r) M' Q) : Go g y d bc bs pc L stk (N, F) Q := by
  intro p e R s m args below meth c H locs cells slots ls Z C hRT hr hM hl' hs
  subst hst
  have hs' : ∀ v ∈ st, okV v := fun v hv => hs v (List.mem_append_right _ hv)
  have hok : ∀ v ∈ as, okV v := fun v hv => hs v (List.mem_append_left _ (List.mem_reverse.mpr hv))
  refine go_behind hb1 hb2 C hRT hr hM hl' hs' (Q1 := Q1) (va_runS (cc := y.2.1) (nL := y.2.2.1) (Ts := gw) (As := as.map (rv g)) (bytes := z.2.1) (maxL := z.2.2.1) (ret := z.2.2.2) (n := n) (index := idx) (own := y.1.cls) ⟨C.1, C.2.1, C.2.2.1, C.2.2.2.1, C.2.2.2.2.1⟩ (hct hok) ⟨callB_ofG C hz hl hdd ⟨hr.1, hr.2.1⟩, C.2.2.2.2.1 _ hzs⟩ ⟨PcG.blind, fun U hU hW => go_pre C hM hU hW⟩ rfl (by rw [List.length_map]; exact hn) hl'.1 ?_ (lv_room (h8 g)) hd ⟨by omega, by omega⟩) k
  show (as.reverse ++ st).map (rv g) = _
  rw [List.map_append, List.map_reverse]
/-- static, private, a nest mate's -/
theorem go_callSN {idx n d' bc' bs' : Nat} {host : String} {stk as : List GV} (hd : decode y.2.1 pc = .ok (.invokestatic idx, 3)) (hz : MW z n) (hzs : Cond.static z.1 ∈ gw) (hl : (y.1.cls, idx, z.1, host) ∈ nestM) (hct : CT g z d' bc' bs' as (N, F) Q1) (hn : as.length = n) (hdd : d' + 1 ≤ d) (hb1 : bc' ≤ bc) (hb2 : bs' ≤ bs) (hst : stk = as.reverse ++ st) (h8 : cat8 st)
    (k : ∀ r M', Q1 r M' → okV r → Go g y d (bc - bc') (bs - bs') (pc + 3) L (rp st r) M' Q) : Go g y d bc bs pc L stk (N, F) Q := by
  intro p e R s m args below meth c H locs cells slots ls Z C hRT hr hM hl' hs
  subst hst
  have hs' : ∀ v ∈ st, okV v := fun v hv => hs v (List.mem_append_right _ hv)
  have hok : ∀ v ∈ as, okV v := fun v hv => hs v (List.mem_append_left _ (List.mem_reverse.mpr hv))
  refine go_behind hb1 hb2 C hRT hr hM hl' hs' (Q1 := Q1) (va_runSN (cc := y.2.1) (nL := y.2.2.1) (Ts := gw) (As := as.map (rv g)) (bytes := z.2.1) (maxL := z.2.2.1) (ret := z.2.2.2) (n := n) (index := idx) (own := y.1.cls) (host := host) ⟨C.1, C.2.1, C.2.2.1, C.2.2.2.1, C.2.2.2.2.1⟩ (hct hok) ⟨callN_ofG C hz hl hdd ⟨hr.1, hr.2.1⟩, C.2.2.2.2.1 _ hzs, trivial⟩ ⟨PcG.blind, fun U hU hW => go_pre C hM hU hW⟩ rfl (by rw [List.length_map]; exact hn) hl'.1 ?_ (lv_room (h8 g)) hd ⟨by omega, by omega⟩) k
  show (as.reverse ++ st).map (rv g) = _
  rw [List.map_append, List.map_reverse]
/-- of an object of the memory -/
theorem go_callV {idx n d' bc' bs' a ci : Nat} {fs stk as : List GV} (hd : decode y.2.1 pc = .ok (.invokevirtual idx, 3)) (hz : MW z n) (hzi : Cond.instanceMethod z.1 ∈ gw) (hzs : Cond.selects z.1.cls z.1 z.1 ∈ gw) (hl : Cond.methodLink y.1.cls idx z.1 ∈ gw) (hcl : clz[ci]?.map (fun q => q.1) = some z.1.cls) (hm : F a = cO ci fs) (hne : fs ≠ []) (hct : CT g z d' bc' bs' (gR a :: as) (N, F) Q1) (hn : as.length = n) (hdd : d' + 1 ≤ d) (hb1 : bc' ≤ bc) (hb2 : bs' ≤ bs) (hst : stk = as.reverse ++ gR a :: st) (h8 : cat8 st)
    (k : ∀ r M', Q1 r M' → okV r → Go g y d (bc - bc') (bs - bs') (pc + 3) L (rp st r) M' Q) : Go g y d bc bs pc L stk (N, F) Q := by
  intro p e R s m args below meth c H locs cells slots ls Z C hRT hr hM hl' hs
  subst hst
  have hs' : ∀ v ∈ st, okV v := fun v hv => hs v (List.mem_append_right _ (List.mem_cons_of_mem _ hv))
  have hok : ∀ v ∈ gR a :: as, okV v := fun v hv => by
    rcases List.mem_cons.mp hv with rfl | h
    · trivial
    · exact hs v (List.mem_append_left _ (List.mem_reverse.mpr h))
  obtain ⟨hat, -⟩ := hM.1.at (a := a) hm (neOn hne)
  obtain ⟨r, hr', cell, g1, g2, g3, -⟩ := hat
  have hr' : clz[ci]? = some r := hr'
  have hrK : r.1 = z.1.cls := by rw [hr'] at hcl; exact Option.some.inj hcl
  have hcls := (C.2.2.2.2.2.2.2.2.1.1 ci r hr').2
  rw [hrK] at hcls
  refine go_behind hb1 hb2 C hRT hr hM hl' hs' (Q1 := Q1) (va_runV (C := z.1.cls) (b := xs0 g + a) (cc := y.2.1) (nL := y.2.2.1) (Ts := gw) (As := as.map (rv g)) (bytes := z.2.1) (maxL := z.2.2.1) (ret := z.2.2.2) (n := n) (index := idx) (own := y.1.cls) ⟨C.1, C.2.1, C.2.2.1, C.2.2.2.1, C.2.2.2.2.1⟩ (hct hok) ⟨callB_ofG C hz hl hdd ⟨hr.1, hr.2.1⟩, C.2.2.2.2.1 _ hzi, C.2.2.2.2.1 _ hzs⟩ ⟨PcG.blind, ⟨cell, g1, by rw [g3]; rfl, by rw [g2]; exact hcls.1⟩, fun U hU hW => go_pre C hM hU hW⟩ rfl (by rw [List.length_map]; exact hn) hl'.1 ?_ (lv_room (h8 g)) hd ⟨by omega, by omega⟩) k
  show (as.reverse ++ gR a :: st).map (rv g) = _
  rw [List.map_append, List.map_reverse]
  rfl
/-- of a constant text -/
theorem go_callT {idx n d' bc' bs' i : Nat} {stk as : List GV} (hd : decode y.2.1 pc = .ok (.invokevirtual idx, 3)) (hz : MW z n) (hzi : Cond.instanceMethod z.1 ∈ gw) (hzs : Cond.selects z.1.cls z.1 z.1 ∈ gw) (hl : Cond.methodLink y.1.cls idx z.1 ∈ gw) (hcl : z.1.cls = "java/lang/String") (hi : i < 6) (hct : CT g z d' bc' bs' (gS (8 + i) :: as) (N, F) Q1) (hn : as.length = n) (hdd : d' + 1 ≤ d) (hb1 : bc' ≤ bc) (hb2 : bs' ≤ bs) (hst : stk = as.reverse ++ gS (8 + i) :: st) (h8 : cat8 st)
    (k : ∀ r M', Q1 r M' → okV r → Go g y d (bc - bc') (bs - bs') (pc + 3) L (rp st r) M' Q) : Go g y d bc bs pc L stk (N, F) Q := by
  intro p e R s m args below meth c H locs cells slots ls Z C hRT hr hM hl' hs
  subst hst
  have hs' : ∀ v ∈ st, okV v := fun v hv => hs v (List.mem_append_right _ (List.mem_cons_of_mem _ hv))
  have hok : ∀ v ∈ gS (8 + i) :: as, okV v := fun v hv => by
    rcases List.mem_cons.mp hv with rfl | h
    · trivial
    · exact hs v (List.mem_append_left _ (List.mem_reverse.mpr h))
  have hrec := vk_recv C.2.2.2.2.2.2.2.2.2.2.2.2.2.2.1 hi hM.2
  refine go_behind hb1 hb2 C hRT hr hM hl' hs' (Q1 := Q1) (va_runV (C := z.1.cls) (b := xsa g (8 + i)) (cc := y.2.1) (nL := y.2.2.1) (Ts := gw) (As := as.map (rv g)) (bytes := z.2.1) (maxL := z.2.2.1) (ret := z.2.2.2) (n := n) (index := idx) (own := y.1.cls) ⟨C.1, C.2.1, C.2.2.1, C.2.2.2.1, C.2.2.2.2.1⟩ (hct hok) ⟨callB_ofG C hz hl hdd ⟨hr.1, hr.2.1⟩, C.2.2.2.2.1 _ hzi, C.2.2.2.2.1 _ hzs⟩ ⟨PcG.blind, by rw [hcl]; exact hrec, fun U hU hW => go_pre C hM hU hW⟩ rfl (by rw [List.length_map]; exact hn) hl'.1 ?_ (lv_room (h8 g)) hd ⟨by omega, by omega⟩) k
  show (as.reverse ++ gS (8 + i) :: st).map (rv g) = _
  rw [List.map_append, List.map_reverse]
  rfl
/-- a constructor -/
theorem go_callI {idx n d' bc' bs' a : Nat} {stk as : List GV} (hd : decode y.2.1 pc = .ok (.invokespecial idx, 3)) (hz : MW z n) (hzi : Cond.instanceMethod z.1 ∈ gw) (hnm : z.1.name = "<init>") (hrt : z.2.2.2 = none) (hl : Cond.methodLink y.1.cls idx z.1 ∈ gw) (hct : CT g z d' bc' bs' (gR a :: as) (N, F) Q1) (hn : as.length = n) (hdd : d' + 1 ≤ d) (hb1 : bc' ≤ bc) (hb2 : bs' ≤ bs) (hst : stk = as.reverse ++ gR a :: st) (h8 : cat8 st)
    (k : ∀ r M', Q1 r M' → okV r → Go g y d (bc - bc') (bs - bs') (pc + 3) L (rp st r) M' Q) : Go g y d bc bs pc L stk (N, F) Q := by
  intro p e R s m args below meth c H locs cells slots ls Z C hRT hr hM hl' hs
  subst hst
  have hs' : ∀ v ∈ st, okV v := fun v hv => hs v (List.mem_append_right _ (List.mem_cons_of_mem _ hv))
  have hok : ∀ v ∈ gR a :: as, okV v := fun v hv => by
    rcases List.mem_cons.mp hv with rfl | h
    · trivial
    · exact hs v (List.mem_append_left _ (List.mem_reverse.mpr h))
  have hcb := callB_ofG (R := R) (d' := d') (bc := bc') (bs := bs') C hz hl hdd ⟨hr.1, hr.2.1⟩
  rw [hrt] at hcb
  refine go_behind hb1 hb2 C hRT hr hM hl' hs' (Q1 := Q1) (va_runI (b := xs0 g + a) (cc := y.2.1) (nL := y.2.2.1) (Ts := gw) (As := as.map (rv g)) (bytes := z.2.1) (maxL := z.2.2.1) (n := n) (index := idx) (own := y.1.cls) ⟨C.1, C.2.1, C.2.2.1, C.2.2.2.1, C.2.2.2.2.1⟩ (hct hok) ⟨hcb, hnm, C.2.2.2.2.1 _ hzi⟩ ⟨PcG.blind, fun U hU hW => go_pre C hM hU hW⟩ rfl (by rw [List.length_map]; exact hn) hl'.1 ?_ (lv_room (h8 g)) hd ⟨by omega, by omega⟩) k
  show (as.reverse ++ gR a :: st).map (rv g) = _
  rw [List.map_append, List.map_reverse]
  rfl
/-- a nest mate's private constructor -/
theorem go_callIN {idx n d' bc' bs' a : Nat} {host : String} {stk as : List GV} (hd : decode y.2.1 pc = .ok (.invokespecial idx, 3)) (hz : MW z n) (hzi : Cond.instanceMethod z.1 ∈ gw) (hnm : z.1.name = "<init>") (hrt : z.2.2.2 = none) (hl : (y.1.cls, idx, z.1, host) ∈ nestM) (hct : CT g z d' bc' bs' (gR a :: as) (N, F) Q1) (hn : as.length = n) (hdd : d' + 1 ≤ d) (hb1 : bc' ≤ bc) (hb2 : bs' ≤ bs) (hst : stk = as.reverse ++ gR a :: st) (h8 : cat8 st)
    (k : ∀ r M', Q1 r M' → okV r → Go g y d (bc - bc') (bs - bs') (pc + 3) L (rp st r) M' Q) : Go g y d bc bs pc L stk (N, F) Q := by
  intro p e R s m args below meth c H locs cells slots ls Z C hRT hr hM hl' hs
  subst hst
  have hs' : ∀ v ∈ st, okV v := fun v hv => hs v (List.mem_append_right _ (List.mem_cons_of_mem _ hv))
  have hok : ∀ v ∈ gR a :: as, okV v := fun v hv => by
    rcases List.mem_cons.mp hv with rfl | h
    · trivial
    · exact hs v (List.mem_append_left _ (List.mem_reverse.mpr h))
  have hcb := callN_ofG (R := R) (d' := d') (bc := bc') (bs := bs') C hz hl hdd ⟨hr.1, hr.2.1⟩
  rw [hrt] at hcb
  refine go_behind hb1 hb2 C hRT hr hM hl' hs' (Q1 := Q1) (va_runIN (b := xs0 g + a) (cc := y.2.1) (nL := y.2.2.1) (Ts := gw) (As := as.map (rv g)) (bytes := z.2.1) (maxL := z.2.2.1) (n := n) (index := idx) (own := y.1.cls) (host := host) ⟨C.1, C.2.1, C.2.2.1, C.2.2.2.1, C.2.2.2.2.1⟩ (hct hok) ⟨hcb, hnm, C.2.2.2.2.1 _ hzi⟩ ⟨PcG.blind, fun U hU hW => go_pre C hM hU hW⟩ rfl (by rw [List.length_map]; exact hn) hl'.1 ?_ (lv_room (h8 g)) hd ⟨by omega, by omega⟩) k
  show (as.reverse ++ gR a :: st).map (rv g) = _
  rw [List.map_append, List.map_reverse]
  rfl
end GOCALLS
end
