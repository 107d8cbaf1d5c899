section
-- ===== PART A: goes FIRST, ahead of the names: the tables' words, and 'selects' of the private methods out of them =====
/-- a private method of a class that the tables say can be made, by its rows of tables_1 -/
def lw_okq (q : MethodName × Nat) : Prop := (q.1.cls ≠ "java/lang/invoke/MethodHandle" ∧ q.1.cls ≠ "java/lang/invoke/VarHandle") ∧ Cond.instantiable q.1.cls q.2 ∈ tables_1 ∧ Cond.privateMethod q.1 ∈ tables_1 ∧ Cond.instanceMethod q.1 ∈ tables_1
theorem lw_p0 : lw_okq (⟨"NextLight$Tokens", "takeWord", "()V"⟩, 7) := ⟨⟨by decide +kernel, by decide +kernel⟩, List.mem_of_getElem? (i := 58) (by decide +kernel), List.mem_of_getElem? (i := 493) (by decide +kernel), List.mem_of_getElem? (i := 494) (by decide +kernel)⟩
theorem lw_p1 : lw_okq (⟨"NextLight$Tokens", "takeNumber", "()V"⟩, 7) := ⟨⟨by decide +kernel, by decide +kernel⟩, List.mem_of_getElem? (i := 58) (by decide +kernel), List.mem_of_getElem? (i := 497) (by decide +kernel), List.mem_of_getElem? (i := 498) (by decide +kernel)⟩
theorem lw_p2 : lw_okq (⟨"NextLight$Reader", "readPlace", "(LNextLight$Town;)V"⟩, 2) := ⟨⟨by decide +kernel, by decide +kernel⟩, List.mem_of_getElem? (i := 52) (by decide +kernel), List.mem_of_getElem? (i := 561) (by decide +kernel), List.mem_of_getElem? (i := 562) (by decide +kernel)⟩
theorem lw_p3 : lw_okq (⟨"NextLight$Reader", "wrong", "(I)Z"⟩, 2) := ⟨⟨by decide +kernel, by decide +kernel⟩, List.mem_of_getElem? (i := 52) (by decide +kernel), List.mem_of_getElem? (i := 565) (by decide +kernel), List.mem_of_getElem? (i := 566) (by decide +kernel)⟩
theorem lw_p4 : lw_okq (⟨"NextLight$Reader", "isNewName", "(LNextLight$Town;)Z"⟩, 2) := ⟨⟨by decide +kernel, by decide +kernel⟩, List.mem_of_getElem? (i := 52) (by decide +kernel), List.mem_of_getElem? (i := 570) (by decide +kernel), List.mem_of_getElem? (i := 571) (by decide +kernel)⟩
theorem lw_p5 : lw_okq (⟨"NextLight$Reader", "readSign", "(C)Z"⟩, 2) := ⟨⟨by decide +kernel, by decide +kernel⟩, List.mem_of_getElem? (i := 52) (by decide +kernel), List.mem_of_getElem? (i := 586) (by decide +kernel), List.mem_of_getElem? (i := 587) (by decide +kernel)⟩
theorem lw_p6 : lw_okq (⟨"NextLight$Reader", "readLane", "(LNextLight$Town;)V"⟩, 2) := ⟨⟨by decide +kernel, by decide +kernel⟩, List.mem_of_getElem? (i := 52) (by decide +kernel), List.mem_of_getElem? (i := 598) (by decide +kernel), List.mem_of_getElem? (i := 599) (by decide +kernel)⟩
theorem lw_p7 : lw_okq (⟨"NextLight$Reader", "readPlaceName", "(LNextLight$Town;)I"⟩, 2) := ⟨⟨by decide +kernel, by decide +kernel⟩, List.mem_of_getElem? (i := 52) (by decide +kernel), List.mem_of_getElem? (i := 602) (by decide +kernel), List.mem_of_getElem? (i := 603) (by decide +kernel)⟩
theorem lw_p8 : lw_okq (⟨"NextLight$Reader", "readTold", "(I)I"⟩, 2) := ⟨⟨by decide +kernel, by decide +kernel⟩, List.mem_of_getElem? (i := 52) (by decide +kernel), List.mem_of_getElem? (i := 606) (by decide +kernel), List.mem_of_getElem? (i := 607) (by decide +kernel)⟩
theorem lw_p9 : lw_okq (⟨"NextLight$Reader", "isPlaceName", "(LNextLight$Town;)Z"⟩, 2) := ⟨⟨by decide +kernel, by decide +kernel⟩, List.mem_of_getElem? (i := 52) (by decide +kernel), List.mem_of_getElem? (i := 610) (by decide +kernel), List.mem_of_getElem? (i := 611) (by decide +kernel)⟩
theorem lw_p10 : lw_okq (⟨"NextLight$Reader", "readWord", "(I)Z"⟩, 2) := ⟨⟨by decide +kernel, by decide +kernel⟩, List.mem_of_getElem? (i := 52) (by decide +kernel), List.mem_of_getElem? (i := 618) (by decide +kernel), List.mem_of_getElem? (i := 619) (by decide +kernel)⟩
theorem lw_p11 : lw_okq (⟨"NextLight$Reader", "readNumber", "(I)I"⟩, 2) := ⟨⟨by decide +kernel, by decide +kernel⟩, List.mem_of_getElem? (i := 52) (by decide +kernel), List.mem_of_getElem? (i := 626) (by decide +kernel), List.mem_of_getElem? (i := 627) (by decide +kernel)⟩
theorem lw_p12 : lw_okq (⟨"NextLight$Reader", "readWalker", "(LNextLight$Town;)V"⟩, 2) := ⟨⟨by decide +kernel, by decide +kernel⟩, List.mem_of_getElem? (i := 52) (by decide +kernel), List.mem_of_getElem? (i := 634) (by decide +kernel), List.mem_of_getElem? (i := 635) (by decide +kernel)⟩
theorem lw_p13 : lw_okq (⟨"NextLight$Reader", "readKind", "()I"⟩, 2) := ⟨⟨by decide +kernel, by decide +kernel⟩, List.mem_of_getElem? (i := 52) (by decide +kernel), List.mem_of_getElem? (i := 638) (by decide +kernel), List.mem_of_getElem? (i := 639) (by decide +kernel)⟩
theorem lw_p14 : lw_okq (⟨"NextLight$Reader", "readBoy", "(LNextLight$Town;)V"⟩, 2) := ⟨⟨by decide +kernel, by decide +kernel⟩, List.mem_of_getElem? (i := 52) (by decide +kernel), List.mem_of_getElem? (i := 646) (by decide +kernel), List.mem_of_getElem? (i := 647) (by decide +kernel)⟩
theorem lw_p15 : lw_okq (⟨"NextLight$Reader", "readLaw", "(LNextLight$Town;)V"⟩, 2) := ⟨⟨by decide +kernel, by decide +kernel⟩, List.mem_of_getElem? (i := 52) (by decide +kernel), List.mem_of_getElem? (i := 650) (by decide +kernel), List.mem_of_getElem? (i := 651) (by decide +kernel)⟩
def lw_privs_1 : List (MethodName × Nat) := [(⟨"NextLight$Tokens", "takeWord", "()V"⟩, 7), (⟨"NextLight$Tokens", "takeNumber", "()V"⟩, 7), (⟨"NextLight$Reader", "readPlace", "(LNextLight$Town;)V"⟩, 2), (⟨"NextLight$Reader", "wrong", "(I)Z"⟩, 2), (⟨"NextLight$Reader", "isNewName", "(LNextLight$Town;)Z"⟩, 2), (⟨"NextLight$Reader", "readSign", "(C)Z"⟩, 2), (⟨"NextLight$Reader", "readLane", "(LNextLight$Town;)V"⟩, 2), (⟨"NextLight$Reader", "readPlaceName", "(LNextLight$Town;)I"⟩, 2), (⟨"NextLight$Reader", "readTold", "(I)I"⟩, 2), (⟨"NextLight$Reader", "isPlaceName", "(LNextLight$Town;)Z"⟩, 2), (⟨"NextLight$Reader", "readWord", "(I)Z"⟩, 2), (⟨"NextLight$Reader", "readNumber", "(I)I"⟩, 2), (⟨"NextLight$Reader", "readWalker", "(LNextLight$Town;)V"⟩, 2), (⟨"NextLight$Reader", "readKind", "()I"⟩, 2), (⟨"NextLight$Reader", "readBoy", "(LNextLight$Town;)V"⟩, 2), (⟨"NextLight$Reader", "readLaw", "(LNextLight$Town;)V"⟩, 2)]
theorem lw_r1 : ∀ q ∈ lw_privs_1, lw_okq q := List.forall_mem_cons.mpr ⟨lw_p0, List.forall_mem_cons.mpr ⟨lw_p1, List.forall_mem_cons.mpr ⟨lw_p2, List.forall_mem_cons.mpr ⟨lw_p3, List.forall_mem_cons.mpr ⟨lw_p4, List.forall_mem_cons.mpr ⟨lw_p5, List.forall_mem_cons.mpr ⟨lw_p6, List.forall_mem_cons.mpr ⟨lw_p7, List.forall_mem_cons.mpr ⟨lw_p8, List.forall_mem_cons.mpr ⟨lw_p9, List.forall_mem_cons.mpr ⟨lw_p10, List.forall_mem_cons.mpr ⟨lw_p11, List.forall_mem_cons.mpr ⟨lw_p12, List.forall_mem_cons.mpr ⟨lw_p13, List.forall_mem_cons.mpr ⟨lw_p14, List.forall_mem_cons.mpr ⟨lw_p15, fun _ h => absurd h List.not_mem_nil⟩⟩⟩⟩⟩⟩⟩⟩⟩⟩⟩⟩⟩⟩⟩⟩
theorem lw_p16 : lw_okq (⟨"NextLight$Reader", "readLevel", "(LNextLight$Law;II)Z"⟩, 2) := ⟨⟨by decide +kernel, by decide +kernel⟩, List.mem_of_getElem? (i := 52) (by decide +kernel), List.mem_of_getElem? (i := 654) (by decide +kernel), List.mem_of_getElem? (i := 655) (by decide +kernel)⟩
theorem lw_p17 : lw_okq (⟨"NextLight$Reader", "readPart", "(LNextLight$Law;I)Z"⟩, 2) := ⟨⟨by decide +kernel, by decide +kernel⟩, List.mem_of_getElem? (i := 52) (by decide +kernel), List.mem_of_getElem? (i := 658) (by decide +kernel), List.mem_of_getElem? (i := 659) (by decide +kernel)⟩
theorem lw_p18 : lw_okq (⟨"NextLight$Reader", "operationHere", "(I)I"⟩, 2) := ⟨⟨by decide +kernel, by decide +kernel⟩, List.mem_of_getElem? (i := 52) (by decide +kernel), List.mem_of_getElem? (i := 666) (by decide +kernel), List.mem_of_getElem? (i := 667) (by decide +kernel)⟩
theorem lw_p19 : lw_okq (⟨"NextLight$Town", "findWaysOfLength", "(II)V"⟩, 17) := ⟨⟨by decide +kernel, by decide +kernel⟩, List.mem_of_getElem? (i := 327) (by decide +kernel), List.mem_of_getElem? (i := 674) (by decide +kernel), List.mem_of_getElem? (i := 675) (by decide +kernel)⟩
theorem lw_p20 : lw_okq (⟨"NextLight$Town", "laneNearer", "(III)I"⟩, 17) := ⟨⟨by decide +kernel, by decide +kernel⟩, List.mem_of_getElem? (i := 327) (by decide +kernel), List.mem_of_getElem? (i := 686) (by decide +kernel), List.mem_of_getElem? (i := 687) (by decide +kernel)⟩
theorem lw_p21 : lw_okq (⟨"NextLight$Reader", "readEveningLine", "(LNextLight$Lines;LNextLight$Town;)V"⟩, 2) := ⟨⟨by decide +kernel, by decide +kernel⟩, List.mem_of_getElem? (i := 52) (by decide +kernel), List.mem_of_getElem? (i := 711) (by decide +kernel), List.mem_of_getElem? (i := 712) (by decide +kernel)⟩
theorem lw_p22 : lw_okq (⟨"NextLight$Reader", "readWalkerName", "(LNextLight$Town;)I"⟩, 2) := ⟨⟨by decide +kernel, by decide +kernel⟩, List.mem_of_getElem? (i := 52) (by decide +kernel), List.mem_of_getElem? (i := 715) (by decide +kernel), List.mem_of_getElem? (i := 716) (by decide +kernel)⟩
theorem lw_p23 : lw_okq (⟨"NextLight", "keepPast", "()V"⟩, 11) := ⟨⟨by decide +kernel, by decide +kernel⟩, List.mem_of_getElem? (i := 27) (by decide +kernel), List.mem_of_getElem? (i := 778) (by decide +kernel), List.mem_of_getElem? (i := 779) (by decide +kernel)⟩
theorem lw_p24 : lw_okq (⟨"NextLight$Night", "goAlong", "(LNextLight$Town;II)V"⟩, 11) := ⟨⟨by decide +kernel, by decide +kernel⟩, List.mem_of_getElem? (i := 147) (by decide +kernel), List.mem_of_getElem? (i := 800) (by decide +kernel), List.mem_of_getElem? (i := 801) (by decide +kernel)⟩
theorem lw_p25 : lw_okq (⟨"NextLight$Night", "lightUp", "(LNextLight$Town;III)V"⟩, 11) := ⟨⟨by decide +kernel, by decide +kernel⟩, List.mem_of_getElem? (i := 147) (by decide +kernel), List.mem_of_getElem? (i := 804) (by decide +kernel), List.mem_of_getElem? (i := 805) (by decide +kernel)⟩
theorem lw_p26 : lw_okq (⟨"NextLight$Ahead", "tryRow", "(LNextLight$Town;LNextLight$Night;II)V"⟩, 7) := ⟨⟨by decide +kernel, by decide +kernel⟩, List.mem_of_getElem? (i := 295) (by decide +kernel), List.mem_of_getElem? (i := 940) (by decide +kernel), List.mem_of_getElem? (i := 941) (by decide +kernel)⟩
theorem lw_p27 : lw_okq (⟨"NextLight$Ahead", "layRow", "(LNextLight$Town;II)I"⟩, 7) := ⟨⟨by decide +kernel, by decide +kernel⟩, List.mem_of_getElem? (i := 295) (by decide +kernel), List.mem_of_getElem? (i := 944) (by decide +kernel), List.mem_of_getElem? (i := 945) (by decide +kernel)⟩
theorem lw_p28 : lw_okq (⟨"NextLight$Ahead", "darkTimesOfAll", "(LNextLight$Town;II)I"⟩, 7) := ⟨⟨by decide +kernel, by decide +kernel⟩, List.mem_of_getElem? (i := 295) (by decide +kernel), List.mem_of_getElem? (i := 949) (by decide +kernel), List.mem_of_getElem? (i := 950) (by decide +kernel)⟩
theorem lw_p29 : lw_okq (⟨"NextLight$Ahead", "isLightEnough", "(LNextLight$Town;LNextLight$Night;I)Z"⟩, 7) := ⟨⟨by decide +kernel, by decide +kernel⟩, List.mem_of_getElem? (i := 295) (by decide +kernel), List.mem_of_getElem? (i := 961) (by decide +kernel), List.mem_of_getElem? (i := 962) (by decide +kernel)⟩
theorem lw_p30 : lw_okq (⟨"NextLight$Ahead", "areTogether", "(LNextLight$Town;II)Z"⟩, 7) := ⟨⟨by decide +kernel, by decide +kernel⟩, List.mem_of_getElem? (i := 295) (by decide +kernel), List.mem_of_getElem? (i := 987) (by decide +kernel), List.mem_of_getElem? (i := 988) (by decide +kernel)⟩
theorem lw_p31 : lw_okq (⟨"NextLight$Ahead", "litBySet", "(LNextLight$Town;LNextLight$Night;LNextLight$Watched;II)I"⟩, 7) := ⟨⟨by decide +kernel, by decide +kernel⟩, List.mem_of_getElem? (i := 295) (by decide +kernel), List.mem_of_getElem? (i := 1017) (by decide +kernel), List.mem_of_getElem? (i := 1018) (by decide +kernel)⟩
def lw_privs_2 : List (MethodName × Nat) := [(⟨"NextLight$Reader", "readLevel", "(LNextLight$Law;II)Z"⟩, 2), (⟨"NextLight$Reader", "readPart", "(LNextLight$Law;I)Z"⟩, 2), (⟨"NextLight$Reader", "operationHere", "(I)I"⟩, 2), (⟨"NextLight$Town", "findWaysOfLength", "(II)V"⟩, 17), (⟨"NextLight$Town", "laneNearer", "(III)I"⟩, 17), (⟨"NextLight$Reader", "readEveningLine", "(LNextLight$Lines;LNextLight$Town;)V"⟩, 2), (⟨"NextLight$Reader", "readWalkerName", "(LNextLight$Town;)I"⟩, 2), (⟨"NextLight", "keepPast", "()V"⟩, 11), (⟨"NextLight$Night", "goAlong", "(LNextLight$Town;II)V"⟩, 11), (⟨"NextLight$Night", "lightUp", "(LNextLight$Town;III)V"⟩, 11), (⟨"NextLight$Ahead", "tryRow", "(LNextLight$Town;LNextLight$Night;II)V"⟩, 7), (⟨"NextLight$Ahead", "layRow", "(LNextLight$Town;II)I"⟩, 7), (⟨"NextLight$Ahead", "darkTimesOfAll", "(LNextLight$Town;II)I"⟩, 7), (⟨"NextLight$Ahead", "isLightEnough", "(LNextLight$Town;LNextLight$Night;I)Z"⟩, 7), (⟨"NextLight$Ahead", "areTogether", "(LNextLight$Town;II)Z"⟩, 7), (⟨"NextLight$Ahead", "litBySet", "(LNextLight$Town;LNextLight$Night;LNextLight$Watched;II)I"⟩, 7)]
theorem lw_r2 : ∀ q ∈ lw_privs_2, lw_okq q := List.forall_mem_cons.mpr ⟨lw_p16, List.forall_mem_cons.mpr ⟨lw_p17, List.forall_mem_cons.mpr ⟨lw_p18, List.forall_mem_cons.mpr ⟨lw_p19, List.forall_mem_cons.mpr ⟨lw_p20, List.forall_mem_cons.mpr ⟨lw_p21, List.forall_mem_cons.mpr ⟨lw_p22, List.forall_mem_cons.mpr ⟨lw_p23, List.forall_mem_cons.mpr ⟨lw_p24, List.forall_mem_cons.mpr ⟨lw_p25, List.forall_mem_cons.mpr ⟨lw_p26, List.forall_mem_cons.mpr ⟨lw_p27, List.forall_mem_cons.mpr ⟨lw_p28, List.forall_mem_cons.mpr ⟨lw_p29, List.forall_mem_cons.mpr ⟨lw_p30, List.forall_mem_cons.mpr ⟨lw_p31, fun _ h => absurd h List.not_mem_nil⟩⟩⟩⟩⟩⟩⟩⟩⟩⟩⟩⟩⟩⟩⟩⟩
theorem lw_p32 : lw_okq (⟨"NextLight$Ahead", "oilToTheEnd", "(LNextLight$Town;)I"⟩, 7) := ⟨⟨by decide +kernel, by decide +kernel⟩, List.mem_of_getElem? (i := 295) (by decide +kernel), List.mem_of_getElem? (i := 1051) (by decide +kernel), List.mem_of_getElem? (i := 1052) (by decide +kernel)⟩
theorem lw_p33 : lw_okq (⟨"java/lang/Throwable", "fillInStackTrace", "(I)Ljava/lang/Throwable;"⟩, 6) := ⟨⟨by decide +kernel, by decide +kernel⟩, List.mem_of_getElem? (i := 1146) (by decide +kernel), List.mem_of_getElem? (i := 1144) (by decide +kernel), List.mem_of_getElem? (i := 1145) (by decide +kernel)⟩
theorem lw_p34 : lw_okq (⟨"NextLightModel", "lays0", "()V"⟩, 73) := ⟨⟨by decide +kernel, by decide +kernel⟩, List.mem_of_getElem? (i := 1193) (by decide +kernel), List.mem_of_getElem? (i := 1199) (by decide +kernel), List.mem_of_getElem? (i := 1200) (by decide +kernel)⟩
theorem lw_p35 : lw_okq (⟨"NextLightModel", "laneOf", "(III)I"⟩, 73) := ⟨⟨by decide +kernel, by decide +kernel⟩, List.mem_of_getElem? (i := 1193) (by decide +kernel), List.mem_of_getElem? (i := 1203) (by decide +kernel), List.mem_of_getElem? (i := 1204) (by decide +kernel)⟩
theorem lw_p36 : lw_okq (⟨"NextLightModel", "fresh", "()V"⟩, 73) := ⟨⟨by decide +kernel, by decide +kernel⟩, List.mem_of_getElem? (i := 1193) (by decide +kernel), List.mem_of_getElem? (i := 1208) (by decide +kernel), List.mem_of_getElem? (i := 1209) (by decide +kernel)⟩
theorem lw_p37 : lw_okq (⟨"NextLightModel", "readsAll", "()Z"⟩, 73) := ⟨⟨by decide +kernel, by decide +kernel⟩, List.mem_of_getElem? (i := 1193) (by decide +kernel), List.mem_of_getElem? (i := 1445) (by decide +kernel), List.mem_of_getElem? (i := 1446) (by decide +kernel)⟩
theorem lw_p38 : lw_okq (⟨"NextLightModel", "begins", "()V"⟩, 73) := ⟨⟨by decide +kernel, by decide +kernel⟩, List.mem_of_getElem? (i := 1193) (by decide +kernel), List.mem_of_getElem? (i := 1449) (by decide +kernel), List.mem_of_getElem? (i := 1450) (by decide +kernel)⟩
theorem lw_p39 : lw_okq (⟨"NextLightModel", "nextToken", "()V"⟩, 73) := ⟨⟨by decide +kernel, by decide +kernel⟩, List.mem_of_getElem? (i := 1193) (by decide +kernel), List.mem_of_getElem? (i := 1453) (by decide +kernel), List.mem_of_getElem? (i := 1454) (by decide +kernel)⟩
theorem lw_p40 : lw_okq (⟨"NextLightModel", "signAt", "(I)I"⟩, 73) := ⟨⟨by decide +kernel, by decide +kernel⟩, List.mem_of_getElem? (i := 1193) (by decide +kernel), List.mem_of_getElem? (i := 1457) (by decide +kernel), List.mem_of_getElem? (i := 1458) (by decide +kernel)⟩
theorem lw_p41 : lw_okq (⟨"NextLightModel", "isWord", "(J)Z"⟩, 73) := ⟨⟨by decide +kernel, by decide +kernel⟩, List.mem_of_getElem? (i := 1193) (by decide +kernel), List.mem_of_getElem? (i := 1464) (by decide +kernel), List.mem_of_getElem? (i := 1465) (by decide +kernel)⟩
theorem lw_p42 : lw_okq (⟨"NextLightModel", "readsPlace", "()Z"⟩, 73) := ⟨⟨by decide +kernel, by decide +kernel⟩, List.mem_of_getElem? (i := 1193) (by decide +kernel), List.mem_of_getElem? (i := 1468) (by decide +kernel), List.mem_of_getElem? (i := 1469) (by decide +kernel)⟩
theorem lw_p43 : lw_okq (⟨"NextLightModel", "fails", "(I)Z"⟩, 73) := ⟨⟨by decide +kernel, by decide +kernel⟩, List.mem_of_getElem? (i := 1193) (by decide +kernel), List.mem_of_getElem? (i := 1472) (by decide +kernel), List.mem_of_getElem? (i := 1473) (by decide +kernel)⟩
theorem lw_p44 : lw_okq (⟨"NextLightModel", "needsNew", "()Z"⟩, 73) := ⟨⟨by decide +kernel, by decide +kernel⟩, List.mem_of_getElem? (i := 1193) (by decide +kernel), List.mem_of_getElem? (i := 1476) (by decide +kernel), List.mem_of_getElem? (i := 1477) (by decide +kernel)⟩
theorem lw_p45 : lw_okq (⟨"NextLightModel", "isKept", "()Z"⟩, 73) := ⟨⟨by decide +kernel, by decide +kernel⟩, List.mem_of_getElem? (i := 1193) (by decide +kernel), List.mem_of_getElem? (i := 1480) (by decide +kernel), List.mem_of_getElem? (i := 1481) (by decide +kernel)⟩
theorem lw_p46 : lw_okq (⟨"NextLightModel", "placeNamed", "(I)I"⟩, 73) := ⟨⟨by decide +kernel, by decide +kernel⟩, List.mem_of_getElem? (i := 1193) (by decide +kernel), List.mem_of_getElem? (i := 1502) (by decide +kernel), List.mem_of_getElem? (i := 1503) (by decide +kernel)⟩
theorem lw_p47 : lw_okq (⟨"NextLightModel", "walkerNamed", "(I)I"⟩, 73) := ⟨⟨by decide +kernel, by decide +kernel⟩, List.mem_of_getElem? (i := 1193) (by decide +kernel), List.mem_of_getElem? (i := 1506) (by decide +kernel), List.mem_of_getElem? (i := 1507) (by decide +kernel)⟩
def lw_privs_3 : List (MethodName × Nat) := [(⟨"NextLight$Ahead", "oilToTheEnd", "(LNextLight$Town;)I"⟩, 7), (⟨"java/lang/Throwable", "fillInStackTrace", "(I)Ljava/lang/Throwable;"⟩, 6), (⟨"NextLightModel", "lays0", "()V"⟩, 73), (⟨"NextLightModel", "laneOf", "(III)I"⟩, 73), (⟨"NextLightModel", "fresh", "()V"⟩, 73), (⟨"NextLightModel", "readsAll", "()Z"⟩, 73), (⟨"NextLightModel", "begins", "()V"⟩, 73), (⟨"NextLightModel", "nextToken", "()V"⟩, 73), (⟨"NextLightModel", "signAt", "(I)I"⟩, 73), (⟨"NextLightModel", "isWord", "(J)Z"⟩, 73), (⟨"NextLightModel", "readsPlace", "()Z"⟩, 73), (⟨"NextLightModel", "fails", "(I)Z"⟩, 73), (⟨"NextLightModel", "needsNew", "()Z"⟩, 73), (⟨"NextLightModel", "isKept", "()Z"⟩, 73), (⟨"NextLightModel", "placeNamed", "(I)I"⟩, 73), (⟨"NextLightModel", "walkerNamed", "(I)I"⟩, 73)]
theorem lw_r3 : ∀ q ∈ lw_privs_3, lw_okq q := List.forall_mem_cons.mpr ⟨lw_p32, List.forall_mem_cons.mpr ⟨lw_p33, List.forall_mem_cons.mpr ⟨lw_p34, List.forall_mem_cons.mpr ⟨lw_p35, List.forall_mem_cons.mpr ⟨lw_p36, List.forall_mem_cons.mpr ⟨lw_p37, List.forall_mem_cons.mpr ⟨lw_p38, List.forall_mem_cons.mpr ⟨lw_p39, List.forall_mem_cons.mpr ⟨lw_p40, List.forall_mem_cons.mpr ⟨lw_p41, List.forall_mem_cons.mpr ⟨lw_p42, List.forall_mem_cons.mpr ⟨lw_p43, List.forall_mem_cons.mpr ⟨lw_p44, List.forall_mem_cons.mpr ⟨lw_p45, List.forall_mem_cons.mpr ⟨lw_p46, List.forall_mem_cons.mpr ⟨lw_p47, fun _ h => absurd h List.not_mem_nil⟩⟩⟩⟩⟩⟩⟩⟩⟩⟩⟩⟩⟩⟩⟩⟩
theorem lw_p48 : lw_okq (⟨"NextLightModel", "closes", "()Z"⟩, 73) := ⟨⟨by decide +kernel, by decide +kernel⟩, List.mem_of_getElem? (i := 1193) (by decide +kernel), List.mem_of_getElem? (i := 1510) (by decide +kernel), List.mem_of_getElem? (i := 1511) (by decide +kernel)⟩
theorem lw_p49 : lw_okq (⟨"NextLightModel", "isSign", "(I)Z"⟩, 73) := ⟨⟨by decide +kernel, by decide +kernel⟩, List.mem_of_getElem? (i := 1193) (by decide +kernel), List.mem_of_getElem? (i := 1514) (by decide +kernel), List.mem_of_getElem? (i := 1515) (by decide +kernel)⟩
theorem lw_p50 : lw_okq (⟨"NextLightModel", "readsLane", "()Z"⟩, 73) := ⟨⟨by decide +kernel, by decide +kernel⟩, List.mem_of_getElem? (i := 1193) (by decide +kernel), List.mem_of_getElem? (i := 1518) (by decide +kernel), List.mem_of_getElem? (i := 1519) (by decide +kernel)⟩
theorem lw_p51 : lw_okq (⟨"NextLightModel", "needsTwo", "(I)Z"⟩, 73) := ⟨⟨by decide +kernel, by decide +kernel⟩, List.mem_of_getElem? (i := 1193) (by decide +kernel), List.mem_of_getElem? (i := 1522) (by decide +kernel), List.mem_of_getElem? (i := 1523) (by decide +kernel)⟩
theorem lw_p52 : lw_okq (⟨"NextLightModel", "needsPlace", "(I)Z"⟩, 73) := ⟨⟨by decide +kernel, by decide +kernel⟩, List.mem_of_getElem? (i := 1193) (by decide +kernel), List.mem_of_getElem? (i := 1526) (by decide +kernel), List.mem_of_getElem? (i := 1527) (by decide +kernel)⟩
theorem lw_p53 : lw_okq (⟨"NextLightModel", "needsWord", "(J)Z"⟩, 73) := ⟨⟨by decide +kernel, by decide +kernel⟩, List.mem_of_getElem? (i := 1193) (by decide +kernel), List.mem_of_getElem? (i := 1530) (by decide +kernel), List.mem_of_getElem? (i := 1531) (by decide +kernel)⟩
theorem lw_p54 : lw_okq (⟨"NextLightModel", "needsNumber", "(II)Z"⟩, 73) := ⟨⟨by decide +kernel, by decide +kernel⟩, List.mem_of_getElem? (i := 1193) (by decide +kernel), List.mem_of_getElem? (i := 1534) (by decide +kernel), List.mem_of_getElem? (i := 1535) (by decide +kernel)⟩
theorem lw_p55 : lw_okq (⟨"NextLightModel", "readsWalker", "()Z"⟩, 73) := ⟨⟨by decide +kernel, by decide +kernel⟩, List.mem_of_getElem? (i := 1193) (by decide +kernel), List.mem_of_getElem? (i := 1541) (by decide +kernel), List.mem_of_getElem? (i := 1542) (by decide +kernel)⟩
theorem lw_p56 : lw_okq (⟨"NextLightModel", "readsBoy", "()Z"⟩, 73) := ⟨⟨by decide +kernel, by decide +kernel⟩, List.mem_of_getElem? (i := 1193) (by decide +kernel), List.mem_of_getElem? (i := 1545) (by decide +kernel), List.mem_of_getElem? (i := 1546) (by decide +kernel)⟩
theorem lw_p57 : lw_okq (⟨"NextLightModel", "readsBurns", "()Z"⟩, 73) := ⟨⟨by decide +kernel, by decide +kernel⟩, List.mem_of_getElem? (i := 1193) (by decide +kernel), List.mem_of_getElem? (i := 1549) (by decide +kernel), List.mem_of_getElem? (i := 1550) (by decide +kernel)⟩
theorem lw_p58 : lw_okq (⟨"NextLightModel", "reads", "()Z"⟩, 73) := ⟨⟨by decide +kernel, by decide +kernel⟩, List.mem_of_getElem? (i := 1193) (by decide +kernel), List.mem_of_getElem? (i := 1553) (by decide +kernel), List.mem_of_getElem? (i := 1554) (by decide +kernel)⟩
theorem lw_p59 : lw_okq (⟨"NextLightModel", "fact", "()I"⟩, 73) := ⟨⟨by decide +kernel, by decide +kernel⟩, List.mem_of_getElem? (i := 1193) (by decide +kernel), List.mem_of_getElem? (i := 1557) (by decide +kernel), List.mem_of_getElem? (i := 1558) (by decide +kernel)⟩
theorem lw_p60 : lw_okq (⟨"NextLightModel", "puts", "(I)V"⟩, 73) := ⟨⟨by decide +kernel, by decide +kernel⟩, List.mem_of_getElem? (i := 1193) (by decide +kernel), List.mem_of_getElem? (i := 1565) (by decide +kernel), List.mem_of_getElem? (i := 1566) (by decide +kernel)⟩
theorem lw_p61 : lw_okq (⟨"NextLightModel", "lays", "()V"⟩, 73) := ⟨⟨by decide +kernel, by decide +kernel⟩, List.mem_of_getElem? (i := 1193) (by decide +kernel), List.mem_of_getElem? (i := 1569) (by decide +kernel), List.mem_of_getElem? (i := 1570) (by decide +kernel)⟩
theorem lw_p62 : lw_okq (⟨"NextLightModel", "readsLine", "()Z"⟩, 73) := ⟨⟨by decide +kernel, by decide +kernel⟩, List.mem_of_getElem? (i := 1193) (by decide +kernel), List.mem_of_getElem? (i := 1583) (by decide +kernel), List.mem_of_getElem? (i := 1584) (by decide +kernel)⟩
theorem lw_p63 : lw_okq (⟨"NextLightModel", "laysLines", "(II)V"⟩, 73) := ⟨⟨by decide +kernel, by decide +kernel⟩, List.mem_of_getElem? (i := 1193) (by decide +kernel), List.mem_of_getElem? (i := 1587) (by decide +kernel), List.mem_of_getElem? (i := 1588) (by decide +kernel)⟩
def lw_privs_4 : List (MethodName × Nat) := [(⟨"NextLightModel", "closes", "()Z"⟩, 73), (⟨"NextLightModel", "isSign", "(I)Z"⟩, 73), (⟨"NextLightModel", "readsLane", "()Z"⟩, 73), (⟨"NextLightModel", "needsTwo", "(I)Z"⟩, 73), (⟨"NextLightModel", "needsPlace", "(I)Z"⟩, 73), (⟨"NextLightModel", "needsWord", "(J)Z"⟩, 73), (⟨"NextLightModel", "needsNumber", "(II)Z"⟩, 73), (⟨"NextLightModel", "readsWalker", "()Z"⟩, 73), (⟨"NextLightModel", "readsBoy", "()Z"⟩, 73), (⟨"NextLightModel", "readsBurns", "()Z"⟩, 73), (⟨"NextLightModel", "reads", "()Z"⟩, 73), (⟨"NextLightModel", "fact", "()I"⟩, 73), (⟨"NextLightModel", "puts", "(I)V"⟩, 73), (⟨"NextLightModel", "lays", "()V"⟩, 73), (⟨"NextLightModel", "readsLine", "()Z"⟩, 73), (⟨"NextLightModel", "laysLines", "(II)V"⟩, 73)]
theorem lw_r4 : ∀ q ∈ lw_privs_4, lw_okq q := List.forall_mem_cons.mpr ⟨lw_p48, List.forall_mem_cons.mpr ⟨lw_p49, List.forall_mem_cons.mpr ⟨lw_p50, List.forall_mem_cons.mpr ⟨lw_p51, List.forall_mem_cons.mpr ⟨lw_p52, List.forall_mem_cons.mpr ⟨lw_p53, List.forall_mem_cons.mpr ⟨lw_p54, List.forall_mem_cons.mpr ⟨lw_p55, List.forall_mem_cons.mpr ⟨lw_p56, List.forall_mem_cons.mpr ⟨lw_p57, List.forall_mem_cons.mpr ⟨lw_p58, List.forall_mem_cons.mpr ⟨lw_p59, List.forall_mem_cons.mpr ⟨lw_p60, List.forall_mem_cons.mpr ⟨lw_p61, List.forall_mem_cons.mpr ⟨lw_p62, List.forall_mem_cons.mpr ⟨lw_p63, fun _ h => absurd h List.not_mem_nil⟩⟩⟩⟩⟩⟩⟩⟩⟩⟩⟩⟩⟩⟩⟩⟩
theorem lw_p64 : lw_okq (⟨"NextLightModel", "isLane", "(I)Z"⟩, 73) := ⟨⟨by decide +kernel, by decide +kernel⟩, List.mem_of_getElem? (i := 1193) (by decide +kernel), List.mem_of_getElem? (i := 1595) (by decide +kernel), List.mem_of_getElem? (i := 1596) (by decide +kernel)⟩
theorem lw_p65 : lw_okq (⟨"NextLightModel", "isWalker", "(I)Z"⟩, 73) := ⟨⟨by decide +kernel, by decide +kernel⟩, List.mem_of_getElem? (i := 1193) (by decide +kernel), List.mem_of_getElem? (i := 1603) (by decide +kernel), List.mem_of_getElem? (i := 1604) (by decide +kernel)⟩
theorem lw_p66 : lw_okq (⟨"NextLightModel", "isHome", "(I)Z"⟩, 73) := ⟨⟨by decide +kernel, by decide +kernel⟩, List.mem_of_getElem? (i := 1193) (by decide +kernel), List.mem_of_getElem? (i := 1607) (by decide +kernel), List.mem_of_getElem? (i := 1608) (by decide +kernel)⟩
theorem lw_p67 : lw_okq (⟨"NextLightModel", "isOut", "(I)Z"⟩, 73) := ⟨⟨by decide +kernel, by decide +kernel⟩, List.mem_of_getElem? (i := 1193) (by decide +kernel), List.mem_of_getElem? (i := 1611) (by decide +kernel), List.mem_of_getElem? (i := 1612) (by decide +kernel)⟩
theorem lw_p68 : lw_okq (⟨"NextLightModel", "isPlace", "(I)Z"⟩, 73) := ⟨⟨by decide +kernel, by decide +kernel⟩, List.mem_of_getElem? (i := 1193) (by decide +kernel), List.mem_of_getElem? (i := 1619) (by decide +kernel), List.mem_of_getElem? (i := 1620) (by decide +kernel)⟩
theorem lw_p69 : lw_okq (⟨"NextLightModel", "lanesAhead", "(I)I"⟩, 73) := ⟨⟨by decide +kernel, by decide +kernel⟩, List.mem_of_getElem? (i := 1193) (by decide +kernel), List.mem_of_getElem? (i := 1627) (by decide +kernel), List.mem_of_getElem? (i := 1628) (by decide +kernel)⟩
theorem lw_p70 : lw_okq (⟨"NextLightModel", "nextPlace", "(II)I"⟩, 73) := ⟨⟨by decide +kernel, by decide +kernel⟩, List.mem_of_getElem? (i := 1193) (by decide +kernel), List.mem_of_getElem? (i := 1631) (by decide +kernel), List.mem_of_getElem? (i := 1632) (by decide +kernel)⟩
theorem lw_p71 : lw_okq (⟨"NextLightModel", "keeps", "()V"⟩, 73) := ⟨⟨by decide +kernel, by decide +kernel⟩, List.mem_of_getElem? (i := 1193) (by decide +kernel), List.mem_of_getElem? (i := 1639) (by decide +kernel), List.mem_of_getElem? (i := 1640) (by decide +kernel)⟩
theorem lw_p72 : lw_okq (⟨"NextLightModel", "passes", "()I"⟩, 73) := ⟨⟨by decide +kernel, by decide +kernel⟩, List.mem_of_getElem? (i := 1193) (by decide +kernel), List.mem_of_getElem? (i := 1646) (by decide +kernel), List.mem_of_getElem? (i := 1647) (by decide +kernel)⟩
theorem lw_p73 : lw_okq (⟨"NextLightModel", "goesAlong", "(II)V"⟩, 73) := ⟨⟨by decide +kernel, by decide +kernel⟩, List.mem_of_getElem? (i := 1193) (by decide +kernel), List.mem_of_getElem? (i := 1650) (by decide +kernel), List.mem_of_getElem? (i := 1651) (by decide +kernel)⟩
theorem lw_p74 : lw_okq (⟨"NextLightModel", "burnsBy", "(III)I"⟩, 73) := ⟨⟨by decide +kernel, by decide +kernel⟩, List.mem_of_getElem? (i := 1193) (by decide +kernel), List.mem_of_getElem? (i := 1655) (by decide +kernel), List.mem_of_getElem? (i := 1656) (by decide +kernel)⟩
theorem lw_p75 : lw_okq (⟨"NextLightModel", "worked", "(I)I"⟩, 73) := ⟨⟨by decide +kernel, by decide +kernel⟩, List.mem_of_getElem? (i := 1193) (by decide +kernel), List.mem_of_getElem? (i := 1659) (by decide +kernel), List.mem_of_getElem? (i := 1660) (by decide +kernel)⟩
theorem lw_p76 : lw_okq (⟨"NextLightModel", "opens", "(I)V"⟩, 73) := ⟨⟨by decide +kernel, by decide +kernel⟩, List.mem_of_getElem? (i := 1193) (by decide +kernel), List.mem_of_getElem? (i := 1663) (by decide +kernel), List.mem_of_getElem? (i := 1664) (by decide +kernel)⟩
theorem lw_p77 : lw_okq (⟨"NextLightModel", "sums", "(I)V"⟩, 73) := ⟨⟨by decide +kernel, by decide +kernel⟩, List.mem_of_getElem? (i := 1193) (by decide +kernel), List.mem_of_getElem? (i := 1667) (by decide +kernel), List.mem_of_getElem? (i := 1668) (by decide +kernel)⟩
theorem lw_p78 : lw_okq (⟨"NextLightModel", "tests", "(I)V"⟩, 73) := ⟨⟨by decide +kernel, by decide +kernel⟩, List.mem_of_getElem? (i := 1193) (by decide +kernel), List.mem_of_getElem? (i := 1671) (by decide +kernel), List.mem_of_getElem? (i := 1672) (by decide +kernel)⟩
theorem lw_p79 : lw_okq (⟨"NextLightModel", "sends", "(I)V"⟩, 73) := ⟨⟨by decide +kernel, by decide +kernel⟩, List.mem_of_getElem? (i := 1193) (by decide +kernel), List.mem_of_getElem? (i := 1682) (by decide +kernel), List.mem_of_getElem? (i := 1683) (by decide +kernel)⟩
def lw_privs_5 : List (MethodName × Nat) := [(⟨"NextLightModel", "isLane", "(I)Z"⟩, 73), (⟨"NextLightModel", "isWalker", "(I)Z"⟩, 73), (⟨"NextLightModel", "isHome", "(I)Z"⟩, 73), (⟨"NextLightModel", "isOut", "(I)Z"⟩, 73), (⟨"NextLightModel", "isPlace", "(I)Z"⟩, 73), (⟨"NextLightModel", "lanesAhead", "(I)I"⟩, 73), (⟨"NextLightModel", "nextPlace", "(II)I"⟩, 73), (⟨"NextLightModel", "keeps", "()V"⟩, 73), (⟨"NextLightModel", "passes", "()I"⟩, 73), (⟨"NextLightModel", "goesAlong", "(II)V"⟩, 73), (⟨"NextLightModel", "burnsBy", "(III)I"⟩, 73), (⟨"NextLightModel", "worked", "(I)I"⟩, 73), (⟨"NextLightModel", "opens", "(I)V"⟩, 73), (⟨"NextLightModel", "sums", "(I)V"⟩, 73), (⟨"NextLightModel", "tests", "(I)V"⟩, 73), (⟨"NextLightModel", "sends", "(I)V"⟩, 73)]
theorem lw_r5 : ∀ q ∈ lw_privs_5, lw_okq q := List.forall_mem_cons.mpr ⟨lw_p64, List.forall_mem_cons.mpr ⟨lw_p65, List.forall_mem_cons.mpr ⟨lw_p66, List.forall_mem_cons.mpr ⟨lw_p67, List.forall_mem_cons.mpr ⟨lw_p68, List.forall_mem_cons.mpr ⟨lw_p69, List.forall_mem_cons.mpr ⟨lw_p70, List.forall_mem_cons.mpr ⟨lw_p71, List.forall_mem_cons.mpr ⟨lw_p72, List.forall_mem_cons.mpr ⟨lw_p73, List.forall_mem_cons.mpr ⟨lw_p74, List.forall_mem_cons.mpr ⟨lw_p75, List.forall_mem_cons.mpr ⟨lw_p76, List.forall_mem_cons.mpr ⟨lw_p77, List.forall_mem_cons.mpr ⟨lw_p78, List.forall_mem_cons.mpr ⟨lw_p79, fun _ h => absurd h List.not_mem_nil⟩⟩⟩⟩⟩⟩⟩⟩⟩⟩⟩⟩⟩⟩⟩⟩
theorem lw_p80 : lw_okq (⟨"NextLightModel", "waitsMore", "(I)V"⟩, 73) := ⟨⟨by decide +kernel, by decide +kernel⟩, List.mem_of_getElem? (i := 1193) (by decide +kernel), List.mem_of_getElem? (i := 1690) (by decide +kernel), List.mem_of_getElem? (i := 1691) (by decide +kernel)⟩
theorem lw_p81 : lw_okq (⟨"NextLightModel", "canTurn", "(I)Z"⟩, 73) := ⟨⟨by decide +kernel, by decide +kernel⟩, List.mem_of_getElem? (i := 1193) (by decide +kernel), List.mem_of_getElem? (i := 1698) (by decide +kernel), List.mem_of_getElem? (i := 1699) (by decide +kernel)⟩
theorem lw_p82 : lw_okq (⟨"NextLightModel", "goes", "(I)Z"⟩, 73) := ⟨⟨by decide +kernel, by decide +kernel⟩, List.mem_of_getElem? (i := 1193) (by decide +kernel), List.mem_of_getElem? (i := 1710) (by decide +kernel), List.mem_of_getElem? (i := 1711) (by decide +kernel)⟩
theorem lw_p83 : lw_okq (⟨"NextLightModel", "tries", "()V"⟩, 73) := ⟨⟨by decide +kernel, by decide +kernel⟩, List.mem_of_getElem? (i := 1193) (by decide +kernel), List.mem_of_getElem? (i := 1718) (by decide +kernel), List.mem_of_getElem? (i := 1719) (by decide +kernel)⟩
theorem lw_p84 : lw_okq (⟨"NextLightModel", "goesHome", "()V"⟩, 73) := ⟨⟨by decide +kernel, by decide +kernel⟩, List.mem_of_getElem? (i := 1193) (by decide +kernel), List.mem_of_getElem? (i := 1722) (by decide +kernel), List.mem_of_getElem? (i := 1723) (by decide +kernel)⟩
theorem lw_p85 : lw_okq (⟨"NextLightModel", "notes", "(I)V"⟩, 73) := ⟨⟨by decide +kernel, by decide +kernel⟩, List.mem_of_getElem? (i := 1193) (by decide +kernel), List.mem_of_getElem? (i := 1726) (by decide +kernel), List.mem_of_getElem? (i := 1727) (by decide +kernel)⟩
theorem lw_p86 : lw_okq (⟨"NextLightModel", "burning", "()I"⟩, 73) := ⟨⟨by decide +kernel, by decide +kernel⟩, List.mem_of_getElem? (i := 1193) (by decide +kernel), List.mem_of_getElem? (i := 1730) (by decide +kernel), List.mem_of_getElem? (i := 1731) (by decide +kernel)⟩
theorem lw_p87 : lw_okq (⟨"NextLightModel", "areAllHome", "()Z"⟩, 73) := ⟨⟨by decide +kernel, by decide +kernel⟩, List.mem_of_getElem? (i := 1193) (by decide +kernel), List.mem_of_getElem? (i := 1734) (by decide +kernel), List.mem_of_getElem? (i := 1735) (by decide +kernel)⟩
theorem lw_p88 : lw_okq (⟨"NextLightModel", "homes", "()I"⟩, 73) := ⟨⟨by decide +kernel, by decide +kernel⟩, List.mem_of_getElem? (i := 1193) (by decide +kernel), List.mem_of_getElem? (i := 1738) (by decide +kernel), List.mem_of_getElem? (i := 1739) (by decide +kernel)⟩
theorem lw_p89 : lw_okq (⟨"NextLightModel", "delays", "(II)V"⟩, 73) := ⟨⟨by decide +kernel, by decide +kernel⟩, List.mem_of_getElem? (i := 1193) (by decide +kernel), List.mem_of_getElem? (i := 1761) (by decide +kernel), List.mem_of_getElem? (i := 1762) (by decide +kernel)⟩
theorem lw_p90 : lw_okq (⟨"NextLightModel", "isLightBy", "(I)Z"⟩, 73) := ⟨⟨by decide +kernel, by decide +kernel⟩, List.mem_of_getElem? (i := 1193) (by decide +kernel), List.mem_of_getElem? (i := 1769) (by decide +kernel), List.mem_of_getElem? (i := 1770) (by decide +kernel)⟩
theorem lw_p91 : lw_okq (⟨"NextLightModel", "laysLit", "()V"⟩, 73) := ⟨⟨by decide +kernel, by decide +kernel⟩, List.mem_of_getElem? (i := 1193) (by decide +kernel), List.mem_of_getElem? (i := 1797) (by decide +kernel), List.mem_of_getElem? (i := 1798) (by decide +kernel)⟩
theorem lw_p92 : lw_okq (⟨"NextLightModel", "isAsWatched", "(I)Z"⟩, 73) := ⟨⟨by decide +kernel, by decide +kernel⟩, List.mem_of_getElem? (i := 1193) (by decide +kernel), List.mem_of_getElem? (i := 1801) (by decide +kernel), List.mem_of_getElem? (i := 1802) (by decide +kernel)⟩
theorem lw_p93 : lw_okq (⟨"NextLightModel", "draws", "(I)I"⟩, 73) := ⟨⟨by decide +kernel, by decide +kernel⟩, List.mem_of_getElem? (i := 1193) (by decide +kernel), List.mem_of_getElem? (i := 1833) (by decide +kernel), List.mem_of_getElem? (i := 1834) (by decide +kernel)⟩
theorem lw_p94 : lw_okq (⟨"NextLightModel", "laysWatched", "(II)V"⟩, 73) := ⟨⟨by decide +kernel, by decide +kernel⟩, List.mem_of_getElem? (i := 1193) (by decide +kernel), List.mem_of_getElem? (i := 1845) (by decide +kernel), List.mem_of_getElem? (i := 1846) (by decide +kernel)⟩
def lw_privs_6 : List (MethodName × Nat) := [(⟨"NextLightModel", "waitsMore", "(I)V"⟩, 73), (⟨"NextLightModel", "canTurn", "(I)Z"⟩, 73), (⟨"NextLightModel", "goes", "(I)Z"⟩, 73), (⟨"NextLightModel", "tries", "()V"⟩, 73), (⟨"NextLightModel", "goesHome", "()V"⟩, 73), (⟨"NextLightModel", "notes", "(I)V"⟩, 73), (⟨"NextLightModel", "burning", "()I"⟩, 73), (⟨"NextLightModel", "areAllHome", "()Z"⟩, 73), (⟨"NextLightModel", "homes", "()I"⟩, 73), (⟨"NextLightModel", "delays", "(II)V"⟩, 73), (⟨"NextLightModel", "isLightBy", "(I)Z"⟩, 73), (⟨"NextLightModel", "laysLit", "()V"⟩, 73), (⟨"NextLightModel", "isAsWatched", "(I)Z"⟩, 73), (⟨"NextLightModel", "draws", "(I)I"⟩, 73), (⟨"NextLightModel", "laysWatched", "(II)V"⟩, 73)]
theorem lw_r6 : ∀ q ∈ lw_privs_6, lw_okq q := List.forall_mem_cons.mpr ⟨lw_p80, List.forall_mem_cons.mpr ⟨lw_p81, List.forall_mem_cons.mpr ⟨lw_p82, List.forall_mem_cons.mpr ⟨lw_p83, List.forall_mem_cons.mpr ⟨lw_p84, List.forall_mem_cons.mpr ⟨lw_p85, List.forall_mem_cons.mpr ⟨lw_p86, List.forall_mem_cons.mpr ⟨lw_p87, List.forall_mem_cons.mpr ⟨lw_p88, List.forall_mem_cons.mpr ⟨lw_p89, List.forall_mem_cons.mpr ⟨lw_p90, List.forall_mem_cons.mpr ⟨lw_p91, List.forall_mem_cons.mpr ⟨lw_p92, List.forall_mem_cons.mpr ⟨lw_p93, List.forall_mem_cons.mpr ⟨lw_p94, fun _ h => absurd h List.not_mem_nil⟩⟩⟩⟩⟩⟩⟩⟩⟩⟩⟩⟩⟩⟩⟩
def lw_privs : List (MethodName × Nat) := lw_privs_1 ++ (lw_privs_2 ++ (lw_privs_3 ++ (lw_privs_4 ++ (lw_privs_5 ++ (lw_privs_6)))))
def lw_tbl : List Cond := k2_sels lw_privs ++ tables_1
theorem lw_privs_ok : ∀ q ∈ lw_privs, lw_okq q := by
  show ∀ q ∈ lw_privs_1 ++ (lw_privs_2 ++ (lw_privs_3 ++ (lw_privs_4 ++ (lw_privs_5 ++ (lw_privs_6))))), lw_okq q
  exact List.forall_mem_append.mpr ⟨lw_r1, List.forall_mem_append.mpr ⟨lw_r2, List.forall_mem_append.mpr ⟨lw_r3, List.forall_mem_append.mpr ⟨lw_r4, List.forall_mem_append.mpr ⟨lw_r5, lw_r6⟩⟩⟩⟩⟩
end
section
def RX0 : String := "NextLight$Ahead"
def TX0 : u_T := fun k => match k with
  | 0 => ("NextLight$Ahead", "night", "LNextLight$Night;", true)
  | 1 => ("NextLight$Ahead", "tried", "[I", true)
  | 2 => ("NextLight$Ahead", "burning", "[I", true)
  | 3 => ("NextLight$Ahead", "delayKnown", "Z", false)
  | 4 => ("NextLight$Ahead", "delayDark", "I", false)
  | 5 => ("NextLight$Ahead", "delayWaits", "I", false)
  | _ => ("NextLight$Ahead", "delays", "[I", true)
def tyX0 : Nat → FieldType := fun k => match k with
  | 0 => .object "NextLight$Night"
  | 1 => .array .int
  | 2 => .array .int
  | 3 => .boolean
  | 4 => .int
  | 5 => .int
  | _ => .array .int
theorem nmX0 : ∀ a, a < 7 → ∀ b, b < 7 → a ≠ b → (TX0 a).2.1 ≠ (TX0 b).2.1 := by decide +kernel
theorem tyX0_ok : ∀ k, k < 7 → parseFieldDescriptor (TX0 k).2.2.1 = some (tyX0 k) := by decide +kernel
abbrev cX0_init : ByteArray := prog_2_method_1_code
def yX0_init : MethodName := ⟨RX0, "<init>", "()V"⟩
abbrev cX0_forget : ByteArray := prog_2_method_2_code
def yX0_forget : MethodName := ⟨RX0, "forget", "()V"⟩
abbrev cX0_judge : ByteArray := prog_2_method_3_code
def yX0_judge : MethodName := ⟨RX0, "judge", "(LNextLight$Town;LNextLight$Lines;I)I"⟩
abbrev cX0_darkTimesOf : ByteArray := prog_2_method_4_code
def yX0_darkTimesOf : MethodName := ⟨RX0, "darkTimesOf", "(LNextLight$Town;LNextLight$Night;I)I"⟩
abbrev cX0_minutesTillHome : ByteArray := prog_2_method_5_code
def yX0_minutesTillHome : MethodName := ⟨RX0, "minutesTillHome", "(LNextLight$Town;LNextLight$Night;I)I"⟩
abbrev cX0_brightest : ByteArray := prog_2_method_6_code
def yX0_brightest : MethodName := ⟨RX0, "brightest", "(LNextLight$Town;LNextLight$Night;)I"⟩
abbrev cX0_litBehind : ByteArray := prog_2_method_7_code
def yX0_litBehind : MethodName := ⟨RX0, "litBehind", "(LNextLight$Town;LNextLight$Night;II)I"⟩
abbrev cX0_findDelays : ByteArray := prog_2_method_8_code
def yX0_findDelays : MethodName := ⟨RX0, "findDelays", "(LNextLight$Town;LNextLight$Night;)V"⟩
abbrev cX0_tryRow : ByteArray := prog_2_method_9_code
def yX0_tryRow : MethodName := ⟨RX0, "tryRow", "(LNextLight$Town;LNextLight$Night;II)V"⟩
abbrev cX0_layRow : ByteArray := prog_2_method_10_code
def yX0_layRow : MethodName := ⟨RX0, "layRow", "(LNextLight$Town;II)I"⟩
abbrev cX0_darkTimesOfAll : ByteArray := prog_2_method_11_code
def yX0_darkTimesOfAll : MethodName := ⟨RX0, "darkTimesOfAll", "(LNextLight$Town;II)I"⟩
abbrev cX0_fewestBoys : ByteArray := prog_2_method_12_code
def yX0_fewestBoys : MethodName := ⟨RX0, "fewestBoys", "(LNextLight$Town;LNextLight$Night;)I"⟩
abbrev cX0_isLightEnough : ByteArray := prog_2_method_13_code
def yX0_isLightEnough : MethodName := ⟨RX0, "isLightEnough", "(LNextLight$Town;LNextLight$Night;I)Z"⟩
abbrev cX0_neverWalked : ByteArray := prog_2_method_14_code
def yX0_neverWalked : MethodName := ⟨RX0, "neverWalked", "(LNextLight$Town;LNextLight$Night;)I"⟩
abbrev cX0_minutesTillMet : ByteArray := prog_2_method_15_code
def yX0_minutesTillMet : MethodName := ⟨RX0, "minutesTillMet", "(LNextLight$Town;LNextLight$Night;II)I"⟩
abbrev cX0_areTogether : ByteArray := prog_2_method_16_code
def yX0_areTogether : MethodName := ⟨RX0, "areTogether", "(LNextLight$Town;II)Z"⟩
abbrev cX0_bestFollowed : ByteArray := prog_2_method_17_code
def yX0_bestFollowed : MethodName := ⟨RX0, "bestFollowed", "(LNextLight$Town;LNextLight$Night;)I"⟩
abbrev cX0_fittingSets : ByteArray := prog_2_method_18_code
def yX0_fittingSets : MethodName := ⟨RX0, "fittingSets", "(LNextLight$Town;LNextLight$Night;LNextLight$Watched;I)I"⟩
abbrev cX0_laneToWatch : ByteArray := prog_2_method_19_code
def yX0_laneToWatch : MethodName := ⟨RX0, "laneToWatch", "(LNextLight$Town;LNextLight$Night;LNextLight$Watched;I)I"⟩
abbrev cX0_litBySet : ByteArray := prog_2_method_20_code
def yX0_litBySet : MethodName := ⟨RX0, "litBySet", "(LNextLight$Town;LNextLight$Night;LNextLight$Watched;II)I"⟩
abbrev cX0_oilWithout : ByteArray := prog_2_method_21_code
def yX0_oilWithout : MethodName := ⟨RX0, "oilWithout", "(LNextLight$Town;LNextLight$Night;I)I"⟩
abbrev cX0_oilToTheEnd : ByteArray := prog_2_method_22_code
def yX0_oilToTheEnd : MethodName := ⟨RX0, "oilToTheEnd", "(LNextLight$Town;)I"⟩
abbrev cX0_darkTimesIfLonger : ByteArray := prog_2_method_23_code
def yX0_darkTimesIfLonger : MethodName := ⟨RX0, "darkTimesIfLonger", "(LNextLight$Town;LNextLight$Night;I)I"⟩
abbrev cX0_drawnNights : ByteArray := prog_2_method_24_code
def yX0_drawnNights : MethodName := ⟨RX0, "drawnNights", "(LNextLight$Town;III)I"⟩
def RX1 : String := "NextLight$Law"
def TX1 : u_T := fun k => match k with
  | 0 => ("NextLight$Law", "steps", "[S", true)
  | 1 => ("NextLight$Law", "held", "[I", true)
  | _ => ("NextLight$Law", "length", "I", false)
def tyX1 : Nat → FieldType := fun k => match k with
  | 0 => .array .short
  | 1 => .array .int
  | _ => .int
theorem nmX1 : ∀ a, a < 3 → ∀ b, b < 3 → a ≠ b → (TX1 a).2.1 ≠ (TX1 b).2.1 := by decide +kernel
theorem tyX1_ok : ∀ k, k < 3 → parseFieldDescriptor (TX1 k).2.2.1 = some (tyX1 k) := by decide +kernel
abbrev cX1_init : ByteArray := prog_3_method_1_code
def yX1_init : MethodName := ⟨RX1, "<init>", "()V"⟩
abbrev cX1_add : ByteArray := prog_3_method_2_code
def yX1_add : MethodName := ⟨RX1, "add", "(I)V"⟩
abbrev cX1_tells : ByteArray := prog_3_method_3_code
def yX1_tells : MethodName := ⟨RX1, "tells", "(IIII)I"⟩
abbrev cX1_joined : ByteArray := prog_3_method_4_code
def yX1_joined : MethodName := ⟨RX1, "joined", "(III)I"⟩
def RX2 : String := "NextLight$Lines"
def TX2 : u_T := fun k => match k with
  | 0 => ("NextLight$Lines", "many", "I", false)
  | 1 => ("NextLight$Lines", "verbs", "[B", true)
  | 2 => ("NextLight$Lines", "firsts", "[B", true)
  | _ => ("NextLight$Lines", "seconds", "[B", true)
def tyX2 : Nat → FieldType := fun k => match k with
  | 0 => .int
  | 1 => .array .byte
  | 2 => .array .byte
  | _ => .array .byte
theorem nmX2 : ∀ a, a < 4 → ∀ b, b < 4 → a ≠ b → (TX2 a).2.1 ≠ (TX2 b).2.1 := by decide +kernel
theorem tyX2_ok : ∀ k, k < 4 → parseFieldDescriptor (TX2 k).2.2.1 = some (tyX2 k) := by decide +kernel
abbrev cX2_init : ByteArray := prog_4_method_1_code
def yX2_init : MethodName := ⟨RX2, "<init>", "()V"⟩
abbrev cX2_add : ByteArray := prog_4_method_2_code
def yX2_add : MethodName := ⟨RX2, "add", "(III)V"⟩
abbrev cX2_copyFrom : ByteArray := prog_4_method_3_code
def yX2_copyFrom : MethodName := ⟨RX2, "copyFrom", "(LNextLight$Lines;)V"⟩
def RX3 : String := "NextLight$Mark"
def TX3 : u_T := fun k => match k with
  | 0 => ("NextLight$Mark", "laid", "Z", false)
  | 1 => ("NextLight$Mark", "night", "LNextLight$Night;", true)
  | 2 => ("NextLight$Mark", "lines", "LNextLight$Lines;", true)
  | _ => ("NextLight$Mark", "watched", "LNextLight$Watched;", true)
def tyX3 : Nat → FieldType := fun k => match k with
  | 0 => .boolean
  | 1 => .object "NextLight$Night"
  | 2 => .object "NextLight$Lines"
  | _ => .object "NextLight$Watched"
theorem nmX3 : ∀ a, a < 4 → ∀ b, b < 4 → a ≠ b → (TX3 a).2.1 ≠ (TX3 b).2.1 := by decide +kernel
theorem tyX3_ok : ∀ k, k < 4 → parseFieldDescriptor (TX3 k).2.2.1 = some (tyX3 k) := by decide +kernel
abbrev cX3_init : ByteArray := prog_5_method_1_code
def yX3_init : MethodName := ⟨RX3, "<init>", "()V"⟩
abbrev cX3_lay : ByteArray := prog_5_method_2_code
def yX3_lay : MethodName := ⟨RX3, "lay", "(LNextLight$Night;LNextLight$Lines;LNextLight$Watched;)V"⟩
def RX4 : String := "NextLight$Night"
def TX4 : u_T := fun k => match k with
  | 0 => ("NextLight$Night", "time", "I", false)
  | 1 => ("NextLight$Night", "paid", "I", false)
  | 2 => ("NextLight$Night", "darkTimes", "I", false)
  | 3 => ("NextLight$Night", "lit", "[I", true)
  | 4 => ("NextLight$Night", "bases", "[I", true)
  | 5 => ("NextLight$Night", "goals", "[I", true)
  | 6 => ("NextLight$Night", "since", "[I", true)
  | 7 => ("NextLight$Night", "gone", "[I", true)
  | 8 => ("NextLight$Night", "feet", "[I", true)
  | 9 => ("NextLight$Night", "inDark", "I", false)
  | _ => ("NextLight$Night", "walked", "I", false)
def tyX4 : Nat → FieldType := fun k => match k with
  | 0 => .int
  | 1 => .int
  | 2 => .int
  | 3 => .array .int
  | 4 => .array .int
  | 5 => .array .int
  | 6 => .array .int
  | 7 => .array .int
  | 8 => .array .int
  | 9 => .int
  | _ => .int
theorem nmX4 : ∀ a, a < 11 → ∀ b, b < 11 → a ≠ b → (TX4 a).2.1 ≠ (TX4 b).2.1 := by decide +kernel
theorem tyX4_ok : ∀ k, k < 11 → parseFieldDescriptor (TX4 k).2.2.1 = some (tyX4 k) := by decide +kernel
abbrev cX4_init : ByteArray := prog_6_method_1_code
def yX4_init : MethodName := ⟨RX4, "<init>", "()V"⟩
abbrev cX4_begin : ByteArray := prog_6_method_2_code
def yX4_begin : MethodName := ⟨RX4, "begin", "(LNextLight$Town;)V"⟩
abbrev cX4_copyFrom : ByteArray := prog_6_method_3_code
def yX4_copyFrom : MethodName := ⟨RX4, "copyFrom", "(LNextLight$Night;)V"⟩
abbrev cX4_isHome : ByteArray := prog_6_method_4_code
def yX4_isHome : MethodName := ⟨RX4, "isHome", "(LNextLight$Town;I)Z"⟩
abbrev cX4_isOut : ByteArray := prog_6_method_5_code
def yX4_isOut : MethodName := ⟨RX4, "isOut", "(LNextLight$Town;I)Z"⟩
abbrev cX4_isAllHome : ByteArray := prog_6_method_6_code
def yX4_isAllHome : MethodName := ⟨RX4, "isAllHome", "(LNextLight$Town;)Z"⟩
abbrev cX4_homeBits : ByteArray := prog_6_method_7_code
def yX4_homeBits : MethodName := ⟨RX4, "homeBits", "(LNextLight$Town;)I"⟩
abbrev cX4_litBits : ByteArray := prog_6_method_8_code
def yX4_litBits : MethodName := ⟨RX4, "litBits", "(LNextLight$Town;)I"⟩
abbrev cX4_placeOf : ByteArray := prog_6_method_9_code
def yX4_placeOf : MethodName := ⟨RX4, "placeOf", "(LNextLight$Town;I)I"⟩
abbrev cX4_laneAhead : ByteArray := prog_6_method_10_code
def yX4_laneAhead : MethodName := ⟨RX4, "laneAhead", "(LNextLight$Town;I)I"⟩
abbrev cX4_pass : ByteArray := prog_6_method_11_code
def yX4_pass : MethodName := ⟨RX4, "pass", "(LNextLight$Town;I)V"⟩
abbrev cX4_goAlong : ByteArray := prog_6_method_12_code
def yX4_goAlong : MethodName := ⟨RX4, "goAlong", "(LNextLight$Town;II)V"⟩
abbrev cX4_lightUp : ByteArray := prog_6_method_13_code
def yX4_lightUp : MethodName := ⟨RX4, "lightUp", "(LNextLight$Town;III)V"⟩
abbrev cX4_sendBoy : ByteArray := prog_6_method_14_code
def yX4_sendBoy : MethodName := ⟨RX4, "sendBoy", "(LNextLight$Town;I)V"⟩
abbrev cX4_putOff : ByteArray := prog_6_method_15_code
def yX4_putOff : MethodName := ⟨RX4, "putOff", "(I)V"⟩
abbrev cX4_canTurn : ByteArray := prog_6_method_16_code
def yX4_canTurn : MethodName := ⟨RX4, "canTurn", "(LNextLight$Town;I)Z"⟩
abbrev cX4_turn : ByteArray := prog_6_method_17_code
def yX4_turn : MethodName := ⟨RX4, "turn", "(LNextLight$Town;I)V"⟩
abbrev cX4_bringHome : ByteArray := prog_6_method_18_code
def yX4_bringHome : MethodName := ⟨RX4, "bringHome", "(I)V"⟩
abbrev cX4_obey : ByteArray := prog_6_method_19_code
def yX4_obey : MethodName := ⟨RX4, "obey", "(LNextLight$Town;III)Z"⟩
def RX5 : String := "NextLight$Past"
def TX5 : u_T := fun k => match k with
  | 0 => ("NextLight$Past", "nights", "[LNextLight$Night;", true)
  | 1 => ("NextLight$Past", "many", "I", false)
  | _ => ("NextLight$Past", "top", "I", false)
def tyX5 : Nat → FieldType := fun k => match k with
  | 0 => .array (.object "NextLight$Night")
  | 1 => .int
  | _ => .int
theorem nmX5 : ∀ a, a < 3 → ∀ b, b < 3 → a ≠ b → (TX5 a).2.1 ≠ (TX5 b).2.1 := by decide +kernel
theorem tyX5_ok : ∀ k, k < 3 → parseFieldDescriptor (TX5 k).2.2.1 = some (tyX5 k) := by decide +kernel
abbrev cX5_init : ByteArray := prog_7_method_1_code
def yX5_init : MethodName := ⟨RX5, "<init>", "()V"⟩
abbrev cX5_forget : ByteArray := prog_7_method_2_code
def yX5_forget : MethodName := ⟨RX5, "forget", "()V"⟩
abbrev cX5_keep : ByteArray := prog_7_method_3_code
def yX5_keep : MethodName := ⟨RX5, "keep", "(LNextLight$Night;)V"⟩
abbrev cX5_bringBack : ByteArray := prog_7_method_4_code
def yX5_bringBack : MethodName := ⟨RX5, "bringBack", "(LNextLight$Night;)Z"⟩
def RX6 : String := "NextLight$Reader"
def TX6 : u_T := fun k => match k with
  | 0 => ("NextLight$Reader", "tokens", "LNextLight$Tokens;", true)
  | _ => ("NextLight$Reader", "fault", "I", false)
def tyX6 : Nat → FieldType := fun k => match k with
  | 0 => .object "NextLight$Tokens"
  | _ => .int
theorem nmX6 : ∀ a, a < 2 → ∀ b, b < 2 → a ≠ b → (TX6 a).2.1 ≠ (TX6 b).2.1 := by decide +kernel
theorem tyX6_ok : ∀ k, k < 2 → parseFieldDescriptor (TX6 k).2.2.1 = some (tyX6 k) := by decide +kernel
abbrev cX6_init : ByteArray := prog_8_method_1_code
def yX6_init : MethodName := ⟨RX6, "<init>", "(LNextLight$Tape;)V"⟩
abbrev cX6_readTown : ByteArray := prog_8_method_2_code
def yX6_readTown : MethodName := ⟨RX6, "readTown", "(LNextLight$Town;)I"⟩
abbrev cX6_readEvening : ByteArray := prog_8_method_3_code
def yX6_readEvening : MethodName := ⟨RX6, "readEvening", "(LNextLight$Lines;LNextLight$Town;)I"⟩
abbrev cX6_wrong : ByteArray := prog_8_method_4_code
def yX6_wrong : MethodName := ⟨RX6, "wrong", "(I)Z"⟩
abbrev cX6_readPlace : ByteArray := prog_8_method_5_code
def yX6_readPlace : MethodName := ⟨RX6, "readPlace", "(LNextLight$Town;)V"⟩
abbrev cX6_readLane : ByteArray := prog_8_method_6_code
def yX6_readLane : MethodName := ⟨RX6, "readLane", "(LNextLight$Town;)V"⟩
abbrev cX6_readWalker : ByteArray := prog_8_method_7_code
def yX6_readWalker : MethodName := ⟨RX6, "readWalker", "(LNextLight$Town;)V"⟩
abbrev cX6_readBoy : ByteArray := prog_8_method_8_code
def yX6_readBoy : MethodName := ⟨RX6, "readBoy", "(LNextLight$Town;)V"⟩
abbrev cX6_readLaw : ByteArray := prog_8_method_9_code
def yX6_readLaw : MethodName := ⟨RX6, "readLaw", "(LNextLight$Town;)V"⟩
abbrev cX6_readLevel : ByteArray := prog_8_method_10_code
def yX6_readLevel : MethodName := ⟨RX6, "readLevel", "(LNextLight$Law;II)Z"⟩
abbrev cX6_operationHere : ByteArray := prog_8_method_11_code
def yX6_operationHere : MethodName := ⟨RX6, "operationHere", "(I)I"⟩
abbrev cX6_readPart : ByteArray := prog_8_method_12_code
def yX6_readPart : MethodName := ⟨RX6, "readPart", "(LNextLight$Law;I)Z"⟩
abbrev cX6_readEveningLine : ByteArray := prog_8_method_13_code
def yX6_readEveningLine : MethodName := ⟨RX6, "readEveningLine", "(LNextLight$Lines;LNextLight$Town;)V"⟩
abbrev cX6_isNewName : ByteArray := prog_8_method_14_code
def yX6_isNewName : MethodName := ⟨RX6, "isNewName", "(LNextLight$Town;)Z"⟩
abbrev cX6_isPlaceName : ByteArray := prog_8_method_15_code
def yX6_isPlaceName : MethodName := ⟨RX6, "isPlaceName", "(LNextLight$Town;)Z"⟩
abbrev cX6_readPlaceName : ByteArray := prog_8_method_16_code
def yX6_readPlaceName : MethodName := ⟨RX6, "readPlaceName", "(LNextLight$Town;)I"⟩
abbrev cX6_readWalkerName : ByteArray := prog_8_method_17_code
def yX6_readWalkerName : MethodName := ⟨RX6, "readWalkerName", "(LNextLight$Town;)I"⟩
abbrev cX6_readTold : ByteArray := prog_8_method_18_code
def yX6_readTold : MethodName := ⟨RX6, "readTold", "(I)I"⟩
abbrev cX6_readKind : ByteArray := prog_8_method_19_code
def yX6_readKind : MethodName := ⟨RX6, "readKind", "()I"⟩
abbrev cX6_readNumber : ByteArray := prog_8_method_20_code
def yX6_readNumber : MethodName := ⟨RX6, "readNumber", "(I)I"⟩
abbrev cX6_readWord : ByteArray := prog_8_method_21_code
def yX6_readWord : MethodName := ⟨RX6, "readWord", "(I)Z"⟩
abbrev cX6_readSign : ByteArray := prog_8_method_22_code
def yX6_readSign : MethodName := ⟨RX6, "readSign", "(C)Z"⟩
def RX7 : String := "NextLight$Tape"
def TX7 : u_T := fun k => match k with
  | 0 => ("NextLight$Tape", "signs", "[B", true)
  | _ => ("NextLight$Tape", "length", "I", false)
def tyX7 : Nat → FieldType := fun k => match k with
  | 0 => .array .byte
  | _ => .int
theorem nmX7 : ∀ a, a < 2 → ∀ b, b < 2 → a ≠ b → (TX7 a).2.1 ≠ (TX7 b).2.1 := by decide +kernel
theorem tyX7_ok : ∀ k, k < 2 → parseFieldDescriptor (TX7 k).2.2.1 = some (tyX7 k) := by decide +kernel
abbrev cX7_init : ByteArray := prog_9_method_1_code
def yX7_init : MethodName := ⟨RX7, "<init>", "()V"⟩
abbrev cX7_addBytes : ByteArray := prog_9_method_2_code
def yX7_addBytes : MethodName := ⟨RX7, "addBytes", "(J)V"⟩
def RX8 : String := "NextLight$Tokens"
def TX8 : u_T := fun k => match k with
  | 0 => ("NextLight$Tokens", "tape", "LNextLight$Tape;", true)
  | 1 => ("NextLight$Tokens", "words", "[J", true)
  | 2 => ("NextLight$Tokens", "kind", "I", false)
  | 3 => ("NextLight$Tokens", "start", "I", false)
  | 4 => ("NextLight$Tokens", "end", "I", false)
  | 5 => ("NextLight$Tokens", "letters", "J", false)
  | _ => ("NextLight$Tokens", "value", "I", false)
def tyX8 : Nat → FieldType := fun k => match k with
  | 0 => .object "NextLight$Tape"
  | 1 => .array .long
  | 2 => .int
  | 3 => .int
  | 4 => .int
  | 5 => .long
  | _ => .int
theorem nmX8 : ∀ a, a < 7 → ∀ b, b < 7 → a ≠ b → (TX8 a).2.1 ≠ (TX8 b).2.1 := by decide +kernel
theorem tyX8_ok : ∀ k, k < 7 → parseFieldDescriptor (TX8 k).2.2.1 = some (tyX8 k) := by decide +kernel
abbrev cX8_init : ByteArray := prog_10_method_1_code
def yX8_init : MethodName := ⟨RX8, "<init>", "(LNextLight$Tape;)V"⟩
abbrev cX8_restart : ByteArray := prog_10_method_2_code
def yX8_restart : MethodName := ⟨RX8, "restart", "()V"⟩
abbrev cX8_advance : ByteArray := prog_10_method_3_code
def yX8_advance : MethodName := ⟨RX8, "advance", "()V"⟩
abbrev cX8_isWord : ByteArray := prog_10_method_4_code
def yX8_isWord : MethodName := ⟨RX8, "isWord", "(I)Z"⟩
abbrev cX8_isSign : ByteArray := prog_10_method_5_code
def yX8_isSign : MethodName := ⟨RX8, "isSign", "(C)Z"⟩
abbrev cX8_isName : ByteArray := prog_10_method_6_code
def yX8_isName : MethodName := ⟨RX8, "isName", "()Z"⟩
abbrev cX8_takeWord : ByteArray := prog_10_method_7_code
def yX8_takeWord : MethodName := ⟨RX8, "takeWord", "()V"⟩
abbrev cX8_takeNumber : ByteArray := prog_10_method_8_code
def yX8_takeNumber : MethodName := ⟨RX8, "takeNumber", "()V"⟩
def RX9 : String := "NextLight$Town"
def TX9 : u_T := fun k => match k with
  | 0 => ("NextLight$Town", "places", "I", false)
  | 1 => ("NextLight$Town", "lanes", "I", false)
  | 2 => ("NextLight$Town", "walkers", "I", false)
  | 3 => ("NextLight$Town", "cost", "I", false)
  | 4 => ("NextLight$Town", "costTold", "Z", false)
  | 5 => ("NextLight$Town", "law", "LNextLight$Law;", true)
  | 6 => ("NextLight$Town", "placeNames", "[J", true)
  | 7 => ("NextLight$Town", "laneFrom", "[I", true)
  | 8 => ("NextLight$Town", "laneTo", "[I", true)
  | 9 => ("NextLight$Town", "told", "[I", true)
  | 10 => ("NextLight$Town", "walkerNames", "[J", true)
  | 11 => ("NextLight$Town", "kinds", "[I", true)
  | 12 => ("NextLight$Town", "froms", "[I", true)
  | 13 => ("NextLight$Town", "tos", "[I", true)
  | 14 => ("NextLight$Town", "ats", "[I", true)
  | 15 => ("NextLight$Town", "wayLengths", "[I", true)
  | _ => ("NextLight$Town", "firstLanes", "[I", true)
def tyX9 : Nat → FieldType := fun k => match k with
  | 0 => .int
  | 1 => .int
  | 2 => .int
  | 3 => .int
  | 4 => .boolean
  | 5 => .object "NextLight$Law"
  | 6 => .array .long
  | 7 => .array .int
  | 8 => .array .int
  | 9 => .array .int
  | 10 => .array .long
  | 11 => .array .int
  | 12 => .array .int
  | 13 => .array .int
  | 14 => .array .int
  | 15 => .array .int
  | _ => .array .int
theorem nmX9 : ∀ a, a < 17 → ∀ b, b < 17 → a ≠ b → (TX9 a).2.1 ≠ (TX9 b).2.1 := by decide +kernel
theorem tyX9_ok : ∀ k, k < 17 → parseFieldDescriptor (TX9 k).2.2.1 = some (tyX9 k) := by decide +kernel
abbrev cX9_init : ByteArray := prog_11_method_1_code
def yX9_init : MethodName := ⟨RX9, "<init>", "()V"⟩
abbrev cX9_empty : ByteArray := prog_11_method_2_code
def yX9_empty : MethodName := ⟨RX9, "empty", "()V"⟩
abbrev cX9_hasPlace : ByteArray := prog_11_method_3_code
def yX9_hasPlace : MethodName := ⟨RX9, "hasPlace", "(I)Z"⟩
abbrev cX9_hasLane : ByteArray := prog_11_method_4_code
def yX9_hasLane : MethodName := ⟨RX9, "hasLane", "(I)Z"⟩
abbrev cX9_hasWalker : ByteArray := prog_11_method_5_code
def yX9_hasWalker : MethodName := ⟨RX9, "hasWalker", "(I)Z"⟩
abbrev cX9_addPlace : ByteArray := prog_11_method_6_code
def yX9_addPlace : MethodName := ⟨RX9, "addPlace", "(J)V"⟩
abbrev cX9_addLane : ByteArray := prog_11_method_7_code
def yX9_addLane : MethodName := ⟨RX9, "addLane", "(III)V"⟩
abbrev cX9_addWalker : ByteArray := prog_11_method_8_code
def yX9_addWalker : MethodName := ⟨RX9, "addWalker", "(JIIII)V"⟩
abbrev cX9_placeNamed : ByteArray := prog_11_method_9_code
def yX9_placeNamed : MethodName := ⟨RX9, "placeNamed", "(J)I"⟩
abbrev cX9_walkerNamed : ByteArray := prog_11_method_10_code
def yX9_walkerNamed : MethodName := ⟨RX9, "walkerNamed", "(J)I"⟩
abbrev cX9_laneBetween : ByteArray := prog_11_method_11_code
def yX9_laneBetween : MethodName := ⟨RX9, "laneBetween", "(II)I"⟩
abbrev cX9_otherEnd : ByteArray := prog_11_method_12_code
def yX9_otherEnd : MethodName := ⟨RX9, "otherEnd", "(II)I"⟩
abbrev cX9_lanesOfWay : ByteArray := prog_11_method_13_code
def yX9_lanesOfWay : MethodName := ⟨RX9, "lanesOfWay", "(II)I"⟩
abbrev cX9_firstLane : ByteArray := prog_11_method_14_code
def yX9_firstLane : MethodName := ⟨RX9, "firstLane", "(II)I"⟩
abbrev cX9_findWays : ByteArray := prog_11_method_15_code
def yX9_findWays : MethodName := ⟨RX9, "findWays", "()V"⟩
abbrev cX9_findWaysOfLength : ByteArray := prog_11_method_16_code
def yX9_findWaysOfLength : MethodName := ⟨RX9, "findWaysOfLength", "(II)V"⟩
abbrev cX9_laneNearer : ByteArray := prog_11_method_17_code
def yX9_laneNearer : MethodName := ⟨RX9, "laneNearer", "(III)I"⟩
def RX10 : String := "NextLight$Watched"
def TX10 : u_T := fun k => match k with
  | 0 => ("NextLight$Watched", "many", "I", false)
  | 1 => ("NextLight$Watched", "lanes", "[I", true)
  | 2 => ("NextLight$Watched", "minutes", "[I", true)
  | _ => ("NextLight$Watched", "burnt", "[Z", true)
def tyX10 : Nat → FieldType := fun k => match k with
  | 0 => .int
  | 1 => .array .int
  | 2 => .array .int
  | _ => .array .boolean
theorem nmX10 : ∀ a, a < 4 → ∀ b, b < 4 → a ≠ b → (TX10 a).2.1 ≠ (TX10 b).2.1 := by decide +kernel
theorem tyX10_ok : ∀ k, k < 4 → parseFieldDescriptor (TX10 k).2.2.1 = some (tyX10 k) := by decide +kernel
abbrev cX10_init : ByteArray := prog_12_method_1_code
def yX10_init : MethodName := ⟨RX10, "<init>", "()V"⟩
abbrev cX10_add : ByteArray := prog_12_method_2_code
def yX10_add : MethodName := ⟨RX10, "add", "(IIZ)Z"⟩
abbrev cX10_copyFrom : ByteArray := prog_12_method_3_code
def yX10_copyFrom : MethodName := ⟨RX10, "copyFrom", "(LNextLight$Watched;)V"⟩
abbrev cX10_lastMinute : ByteArray := prog_12_method_4_code
def yX10_lastMinute : MethodName := ⟨RX10, "lastMinute", "()I"⟩
abbrev cX10_isSo : ByteArray := prog_12_method_5_code
def yX10_isSo : MethodName := ⟨RX10, "isSo", "(II)Z"⟩
def RX11 : String := "NextLight"
def TX11 : u_T := fun k => match k with
  | 0 => ("NextLight", "tape", "LNextLight$Tape;", true)
  | 1 => ("NextLight", "reader", "LNextLight$Reader;", true)
  | 2 => ("NextLight", "now", "LNextLight$Night;", true)
  | 3 => ("NextLight", "past", "LNextLight$Past;", true)
  | 4 => ("NextLight", "watched", "LNextLight$Watched;", true)
  | 5 => ("NextLight", "marks", "[LNextLight$Mark;", true)
  | 6 => ("NextLight", "ahead", "LNextLight$Ahead;", true)
  | 7 => ("NextLight", "town", "LNextLight$Town;", false)
  | 8 => ("NextLight", "spareTown", "LNextLight$Town;", false)
  | 9 => ("NextLight", "lines", "LNextLight$Lines;", false)
  | _ => ("NextLight", "spareLines", "LNextLight$Lines;", false)
def tyX11 : Nat → FieldType := fun k => match k with
  | 0 => .object "NextLight$Tape"
  | 1 => .object "NextLight$Reader"
  | 2 => .object "NextLight$Night"
  | 3 => .object "NextLight$Past"
  | 4 => .object "NextLight$Watched"
  | 5 => .array (.object "NextLight$Mark")
  | 6 => .object "NextLight$Ahead"
  | 7 => .object "NextLight$Town"
  | 8 => .object "NextLight$Town"
  | 9 => .object "NextLight$Lines"
  | _ => .object "NextLight$Lines"
theorem nmX11 : ∀ a, a < 11 → ∀ b, b < 11 → a ≠ b → (TX11 a).2.1 ≠ (TX11 b).2.1 := by decide +kernel
theorem tyX11_ok : ∀ k, k < 11 → parseFieldDescriptor (TX11 k).2.2.1 = some (tyX11 k) := by decide +kernel
abbrev cX11_init : ByteArray := prog_1_method_1_code
def yX11_init : MethodName := ⟨RX11, "<init>", "()V"⟩
abbrev cX11_feed : ByteArray := prog_1_method_2_code
def yX11_feed : MethodName := ⟨RX11, "feed", "(JJJ)I"⟩
abbrev cX11_town : ByteArray := prog_1_method_3_code
def yX11_town : MethodName := ⟨RX11, "town", "()I"⟩
abbrev cX11_evening : ByteArray := prog_1_method_4_code
def yX11_evening : MethodName := ⟨RX11, "evening", "()I"⟩
abbrev cX11_lane : ByteArray := prog_1_method_5_code
def yX11_lane : MethodName := ⟨RX11, "lane", "(II)I"⟩
abbrev cX11_walker : ByteArray := prog_1_method_6_code
def yX11_walker : MethodName := ⟨RX11, "walker", "(II)I"⟩
abbrev cX11_way : ByteArray := prog_1_method_7_code
def yX11_way : MethodName := ⟨RX11, "way", "(II)I"⟩
abbrev cX11_next : ByteArray := prog_1_method_8_code
def yX11_next : MethodName := ⟨RX11, "next", "(I)I"⟩
abbrev cX11_minute : ByteArray := prog_1_method_9_code
def yX11_minute : MethodName := ⟨RX11, "minute", "()I"⟩
abbrev cX11_send : ByteArray := prog_1_method_10_code
def yX11_send : MethodName := ⟨RX11, "send", "(II)I"⟩
abbrev cX11_waits : ByteArray := prog_1_method_11_code
def yX11_waits : MethodName := ⟨RX11, "waits", "(I)I"⟩
abbrev cX11_back : ByteArray := prog_1_method_12_code
def yX11_back : MethodName := ⟨RX11, "back", "(I)Z"⟩
abbrev cX11_undo : ByteArray := prog_1_method_13_code
def yX11_undo : MethodName := ⟨RX11, "undo", "()Z"⟩
abbrev cX11_judged : ByteArray := prog_1_method_14_code
def yX11_judged : MethodName := ⟨RX11, "judged", "(I)I"⟩
abbrev cX11_darks : ByteArray := prog_1_method_15_code
def yX11_darks : MethodName := ⟨RX11, "darks", "(I)I"⟩
abbrev cX11_home : ByteArray := prog_1_method_16_code
def yX11_home : MethodName := ⟨RX11, "home", "(I)I"⟩
abbrev cX11_glow : ByteArray := prog_1_method_17_code
def yX11_glow : MethodName := ⟨RX11, "glow", "()I"⟩
abbrev cX11_burns : ByteArray := prog_1_method_18_code
def yX11_burns : MethodName := ⟨RX11, "burns", "(II)I"⟩
abbrev cX11_delay : ByteArray := prog_1_method_19_code
def yX11_delay : MethodName := ⟨RX11, "delay", "(I)I"⟩
abbrev cX11_boys : ByteArray := prog_1_method_20_code
def yX11_boys : MethodName := ⟨RX11, "boys", "()I"⟩
abbrev cX11_alarm : ByteArray := prog_1_method_21_code
def yX11_alarm : MethodName := ⟨RX11, "alarm", "()I"⟩
abbrev cX11_blind : ByteArray := prog_1_method_22_code
def yX11_blind : MethodName := ⟨RX11, "blind", "()I"⟩
abbrev cX11_meet : ByteArray := prog_1_method_23_code
def yX11_meet : MethodName := ⟨RX11, "meet", "(II)I"⟩
abbrev cX11_thief : ByteArray := prog_1_method_24_code
def yX11_thief : MethodName := ⟨RX11, "thief", "()I"⟩
abbrev cX11_watch : ByteArray := prog_1_method_25_code
def yX11_watch : MethodName := ⟨RX11, "watch", "(IIZ)Z"⟩
abbrev cX11_sets : ByteArray := prog_1_method_26_code
def yX11_sets : MethodName := ⟨RX11, "sets", "(I)I"⟩
abbrev cX11_look : ByteArray := prog_1_method_27_code
def yX11_look : MethodName := ⟨RX11, "look", "(I)I"⟩
abbrev cX11_oil : ByteArray := prog_1_method_28_code
def yX11_oil : MethodName := ⟨RX11, "oil", "()I"⟩
abbrev cX11_share : ByteArray := prog_1_method_29_code
def yX11_share : MethodName := ⟨RX11, "share", "(I)I"⟩
abbrev cX11_longer : ByteArray := prog_1_method_30_code
def yX11_longer : MethodName := ⟨RX11, "longer", "(I)I"⟩
abbrev cX11_rests : ByteArray := prog_1_method_31_code
def yX11_rests : MethodName := ⟨RX11, "rests", "(IIII)I"⟩
abbrev cX11_nights : ByteArray := prog_1_method_32_code
def yX11_nights : MethodName := ⟨RX11, "nights", "(III)I"⟩
abbrev cX11_mark : ByteArray := prog_1_method_33_code
def yX11_mark : MethodName := ⟨RX11, "mark", "(IZ)Z"⟩
abbrev cX11_count : ByteArray := prog_1_method_34_code
def yX11_count : MethodName := ⟨RX11, "count", "(I)I"⟩
abbrev cX11_keepPast : ByteArray := prog_1_method_35_code
def yX11_keepPast : MethodName := ⟨RX11, "keepPast", "()V"⟩
abbrev cX11_isPay : ByteArray := prog_1_method_36_code
def yX11_isPay : MethodName := ⟨RX11, "isPay", "(I)Z"⟩
abbrev cX11_isRest : ByteArray := prog_1_method_37_code
def yX11_isRest : MethodName := ⟨RX11, "isRest", "(IIII)Z"⟩
abbrev cX11_gain : ByteArray := prog_1_method_38_code
def yX11_gain : MethodName := ⟨RX11, "gain", "(IIIII)I"⟩
def RX12 : String := "NextLightModel"
def TX12 : u_T := fun k => match k with
  | 0 => ("NextLightModel", "thrown", "I", false)
  | 1 => ("NextLightModel", "taped", "I", false)
  | 2 => ("NextLightModel", "tape", "[I", true)
  | 3 => ("NextLightModel", "size", "I", false)
  | 4 => ("NextLightModel", "place", "I", false)
  | 5 => ("NextLightModel", "begin", "I", false)
  | 6 => ("NextLightModel", "token", "I", false)
  | 7 => ("NextLightModel", "word", "J", false)
  | 8 => ("NextLightModel", "told", "I", false)
  | 9 => ("NextLightModel", "wrong", "I", false)
  | 10 => ("NextLightModel", "town", "[I", true)
  | 11 => ("NextLightModel", "placeName", "[J", true)
  | 12 => ("NextLightModel", "walkerName", "[J", true)
  | 13 => ("NextLightModel", "laneA", "[I", true)
  | 14 => ("NextLightModel", "laneB", "[I", true)
  | 15 => ("NextLightModel", "laneTold", "[I", true)
  | 16 => ("NextLightModel", "kind", "[I", true)
  | 17 => ("NextLightModel", "fromTold", "[I", true)
  | 18 => ("NextLightModel", "toTold", "[I", true)
  | 19 => ("NextLightModel", "outTold", "[I", true)
  | 20 => ("NextLightModel", "lineFrom", "[I", true)
  | 21 => ("NextLightModel", "lineTo", "[I", true)
  | 22 => ("NextLightModel", "codes", "[I", true)
  | 23 => ("NextLightModel", "code", "I", false)
  | 24 => ("NextLightModel", "isBoy", "Z", false)
  | 25 => ("NextLightModel", "opened", "[I", true)
  | 26 => ("NextLightModel", "compared", "[Z", true)
  | 27 => ("NextLightModel", "kept", "[I", true)
  | 28 => ("NextLightModel", "keptBy", "[I", true)
  | 29 => ("NextLightModel", "ahead", "[I", true)
  | 30 => ("NextLightModel", "against", "[I", true)
  | 31 => ("NextLightModel", "sum", "[I", true)
  | 32 => ("NextLightModel", "sumBy", "[I", true)
  | 33 => ("NextLightModel", "term", "[I", true)
  | 34 => ("NextLightModel", "termBy", "[I", true)
  | 35 => ("NextLightModel", "byNot", "[I", true)
  | 36 => ("NextLightModel", "valueOf", "[I", true)
  | 37 => ("NextLightModel", "given", "I", false)
  | 38 => ("NextLightModel", "fresh", "J", false)
  | 39 => ("NextLightModel", "first", "I", false)
  | 40 => ("NextLightModel", "far", "[I", true)
  | 41 => ("NextLightModel", "lines", "[I", true)
  | 42 => ("NextLightModel", "lineWhat", "[I", true)
  | 43 => ("NextLightModel", "lineA", "[I", true)
  | 44 => ("NextLightModel", "lineB", "[I", true)
  | 45 => ("NextLightModel", "watched", "[I", true)
  | 46 => ("NextLightModel", "watchLane", "[I", true)
  | 47 => ("NextLightModel", "watchAt", "[I", true)
  | 48 => ("NextLightModel", "watchBurnt", "[Z", true)
  | 49 => ("NextLightModel", "s", "[I", true)
  | 50 => ("NextLightModel", "aside", "[I", true)
  | 51 => ("NextLightModel", "before", "[I", true)
  | 52 => ("NextLightModel", "marked", "[I", true)
  | 53 => ("NextLightModel", "undone", "[I", true)
  | 54 => ("NextLightModel", "isLaid", "[Z", true)
  | 55 => ("NextLightModel", "done", "I", false)
  | 56 => ("NextLightModel", "moreTold", "I", false)
  | 57 => ("NextLightModel", "allowed", "I", false)
  | 58 => ("NextLightModel", "feet", "[I", true)
  | 59 => ("NextLightModel", "darkOf", "[I", true)
  | 60 => ("NextLightModel", "took", "I", false)
  | 61 => ("NextLightModel", "darkAll", "I", false)
  | 62 => ("NextLightModel", "oilAll", "I", false)
  | 63 => ("NextLightModel", "goneAlong", "I", false)
  | 64 => ("NextLightModel", "darkEach", "[I", true)
  | 65 => ("NextLightModel", "homeAt", "[I", true)
  | 66 => ("NextLightModel", "burnAt", "[I", true)
  | 67 => ("NextLightModel", "waitOf", "[I", true)
  | 68 => ("NextLightModel", "bestWait", "[I", true)
  | 69 => ("NextLightModel", "bestDark", "I", false)
  | 70 => ("NextLightModel", "bestWaits", "I", false)
  | 71 => ("NextLightModel", "litBy", "[I", true)
  | _ => ("NextLightModel", "g", "J", false)
def tyX12 : Nat → FieldType := fun k => match k with
  | 0 => .int
  | 1 => .int
  | 2 => .array .int
  | 3 => .int
  | 4 => .int
  | 5 => .int
  | 6 => .int
  | 7 => .long
  | 8 => .int
  | 9 => .int
  | 10 => .array .int
  | 11 => .array .long
  | 12 => .array .long
  | 13 => .array .int
  | 14 => .array .int
  | 15 => .array .int
  | 16 => .array .int
  | 17 => .array .int
  | 18 => .array .int
  | 19 => .array .int
  | 20 => .array .int
  | 21 => .array .int
  | 22 => .array .int
  | 23 => .int
  | 24 => .boolean
  | 25 => .array .int
  | 26 => .array .boolean
  | 27 => .array .int
  | 28 => .array .int
  | 29 => .array .int
  | 30 => .array .int
  | 31 => .array .int
  | 32 => .array .int
  | 33 => .array .int
  | 34 => .array .int
  | 35 => .array .int
  | 36 => .array .int
  | 37 => .int
  | 38 => .long
  | 39 => .int
  | 40 => .array .int
  | 41 => .array .int
  | 42 => .array .int
  | 43 => .array .int
  | 44 => .array .int
  | 45 => .array .int
  | 46 => .array .int
  | 47 => .array .int
  | 48 => .array .boolean
  | 49 => .array .int
  | 50 => .array .int
  | 51 => .array .int
  | 52 => .array .int
  | 53 => .array .int
  | 54 => .array .boolean
  | 55 => .int
  | 56 => .int
  | 57 => .int
  | 58 => .array .int
  | 59 => .array .int
  | 60 => .int
  | 61 => .int
  | 62 => .int
  | 63 => .int
  | 64 => .array .int
  | 65 => .array .int
  | 66 => .array .int
  | 67 => .array .int
  | 68 => .array .int
  | 69 => .int
  | 70 => .int
  | 71 => .array .int
  | _ => .long
theorem nmX12 : ∀ a, a < 73 → ∀ b, b < 73 → a ≠ b → (TX12 a).2.1 ≠ (TX12 b).2.1 := by decide +kernel
theorem tyX12_ok : ∀ k, k < 73 → parseFieldDescriptor (TX12 k).2.2.1 = some (tyX12 k) := by decide +kernel
abbrev cX12_init : ByteArray := prog_14_method_1_code
def yX12_init : MethodName := ⟨RX12, "<init>", "()V"⟩
abbrev cX12_thrown : ByteArray := prog_14_method_2_code
def yX12_thrown : MethodName := ⟨RX12, "thrown", "()I"⟩
abbrev cX12_within : ByteArray := prog_14_method_3_code
def yX12_within : MethodName := ⟨RX12, "within", "(III)Z"⟩
abbrev cX12_between : ByteArray := prog_14_method_4_code
def yX12_between : MethodName := ⟨RX12, "between", "(III)I"⟩
abbrev cX12_bits : ByteArray := prog_14_method_5_code
def yX12_bits : MethodName := ⟨RX12, "bits", "(I)I"⟩
abbrev cX12_feed : ByteArray := prog_14_method_6_code
def yX12_feed : MethodName := ⟨RX12, "feed", "(JJJ)I"⟩
abbrev cX12_signAt : ByteArray := prog_14_method_7_code
def yX12_signAt : MethodName := ⟨RX12, "signAt", "(I)I"⟩
abbrev cX12_nextToken : ByteArray := prog_14_method_8_code
def yX12_nextToken : MethodName := ⟨RX12, "nextToken", "()V"⟩
abbrev cX12_isWord : ByteArray := prog_14_method_9_code
def yX12_isWord : MethodName := ⟨RX12, "isWord", "(J)Z"⟩
abbrev cX12_isSign : ByteArray := prog_14_method_10_code
def yX12_isSign : MethodName := ⟨RX12, "isSign", "(I)Z"⟩
abbrev cX12_fails : ByteArray := prog_14_method_11_code
def yX12_fails : MethodName := ⟨RX12, "fails", "(I)Z"⟩
abbrev cX12_puts : ByteArray := prog_14_method_12_code
def yX12_puts : MethodName := ⟨RX12, "puts", "(I)V"⟩
abbrev cX12_fact : ByteArray := prog_14_method_13_code
def yX12_fact : MethodName := ⟨RX12, "fact", "()I"⟩
abbrev cX12_reads : ByteArray := prog_14_method_14_code
def yX12_reads : MethodName := ⟨RX12, "reads", "()Z"⟩
abbrev cX12_opens : ByteArray := prog_14_method_15_code
def yX12_opens : MethodName := ⟨RX12, "opens", "(I)V"⟩
abbrev cX12_sums : ByteArray := prog_14_method_16_code
def yX12_sums : MethodName := ⟨RX12, "sums", "(I)V"⟩
abbrev cX12_tests : ByteArray := prog_14_method_17_code
def yX12_tests : MethodName := ⟨RX12, "tests", "(I)V"⟩
abbrev cX12_worked : ByteArray := prog_14_method_18_code
def yX12_worked : MethodName := ⟨RX12, "worked", "(I)I"⟩
abbrev cX12_isKept : ByteArray := prog_14_method_19_code
def yX12_isKept : MethodName := ⟨RX12, "isKept", "()Z"⟩
abbrev cX12_placeNamed : ByteArray := prog_14_method_20_code
def yX12_placeNamed : MethodName := ⟨RX12, "placeNamed", "(I)I"⟩
abbrev cX12_walkerNamed : ByteArray := prog_14_method_21_code
def yX12_walkerNamed : MethodName := ⟨RX12, "walkerNamed", "(I)I"⟩
abbrev cX12_needsNumber : ByteArray := prog_14_method_22_code
def yX12_needsNumber : MethodName := ⟨RX12, "needsNumber", "(II)Z"⟩
abbrev cX12_needsWord : ByteArray := prog_14_method_23_code
def yX12_needsWord : MethodName := ⟨RX12, "needsWord", "(J)Z"⟩
abbrev cX12_closes : ByteArray := prog_14_method_24_code
def yX12_closes : MethodName := ⟨RX12, "closes", "()Z"⟩
abbrev cX12_needsNew : ByteArray := prog_14_method_25_code
def yX12_needsNew : MethodName := ⟨RX12, "needsNew", "()Z"⟩
abbrev cX12_needsPlace : ByteArray := prog_14_method_26_code
def yX12_needsPlace : MethodName := ⟨RX12, "needsPlace", "(I)Z"⟩
abbrev cX12_needsTwo : ByteArray := prog_14_method_27_code
def yX12_needsTwo : MethodName := ⟨RX12, "needsTwo", "(I)Z"⟩
abbrev cX12_readsPlace : ByteArray := prog_14_method_28_code
def yX12_readsPlace : MethodName := ⟨RX12, "readsPlace", "()Z"⟩
abbrev cX12_laneOf : ByteArray := prog_14_method_29_code
def yX12_laneOf : MethodName := ⟨RX12, "laneOf", "(III)I"⟩
abbrev cX12_readsLane : ByteArray := prog_14_method_30_code
def yX12_readsLane : MethodName := ⟨RX12, "readsLane", "()Z"⟩
abbrev cX12_readsWalker : ByteArray := prog_14_method_31_code
def yX12_readsWalker : MethodName := ⟨RX12, "readsWalker", "()Z"⟩
abbrev cX12_readsBoy : ByteArray := prog_14_method_32_code
def yX12_readsBoy : MethodName := ⟨RX12, "readsBoy", "()Z"⟩
abbrev cX12_readsBurns : ByteArray := prog_14_method_33_code
def yX12_readsBurns : MethodName := ⟨RX12, "readsBurns", "()Z"⟩
abbrev cX12_begins : ByteArray := prog_14_method_34_code
def yX12_begins : MethodName := ⟨RX12, "begins", "()V"⟩
abbrev cX12_readsAll : ByteArray := prog_14_method_35_code
def yX12_readsAll : MethodName := ⟨RX12, "readsAll", "()Z"⟩
abbrev cX12_shifts : ByteArray := prog_14_method_36_code
def yX12_shifts : MethodName := ⟨RX12, "shifts", "([II)V"⟩
abbrev cX12_shiftsNames : ByteArray := prog_14_method_37_code
def yX12_shiftsNames : MethodName := ⟨RX12, "shiftsNames", "([JI)V"⟩
abbrev cX12_lays : ByteArray := prog_14_method_38_code
def yX12_lays : MethodName := ⟨RX12, "lays", "()V"⟩
abbrev cX12_lays0 : ByteArray := prog_14_method_39_code
def yX12_lays0 : MethodName := ⟨RX12, "lays0", "()V"⟩
abbrev cX12_nextPlace : ByteArray := prog_14_method_40_code
def yX12_nextPlace : MethodName := ⟨RX12, "nextPlace", "(II)I"⟩
abbrev cX12_copies : ByteArray := prog_14_method_41_code
def yX12_copies : MethodName := ⟨RX12, "copies", "([II[II)V"⟩
abbrev cX12_readsLine : ByteArray := prog_14_method_42_code
def yX12_readsLine : MethodName := ⟨RX12, "readsLine", "()Z"⟩
abbrev cX12_laysLines : ByteArray := prog_14_method_43_code
def yX12_laysLines : MethodName := ⟨RX12, "laysLines", "(II)V"⟩
abbrev cX12_laysWatched : ByteArray := prog_14_method_44_code
def yX12_laysWatched : MethodName := ⟨RX12, "laysWatched", "(II)V"⟩
abbrev cX12_fresh : ByteArray := prog_14_method_45_code
def yX12_fresh : MethodName := ⟨RX12, "fresh", "()V"⟩
abbrev cX12_town : ByteArray := prog_14_method_46_code
def yX12_town : MethodName := ⟨RX12, "town", "()I"⟩
abbrev cX12_evening : ByteArray := prog_14_method_47_code
def yX12_evening : MethodName := ⟨RX12, "evening", "()I"⟩
abbrev cX12_isPlace : ByteArray := prog_14_method_48_code
def yX12_isPlace : MethodName := ⟨RX12, "isPlace", "(I)Z"⟩
abbrev cX12_isLane : ByteArray := prog_14_method_49_code
def yX12_isLane : MethodName := ⟨RX12, "isLane", "(I)Z"⟩
abbrev cX12_isWalker : ByteArray := prog_14_method_50_code
def yX12_isWalker : MethodName := ⟨RX12, "isWalker", "(I)Z"⟩
abbrev cX12_isHome : ByteArray := prog_14_method_51_code
def yX12_isHome : MethodName := ⟨RX12, "isHome", "(I)Z"⟩
abbrev cX12_isOut : ByteArray := prog_14_method_52_code
def yX12_isOut : MethodName := ⟨RX12, "isOut", "(I)Z"⟩
abbrev cX12_homes : ByteArray := prog_14_method_53_code
def yX12_homes : MethodName := ⟨RX12, "homes", "()I"⟩
abbrev cX12_areAllHome : ByteArray := prog_14_method_54_code
def yX12_areAllHome : MethodName := ⟨RX12, "areAllHome", "()Z"⟩
abbrev cX12_burning : ByteArray := prog_14_method_55_code
def yX12_burning : MethodName := ⟨RX12, "burning", "()I"⟩
abbrev cX12_lanesAhead : ByteArray := prog_14_method_56_code
def yX12_lanesAhead : MethodName := ⟨RX12, "lanesAhead", "(I)I"⟩
abbrev cX12_burnsBy : ByteArray := prog_14_method_57_code
def yX12_burnsBy : MethodName := ⟨RX12, "burnsBy", "(III)I"⟩
abbrev cX12_goesAlong : ByteArray := prog_14_method_58_code
def yX12_goesAlong : MethodName := ⟨RX12, "goesAlong", "(II)V"⟩
abbrev cX12_passes : ByteArray := prog_14_method_59_code
def yX12_passes : MethodName := ⟨RX12, "passes", "()I"⟩
abbrev cX12_sends : ByteArray := prog_14_method_60_code
def yX12_sends : MethodName := ⟨RX12, "sends", "(I)V"⟩
abbrev cX12_waitsMore : ByteArray := prog_14_method_61_code
def yX12_waitsMore : MethodName := ⟨RX12, "waitsMore", "(I)V"⟩
abbrev cX12_canTurn : ByteArray := prog_14_method_62_code
def yX12_canTurn : MethodName := ⟨RX12, "canTurn", "(I)Z"⟩
abbrev cX12_lane : ByteArray := prog_14_method_63_code
def yX12_lane : MethodName := ⟨RX12, "lane", "(II)I"⟩
abbrev cX12_walker : ByteArray := prog_14_method_64_code
def yX12_walker : MethodName := ⟨RX12, "walker", "(II)I"⟩
abbrev cX12_way : ByteArray := prog_14_method_65_code
def yX12_way : MethodName := ⟨RX12, "way", "(II)I"⟩
abbrev cX12_next : ByteArray := prog_14_method_66_code
def yX12_next : MethodName := ⟨RX12, "next", "(I)I"⟩
abbrev cX12_keeps : ByteArray := prog_14_method_67_code
def yX12_keeps : MethodName := ⟨RX12, "keeps", "()V"⟩
abbrev cX12_minute : ByteArray := prog_14_method_68_code
def yX12_minute : MethodName := ⟨RX12, "minute", "()I"⟩
abbrev cX12_send : ByteArray := prog_14_method_69_code
def yX12_send : MethodName := ⟨RX12, "send", "(II)I"⟩
abbrev cX12_waits : ByteArray := prog_14_method_70_code
def yX12_waits : MethodName := ⟨RX12, "waits", "(I)I"⟩
abbrev cX12_back : ByteArray := prog_14_method_71_code
def yX12_back : MethodName := ⟨RX12, "back", "(I)Z"⟩
abbrev cX12_undo : ByteArray := prog_14_method_72_code
def yX12_undo : MethodName := ⟨RX12, "undo", "()Z"⟩
abbrev cX12_goes : ByteArray := prog_14_method_73_code
def yX12_goes : MethodName := ⟨RX12, "goes", "(I)Z"⟩
abbrev cX12_judged : ByteArray := prog_14_method_74_code
def yX12_judged : MethodName := ⟨RX12, "judged", "(I)I"⟩
abbrev cX12_notes : ByteArray := prog_14_method_75_code
def yX12_notes : MethodName := ⟨RX12, "notes", "(I)V"⟩
abbrev cX12_goesHome : ByteArray := prog_14_method_76_code
def yX12_goesHome : MethodName := ⟨RX12, "goesHome", "()V"⟩
abbrev cX12_tries : ByteArray := prog_14_method_77_code
def yX12_tries : MethodName := ⟨RX12, "tries", "()V"⟩
abbrev cX12_darks : ByteArray := prog_14_method_78_code
def yX12_darks : MethodName := ⟨RX12, "darks", "(I)I"⟩
abbrev cX12_home : ByteArray := prog_14_method_79_code
def yX12_home : MethodName := ⟨RX12, "home", "(I)I"⟩
abbrev cX12_glow : ByteArray := prog_14_method_80_code
def yX12_glow : MethodName := ⟨RX12, "glow", "()I"⟩
abbrev cX12_burns : ByteArray := prog_14_method_81_code
def yX12_burns : MethodName := ⟨RX12, "burns", "(II)I"⟩
abbrev cX12_delays : ByteArray := prog_14_method_82_code
def yX12_delays : MethodName := ⟨RX12, "delays", "(II)V"⟩
abbrev cX12_delay : ByteArray := prog_14_method_83_code
def yX12_delay : MethodName := ⟨RX12, "delay", "(I)I"⟩
abbrev cX12_isLightBy : ByteArray := prog_14_method_84_code
def yX12_isLightBy : MethodName := ⟨RX12, "isLightBy", "(I)Z"⟩
abbrev cX12_boys : ByteArray := prog_14_method_85_code
def yX12_boys : MethodName := ⟨RX12, "boys", "()I"⟩
abbrev cX12_alarm : ByteArray := prog_14_method_86_code
def yX12_alarm : MethodName := ⟨RX12, "alarm", "()I"⟩
abbrev cX12_blind : ByteArray := prog_14_method_87_code
def yX12_blind : MethodName := ⟨RX12, "blind", "()I"⟩
abbrev cX12_meet : ByteArray := prog_14_method_88_code
def yX12_meet : MethodName := ⟨RX12, "meet", "(II)I"⟩
abbrev cX12_thief : ByteArray := prog_14_method_89_code
def yX12_thief : MethodName := ⟨RX12, "thief", "()I"⟩
abbrev cX12_laysLit : ByteArray := prog_14_method_90_code
def yX12_laysLit : MethodName := ⟨RX12, "laysLit", "()V"⟩
abbrev cX12_watch : ByteArray := prog_14_method_91_code
def yX12_watch : MethodName := ⟨RX12, "watch", "(IIZ)Z"⟩
abbrev cX12_isAsWatched : ByteArray := prog_14_method_92_code
def yX12_isAsWatched : MethodName := ⟨RX12, "isAsWatched", "(I)Z"⟩
abbrev cX12_sets : ByteArray := prog_14_method_93_code
def yX12_sets : MethodName := ⟨RX12, "sets", "(I)I"⟩
abbrev cX12_look : ByteArray := prog_14_method_94_code
def yX12_look : MethodName := ⟨RX12, "look", "(I)I"⟩
abbrev cX12_oil : ByteArray := prog_14_method_95_code
def yX12_oil : MethodName := ⟨RX12, "oil", "()I"⟩
abbrev cX12_share : ByteArray := prog_14_method_96_code
def yX12_share : MethodName := ⟨RX12, "share", "(I)I"⟩
abbrev cX12_longer : ByteArray := prog_14_method_97_code
def yX12_longer : MethodName := ⟨RX12, "longer", "(I)I"⟩
abbrev cX12_getsBy : ByteArray := prog_14_method_98_code
def yX12_getsBy : MethodName := ⟨RX12, "getsBy", "(IIIII)I"⟩
abbrev cX12_rests : ByteArray := prog_14_method_99_code
def yX12_rests : MethodName := ⟨RX12, "rests", "(IIII)I"⟩
abbrev cX12_draws : ByteArray := prog_14_method_100_code
def yX12_draws : MethodName := ⟨RX12, "draws", "(I)I"⟩
abbrev cX12_nights : ByteArray := prog_14_method_101_code
def yX12_nights : MethodName := ⟨RX12, "nights", "(III)I"⟩
abbrev cX12_mark : ByteArray := prog_14_method_102_code
def yX12_mark : MethodName := ⟨RX12, "mark", "(IZ)Z"⟩
abbrev cX12_count : ByteArray := prog_14_method_103_code
def yX12_count : MethodName := ⟨RX12, "count", "(I)I"⟩
def RJ11 : String := "java/lang/Character"
abbrev cJ11_isValidCodePoint_9a6ad : ByteArray := prog_17_method_11_code
def yJ11_isValidCodePoint_9a6ad : MethodName := ⟨RJ11, "isValidCodePoint", "(I)Z"⟩
abbrev cJ11_highSurrogate_5068e : ByteArray := prog_17_method_28_code
def yJ11_highSurrogate_5068e : MethodName := ⟨RJ11, "highSurrogate", "(I)C"⟩
abbrev cJ11_lowSurrogate_5068e : ByteArray := prog_17_method_29_code
def yJ11_lowSurrogate_5068e : MethodName := ⟨RJ11, "lowSurrogate", "(I)C"⟩
def RJ6 : String := "java/lang/Integer"
abbrev cJ6_bitCount_0f7a4 : ByteArray := prog_20_method_49_code
def yJ6_bitCount_0f7a4 : MethodName := ⟨RJ6, "bitCount", "(I)I"⟩
def RJ9 : String := "java/lang/Math"
abbrev cJ9_max_7cf53 : ByteArray := prog_21_method_65_code
def yJ9_max_7cf53 : MethodName := ⟨RJ9, "max", "(II)I"⟩
abbrev cJ9_min_7cf53 : ByteArray := prog_21_method_69_code
def yJ9_min_7cf53 : MethodName := ⟨RJ9, "min", "(II)I"⟩
def RJ0 : String := "java/lang/String"
abbrev cJ0_length_8abf5 : ByteArray := prog_23_method_54_code
def yJ0_length_8abf5 : MethodName := ⟨RJ0, "length", "()I"⟩
abbrev cJ0_charAt_5068e : ByteArray := prog_23_method_56_code
def yJ0_charAt_5068e : MethodName := ⟨RJ0, "charAt", "(I)C"⟩
abbrev cJ0_indexOf_0f7a4 : ByteArray := prog_23_method_79_code
def yJ0_indexOf_0f7a4 : MethodName := ⟨RJ0, "indexOf", "(I)I"⟩
abbrev cJ0_indexOf_7cf53 : ByteArray := prog_23_method_80_code
def yJ0_indexOf_7cf53 : MethodName := ⟨RJ0, "indexOf", "(II)I"⟩
abbrev cJ0_coder_7d493 : ByteArray := prog_23_method_152_code
def yJ0_coder_7d493 : MethodName := ⟨RJ0, "coder", "()B"⟩
abbrev cJ0_isLatin1_aae02 : ByteArray := prog_23_method_154_code
def yJ0_isLatin1_aae02 : MethodName := ⟨RJ0, "isLatin1", "()Z"⟩
abbrev cJ0_checkIndex_df160 : ByteArray := prog_23_method_155_code
def yJ0_checkIndex_df160 : MethodName := ⟨RJ0, "checkIndex", "(II)V"⟩
abbrev cJ0_checkBoundsBeginEnd_23922 : ByteArray := prog_23_method_158_code
def yJ0_checkBoundsBeginEnd_23922 : MethodName := ⟨RJ0, "checkBoundsBeginEnd", "(III)V"⟩
def RJ1 : String := "java/lang/StringLatin1"
abbrev cJ1_charAt_3b067 : ByteArray := prog_24_method_2_code
def yJ1_charAt_3b067 : MethodName := ⟨RJ1, "charAt", "([BI)C"⟩
abbrev cJ1_canEncode_9a6ad : ByteArray := prog_24_method_4_code
def yJ1_canEncode_9a6ad : MethodName := ⟨RJ1, "canEncode", "(I)Z"⟩
abbrev cJ1_indexOf_4cfef : ByteArray := prog_24_method_22_code
def yJ1_indexOf_4cfef : MethodName := ⟨RJ1, "indexOf", "([BIII)I"⟩
abbrev cJ1_indexOfChar_4cfef : ByteArray := prog_24_method_23_code
def yJ1_indexOfChar_4cfef : MethodName := ⟨RJ1, "indexOfChar", "([BIII)I"⟩
def RJ2 : String := "java/lang/StringUTF16"
abbrev cJ2_getChar_3b067 : ByteArray := prog_25_method_5_code
def yJ2_getChar_3b067 : MethodName := ⟨RJ2, "getChar", "([BI)C"⟩
abbrev cJ2_length_9d52b : ByteArray := prog_25_method_6_code
def yJ2_length_9d52b : MethodName := ⟨RJ2, "length", "([B)I"⟩
abbrev cJ2_indexOf_4cfef : ByteArray := prog_25_method_40_code
def yJ2_indexOf_4cfef : MethodName := ⟨RJ2, "indexOf", "([BIII)I"⟩
abbrev cJ2_indexOfChar_4cfef : ByteArray := prog_25_method_47_code
def yJ2_indexOfChar_4cfef : MethodName := ⟨RJ2, "indexOfChar", "([BIII)I"⟩
abbrev cJ2_indexOfCharUnsafe_4cfef : ByteArray := prog_25_method_48_code
def yJ2_indexOfCharUnsafe_4cfef : MethodName := ⟨RJ2, "indexOfCharUnsafe", "([BIII)I"⟩
abbrev cJ2_indexOfSupplementary_4cfef : ByteArray := prog_25_method_49_code
def yJ2_indexOfSupplementary_4cfef : MethodName := ⟨RJ2, "indexOfSupplementary", "([BIII)I"⟩
abbrev cJ2_charAt_3b067 : ByteArray := prog_25_method_83_code
def yJ2_charAt_3b067 : MethodName := ⟨RJ2, "charAt", "([BI)C"⟩
abbrev cJ2_checkIndex_2214a : ByteArray := prog_25_method_91_code
def yJ2_checkIndex_2214a : MethodName := ⟨RJ2, "checkIndex", "(I[B)V"⟩
abbrev cJ2_checkBoundsBeginEnd_d044e : ByteArray := prog_25_method_93_code
def yJ2_checkBoundsBeginEnd_d044e : MethodName := ⟨RJ2, "checkBoundsBeginEnd", "(II[B)V"⟩
def RJ10 : String := "java/lang/System"
def RJ3 : String := "jdk/internal/util/Preconditions"
abbrev cJ3_checkIndex_8e157 : ByteArray := prog_31_method_11_code
def yJ3_checkIndex_8e157 : MethodName := ⟨RJ3, "checkIndex", "(IILjava/util/function/BiFunction;)I"⟩
abbrev cJ3_checkFromToIndex_8c36e : ByteArray := prog_31_method_12_code
def yJ3_checkFromToIndex_8c36e : MethodName := ⟨RJ3, "checkFromToIndex", "(IIILjava/util/function/BiFunction;)I"⟩
def RL : String := "NextLightLaw"
abbrev cL_share : ByteArray := method_3_code
def yL_share : MethodName := ⟨RL, "share", "(LNextLight;I[J)I"⟩
abbrev cL_rests : ByteArray := method_4_code
def yL_rests : MethodName := ⟨RL, "rests", "(LNextLight;IIII[J)I"⟩
abbrev cL_law : ByteArray := code
def yL_law : MethodName := ⟨RL, "law", "([I)Z"⟩
abbrev vwCl : List vw_C := [(RX0, TX0, 7), (RX1, TX1, 3), (RX2, TX2, 4), (RX3, TX3, 4), (RX4, TX4, 11), (RX5, TX5, 3), (RX6, TX6, 2), (RX7, TX7, 2), (RX8, TX8, 7), (RX9, TX9, 17), (RX10, TX10, 4), (RX11, TX11, 11), (RX12, TX12, 73)]
end
section
def ckD (c : ByteArray) (t : List (Nat × Instr × Nat)) : Bool := t.all (fun q => decide (decode c q.1 = .ok (q.2.1, q.2.2)))
theorem td {c : ByteArray} {t : List (Nat × Instr × Nat)} (h : ckD c t = true) (i : Nat) {pc : Nat} {ins : Instr} {n : Nat} (hi : t[i]? = some (pc, ins, n)) : decode c pc = .ok (ins, n) := of_decide_eq_true (List.all_eq_true.mp h (pc, ins, n) (List.mem_of_getElem? hi))
def tX0_init : List (Nat × Instr × Nat) := [(0, .aload_n 0, 1), (1, .invokespecial 3, 3), (4, .aload_n 0, 1), (5, .new 9, 3), (8, .dup, 1), (9, .invokespecial 11, 3), (12, .putfield 12, 3), (15, .aload_n 0, 1), (16, .bipush 6, 2), (18, .newarray .int, 2), (20, .putfield 18, 3), (23, .aload_n 0, 1), (24, .bipush 8, 2), (26, .newarray .int, 2), (28, .putfield 22, 3), (31, .aload_n 0, 1), (32, .bipush 6, 2), (34, .newarray .int, 2), (36, .putfield 25, 3), (39, .return_, 1)]
theorem kX0_init : ckD cX0_init tX0_init = true := by decide +kernel
def tX0_forget : List (Nat × Instr × Nat) := [(0, .aload_n 0, 1), (1, .iconst 0, 1), (2, .putfield 28, 3), (5, .return_, 1)]
theorem kX0_forget : ckD cX0_forget tX0_forget = true := by decide +kernel
def tX0_judge : List (Nat × Instr × Nat) := [(0, .iconst (-1), 1), (1, .istore 4, 2), (3, .iconst (-1), 1), (4, .istore 5, 2), (6, .aload_n 0, 1), (7, .getfield 12, 3), (10, .aload_n 1, 1), (11, .invokevirtual 32, 3), (14, .iconst 0, 1), (15, .istore 6, 2), (17, .iload 6, 2), (19, .aload_n 2, 1), (20, .getfield 36, 3), (23, .if_icmp .ge 86, 3), (26, .aload_n 0, 1), (27, .getfield 12, 3), (30, .getfield 42, 3), (33, .istore 7, 2), (35, .aload_n 0, 1), (36, .getfield 12, 3), (39, .aload_n 1, 1), (40, .aload_n 2, 1), (41, .getfield 45, 3), (44, .iload 6, 2), (46, .baload, 1), (47, .aload_n 2, 1), (48, .getfield 49, 3), (51, .iload 6, 2), (53, .baload, 1), (54, .aload_n 2, 1), (55, .getfield 52, 3), (58, .iload 6, 2), (60, .baload, 1), (61, .invokevirtual 55, 3), (64, .istore 8, 2), (66, .iload 8, 2), (68, .ifCond .ne 13, 3), (71, .iload 4, 2), (73, .iconst (-1), 1), (74, .if_icmp .ne 7, 3), (77, .iload 6, 2), (79, .istore 4, 2), (81, .aload_n 0, 1), (82, .getfield 12, 3), (85, .getfield 42, 3), (88, .iload 7, 2), (90, .if_icmp .le 13, 3), (93, .iload 5, 2), (95, .iconst (-1), 1), (96, .if_icmp .ne 7, 3), (99, .iload 6, 2), (101, .istore 5, 2), (103, .iinc 6 1, 3), (106, .goto (-89), 3), (109, .iload_n 3, 1), (110, .ifCond .ne 8, 3), (113, .iload 4, 2), (115, .goto 20, 3), (118, .iload_n 3, 1), (119, .iconst 1, 1), (120, .if_icmp .ne 8, 3), (123, .iload 5, 2), (125, .goto 10, 3), (128, .aload_n 0, 1), (129, .getfield 12, 3), (132, .getfield 42, 3), (135, .ireturn, 1)]
theorem kX0_judge : ckD cX0_judge tX0_judge = true := by decide +kernel
def tX0_darkTimesOf : List (Nat × Instr × Nat) := [(0, .iconst 0, 1), (1, .istore 4, 2), (3, .aload_n 0, 1), (4, .getfield 12, 3), (7, .aload_n 2, 1), (8, .invokevirtual 59, 3), (11, .iconst 0, 1), (12, .istore 5, 2), (14, .iload 5, 2), (16, .bipush 99, 2), (18, .if_icmp .ge 45, 3), (21, .aload_n 0, 1), (22, .getfield 12, 3), (25, .aload_n 1, 1), (26, .invokevirtual 63, 3), (29, .ifCond .ne 34, 3), (32, .aload_n 0, 1), (33, .getfield 12, 3), (36, .aload_n 1, 1), (37, .iconst 0, 1), (38, .invokevirtual 67, 3), (41, .iload 4, 2), (43, .aload_n 0, 1), (44, .getfield 12, 3), (47, .getfield 71, 3), (50, .iload_n 3, 1), (51, .ishr, 1), (52, .iconst 1, 1), (53, .iand, 1), (54, .iadd, 1), (55, .istore 4, 2), (57, .iinc 5 1, 3), (60, .goto (-46), 3), (63, .iload 4, 2), (65, .ireturn, 1)]
theorem kX0_darkTimesOf : ckD cX0_darkTimesOf tX0_darkTimesOf = true := by decide +kernel
def tX0_minutesTillHome : List (Nat × Instr × Nat) := [(0, .aload_n 0, 1), (1, .getfield 12, 3), (4, .aload_n 2, 1), (5, .invokevirtual 59, 3), (8, .iconst 0, 1), (9, .istore 4, 2), (11, .iload 4, 2), (13, .bipush 99, 2), (15, .if_icmp .ge 30, 3), (18, .aload_n 0, 1), (19, .getfield 12, 3), (22, .aload_n 1, 1), (23, .iload_n 3, 1), (24, .invokevirtual 74, 3), (27, .ifCond .ne 18, 3), (30, .aload_n 0, 1), (31, .getfield 12, 3), (34, .aload_n 1, 1), (35, .iconst 0, 1), (36, .invokevirtual 67, 3), (39, .iinc 4 1, 3), (42, .goto (-31), 3), (45, .aload_n 0, 1), (46, .getfield 12, 3), (49, .aload_n 1, 1), (50, .iload_n 3, 1), (51, .invokevirtual 74, 3), (54, .ifCond .eq 18, 3), (57, .aload_n 0, 1), (58, .getfield 12, 3), (61, .getfield 78, 3), (64, .aload_n 2, 1), (65, .getfield 78, 3), (68, .isub, 1), (69, .goto 4, 3), (72, .iconst (-1), 1), (73, .ireturn, 1)]
theorem kX0_minutesTillHome : ckD cX0_minutesTillHome tX0_minutesTillHome = true := by decide +kernel
def tX0_brightest : List (Nat × Instr × Nat) := [(0, .aload_n 0, 1), (1, .getfield 12, 3), (4, .aload_n 2, 1), (5, .invokevirtual 59, 3), (8, .aload_n 0, 1), (9, .getfield 12, 3), (12, .aload_n 1, 1), (13, .invokevirtual 81, 3), (16, .invokestatic 85, 3), (19, .istore_n 3, 1), (20, .iconst 0, 1), (21, .istore 4, 2), (23, .iconst 0, 1), (24, .istore 5, 2), (26, .iload 5, 2), (28, .bipush 99, 2), (30, .if_icmp .ge 57, 3), (33, .aload_n 0, 1), (34, .getfield 12, 3), (37, .aload_n 1, 1), (38, .invokevirtual 63, 3), (41, .ifCond .ne 46, 3), (44, .aload_n 0, 1), (45, .getfield 12, 3), (48, .aload_n 1, 1), (49, .iconst 0, 1), (50, .invokevirtual 67, 3), (53, .aload_n 0, 1), (54, .getfield 12, 3), (57, .aload_n 1, 1), (58, .invokevirtual 81, 3), (61, .invokestatic 85, 3), (64, .istore 6, 2), (66, .iload 6, 2), (68, .iload_n 3, 1), (69, .if_icmp .le 12, 3), (72, .iload 6, 2), (74, .istore_n 3, 1), (75, .iload 5, 2), (77, .iconst 1, 1), (78, .iadd, 1), (79, .istore 4, 2), (81, .iinc 5 1, 3), (84, .goto (-58), 3), (87, .iload 4, 2), (89, .ireturn, 1)]
theorem kX0_brightest : ckD cX0_brightest tX0_brightest = true := by decide +kernel
def tX0_litBehind : List (Nat × Instr × Nat) := [(0, .aload_n 0, 1), (1, .getfield 12, 3), (4, .aload_n 2, 1), (5, .invokevirtual 59, 3), (8, .iconst 0, 1), (9, .istore 5, 2), (11, .iload 5, 2), (13, .iload 4, 2), (15, .if_icmp .ge 18, 3), (18, .aload_n 0, 1), (19, .getfield 12, 3), (22, .aload_n 1, 1), (23, .iconst 0, 1), (24, .invokevirtual 67, 3), (27, .iinc 5 1, 3), (30, .goto (-19), 3), (33, .aload_n 0, 1), (34, .getfield 12, 3), (37, .getfield 91, 3), (40, .iload_n 3, 1), (41, .iaload, 1), (42, .ireturn, 1)]
theorem kX0_litBehind : ckD cX0_litBehind tX0_litBehind = true := by decide +kernel
def tX0_findDelays : List (Nat × Instr × Nat) := [(0, .aload_n 0, 1), (1, .getfield 28, 3), (4, .ifCond .eq 4, 3), (7, .return_, 1), (8, .aload_n 2, 1), (9, .aload_n 1, 1), (10, .invokevirtual 94, 3), (13, .istore_n 3, 1), (14, .iconst 1, 1), (15, .istore 4, 2), (17, .iconst 0, 1), (18, .istore 5, 2), (20, .iload 5, 2), (22, .aload_n 1, 1), (23, .getfield 97, 3), (26, .if_icmp .ge 29, 3), (29, .iload 4, 2), (31, .iload_n 3, 1), (32, .iload 5, 2), (34, .ishr, 1), (35, .iconst 1, 1), (36, .iand, 1), (37, .iconst 1, 1), (38, .if_icmp .ne 7, 3), (41, .iconst 1, 1), (42, .goto 4, 3), (45, .iconst 3, 1), (46, .imul, 1), (47, .istore 4, 2), (49, .iinc 5 1, 3), (52, .goto (-32), 3), (55, .aload_n 0, 1), (56, .ldc 102, 2), (58, .putfield 103, 3), (61, .aload_n 0, 1), (62, .iconst 0, 1), (63, .putfield 106, 3), (66, .iconst 0, 1), (67, .istore 5, 2), (69, .iload 5, 2), (71, .iload 4, 2), (73, .if_icmp .ge 26, 3), (76, .iload 5, 2), (78, .sipush 729, 3), (81, .if_icmp .ge 18, 3), (84, .aload_n 0, 1), (85, .aload_n 1, 1), (86, .aload_n 2, 1), (87, .iload_n 3, 1), (88, .iload 5, 2), (90, .invokevirtual 109, 3), (93, .iinc 5 1, 3), (96, .goto (-27), 3), (99, .aload_n 0, 1), (100, .iconst 1, 1), (101, .putfield 28, 3), (104, .return_, 1)]
theorem kX0_findDelays : ckD cX0_findDelays tX0_findDelays = true := by decide +kernel
def tX0_tryRow : List (Nat × Instr × Nat) := [(0, .aload_n 0, 1), (1, .aload_n 1, 1), (2, .iload_n 3, 1), (3, .iload 4, 2), (5, .invokevirtual 113, 3), (8, .istore 5, 2), (10, .aload_n 0, 1), (11, .getfield 103, 3), (14, .ifCond .ne 13, 3), (17, .iload 5, 2), (19, .aload_n 0, 1), (20, .getfield 106, 3), (23, .if_icmp .lt 4, 3), (26, .return_, 1), (27, .aload_n 0, 1), (28, .getfield 12, 3), (31, .aload_n 2, 1), (32, .invokevirtual 59, 3), (35, .iconst 0, 1), (36, .istore 6, 2), (38, .iload 6, 2), (40, .aload_n 1, 1), (41, .getfield 97, 3), (44, .if_icmp .ge 39, 3), (47, .iconst 0, 1), (48, .istore 7, 2), (50, .iload 7, 2), (52, .aload_n 0, 1), (53, .getfield 18, 3), (56, .iload 6, 2), (58, .iaload, 1), (59, .if_icmp .ge 18, 3), (62, .aload_n 0, 1), (63, .getfield 12, 3), (66, .iload 6, 2), (68, .invokevirtual 117, 3), (71, .iinc 7 1, 3), (74, .goto (-24), 3), (77, .iinc 6 1, 3), (80, .goto (-42), 3), (83, .aload_n 0, 1), (84, .aload_n 1, 1), (85, .iconst 0, 1), (86, .aload_n 0, 1), (87, .getfield 103, 3), (90, .invokevirtual 121, 3), (93, .istore 6, 2), (95, .iload 6, 2), (97, .aload_n 0, 1), (98, .getfield 103, 3), (101, .if_icmp .lt 21, 3), (104, .iload 6, 2), (106, .aload_n 0, 1), (107, .getfield 103, 3), (110, .if_icmp .ne 56, 3), (113, .iload 5, 2), (115, .aload_n 0, 1), (116, .getfield 106, 3), (119, .if_icmp .ge 47, 3), (122, .aload_n 0, 1), (123, .iload 6, 2), (125, .putfield 103, 3), (128, .aload_n 0, 1), (129, .iload 5, 2), (131, .putfield 106, 3), (134, .iconst 0, 1), (135, .istore 7, 2), (137, .iload 7, 2), (139, .aload_n 1, 1), (140, .getfield 97, 3), (143, .if_icmp .ge 23, 3), (146, .aload_n 0, 1), (147, .getfield 25, 3), (150, .iload 7, 2), (152, .aload_n 0, 1), (153, .getfield 18, 3), (156, .iload 7, 2), (158, .iaload, 1), (159, .iastore, 1), (160, .iinc 7 1, 3), (163, .goto (-26), 3), (166, .return_, 1)]
theorem kX0_tryRow : ckD cX0_tryRow tX0_tryRow = true := by decide +kernel
def tX0_layRow : List (Nat × Instr × Nat) := [(0, .iload_n 3, 1), (1, .istore 4, 2), (3, .iconst 0, 1), (4, .istore 5, 2), (6, .aload_n 1, 1), (7, .getfield 97, 3), (10, .iconst 1, 1), (11, .isub, 1), (12, .istore 6, 2), (14, .iload 6, 2), (16, .ifCond .lt 55, 3), (19, .aload_n 0, 1), (20, .getfield 18, 3), (23, .iload 6, 2), (25, .iconst 0, 1), (26, .iastore, 1), (27, .iload_n 2, 1), (28, .iload 6, 2), (30, .ishr, 1), (31, .iconst 1, 1), (32, .iand, 1), (33, .ifCond .ne 20, 3), (36, .aload_n 0, 1), (37, .getfield 18, 3), (40, .iload 6, 2), (42, .iload 4, 2), (44, .iconst 3, 1), (45, .irem, 1), (46, .iastore, 1), (47, .iload 4, 2), (49, .iconst 3, 1), (50, .idiv, 1), (51, .istore 4, 2), (53, .iload 5, 2), (55, .aload_n 0, 1), (56, .getfield 18, 3), (59, .iload 6, 2), (61, .iaload, 1), (62, .iadd, 1), (63, .istore 5, 2), (65, .iinc 6 (-1), 3), (68, .goto (-54), 3), (71, .iload 5, 2), (73, .ireturn, 1)]
theorem kX0_layRow : ckD cX0_layRow tX0_layRow = true := by decide +kernel
def tX0_darkTimesOfAll : List (Nat × Instr × Nat) := [(0, .aload_n 0, 1), (1, .getfield 12, 3), (4, .getfield 42, 3), (7, .istore 4, 2), (9, .iconst 0, 1), (10, .istore 5, 2), (12, .iload 5, 2), (14, .bipush 99, 2), (16, .if_icmp .ge 46, 3), (19, .aload_n 0, 1), (20, .getfield 12, 3), (23, .aload_n 1, 1), (24, .invokevirtual 63, 3), (27, .ifCond .ne 35, 3), (30, .aload_n 0, 1), (31, .getfield 12, 3), (34, .getfield 42, 3), (37, .iload 4, 2), (39, .isub, 1), (40, .iload_n 3, 1), (41, .if_icmp .le 6, 3), (44, .goto 18, 3), (47, .aload_n 0, 1), (48, .getfield 12, 3), (51, .aload_n 1, 1), (52, .iload_n 2, 1), (53, .invokevirtual 67, 3), (56, .iinc 5 1, 3), (59, .goto (-47), 3), (62, .aload_n 0, 1), (63, .getfield 12, 3), (66, .getfield 42, 3), (69, .iload 4, 2), (71, .isub, 1), (72, .ireturn, 1)]
theorem kX0_darkTimesOfAll : ckD cX0_darkTimesOfAll tX0_darkTimesOfAll = true := by decide +kernel
def tX0_fewestBoys : List (Nat × Instr × Nat) := [(0, .iconst (-1), 1), (1, .istore_n 3, 1), (2, .iconst 0, 1), (3, .istore 4, 2), (5, .iload 4, 2), (7, .iconst 1, 1), (8, .aload_n 1, 1), (9, .getfield 124, 3), (12, .ishl, 1), (13, .if_icmp .ge 52, 3), (16, .iload_n 3, 1), (17, .iconst (-1), 1), (18, .if_icmp .eq 15, 3), (21, .iload 4, 2), (23, .invokestatic 85, 3), (26, .iload_n 3, 1), (27, .invokestatic 85, 3), (30, .if_icmp .ge 7, 3), (33, .iconst 1, 1), (34, .goto 4, 3), (37, .iconst 0, 1), (38, .istore 5, 2), (40, .iload 5, 2), (42, .ifCond .eq 17, 3), (45, .aload_n 0, 1), (46, .aload_n 1, 1), (47, .aload_n 2, 1), (48, .iload 4, 2), (50, .invokevirtual 127, 3), (53, .ifCond .eq 6, 3), (56, .iload 4, 2), (58, .istore_n 3, 1), (59, .iinc 4 1, 3), (62, .goto (-57), 3), (65, .iload_n 3, 1), (66, .ireturn, 1)]
theorem kX0_fewestBoys : ckD cX0_fewestBoys tX0_fewestBoys = true := by decide +kernel
def tX0_isLightEnough : List (Nat × Instr × Nat) := [(0, .aload_n 0, 1), (1, .getfield 12, 3), (4, .aload_n 2, 1), (5, .invokevirtual 59, 3), (8, .iconst 0, 1), (9, .istore 4, 2), (11, .iload 4, 2), (13, .aload_n 1, 1), (14, .getfield 124, 3), (17, .if_icmp .ge 29, 3), (20, .iload_n 3, 1), (21, .iload 4, 2), (23, .ishr, 1), (24, .iconst 1, 1), (25, .iand, 1), (26, .iconst 1, 1), (27, .if_icmp .ne 13, 3), (30, .aload_n 0, 1), (31, .getfield 12, 3), (34, .aload_n 1, 1), (35, .iload 4, 2), (37, .invokevirtual 131, 3), (40, .iinc 4 1, 3), (43, .goto (-32), 3), (46, .aload_n 0, 1), (47, .aload_n 1, 1), (48, .iconst 0, 1), (49, .iconst 0, 1), (50, .invokevirtual 121, 3), (53, .ifCond .ne 7, 3), (56, .iconst 1, 1), (57, .goto 4, 3), (60, .iconst 0, 1), (61, .ireturn, 1)]
theorem kX0_isLightEnough : ckD cX0_isLightEnough tX0_isLightEnough = true := by decide +kernel
def tX0_neverWalked : List (Nat × Instr × Nat) := [(0, .iconst 0, 1), (1, .istore_n 3, 1), (2, .aload_n 0, 1), (3, .getfield 12, 3), (6, .aload_n 2, 1), (7, .invokevirtual 59, 3), (10, .iconst 0, 1), (11, .istore 4, 2), (13, .iload 4, 2), (15, .bipush 99, 2), (17, .if_icmp .ge 39, 3), (20, .aload_n 0, 1), (21, .getfield 12, 3), (24, .aload_n 1, 1), (25, .invokevirtual 63, 3), (28, .ifCond .ne 28, 3), (31, .aload_n 0, 1), (32, .getfield 12, 3), (35, .aload_n 1, 1), (36, .iconst 0, 1), (37, .invokevirtual 67, 3), (40, .iload_n 3, 1), (41, .aload_n 0, 1), (42, .getfield 12, 3), (45, .getfield 134, 3), (48, .ior, 1), (49, .istore_n 3, 1), (50, .iinc 4 1, 3), (53, .goto (-40), 3), (56, .iconst 1, 1), (57, .aload_n 1, 1), (58, .getfield 124, 3), (61, .ishl, 1), (62, .iconst 1, 1), (63, .isub, 1), (64, .iload_n 3, 1), (65, .iconst (-1), 1), (66, .ixor, 1), (67, .iand, 1), (68, .ireturn, 1)]
theorem kX0_neverWalked : ckD cX0_neverWalked tX0_neverWalked = true := by decide +kernel
def tX0_minutesTillMet : List (Nat × Instr × Nat) := [(0, .aload_n 0, 1), (1, .getfield 12, 3), (4, .aload_n 2, 1), (5, .invokevirtual 59, 3), (8, .iconst 0, 1), (9, .istore 5, 2), (11, .iload 5, 2), (13, .bipush 99, 2), (15, .if_icmp .ge 29, 3), (18, .aload_n 0, 1), (19, .aload_n 1, 1), (20, .iload_n 3, 1), (21, .iload 4, 2), (23, .invokevirtual 137, 3), (26, .ifCond .ne 18, 3), (29, .aload_n 0, 1), (30, .getfield 12, 3), (33, .aload_n 1, 1), (34, .iconst 0, 1), (35, .invokevirtual 67, 3), (38, .iinc 5 1, 3), (41, .goto (-30), 3), (44, .aload_n 0, 1), (45, .aload_n 1, 1), (46, .iload_n 3, 1), (47, .iload 4, 2), (49, .invokevirtual 137, 3), (52, .ifCond .eq 18, 3), (55, .aload_n 0, 1), (56, .getfield 12, 3), (59, .getfield 78, 3), (62, .aload_n 2, 1), (63, .getfield 78, 3), (66, .isub, 1), (67, .goto 4, 3), (70, .iconst (-1), 1), (71, .ireturn, 1)]
theorem kX0_minutesTillMet : ckD cX0_minutesTillMet tX0_minutesTillMet = true := by decide +kernel
def tX0_areTogether : List (Nat × Instr × Nat) := [(0, .aload_n 0, 1), (1, .getfield 12, 3), (4, .aload_n 1, 1), (5, .iload_n 2, 1), (6, .invokevirtual 141, 3), (9, .ifCond .eq 40, 3), (12, .aload_n 0, 1), (13, .getfield 12, 3), (16, .aload_n 1, 1), (17, .iload_n 3, 1), (18, .invokevirtual 141, 3), (21, .ifCond .eq 28, 3), (24, .aload_n 0, 1), (25, .getfield 12, 3), (28, .aload_n 1, 1), (29, .iload_n 2, 1), (30, .invokevirtual 144, 3), (33, .aload_n 0, 1), (34, .getfield 12, 3), (37, .aload_n 1, 1), (38, .iload_n 3, 1), (39, .invokevirtual 144, 3), (42, .if_icmp .ne 7, 3), (45, .iconst 1, 1), (46, .goto 4, 3), (49, .iconst 0, 1), (50, .ireturn, 1)]
theorem kX0_areTogether : ckD cX0_areTogether tX0_areTogether = true := by decide +kernel
def tX0_bestFollowed : List (Nat × Instr × Nat) := [(0, .iconst (-1), 1), (1, .istore_n 3, 1), (2, .iconst (-1), 1), (3, .istore 4, 2), (5, .aload_n 0, 1), (6, .getfield 12, 3), (9, .aload_n 2, 1), (10, .invokevirtual 59, 3), (13, .aload_n 0, 1), (14, .getfield 12, 3), (17, .aload_n 1, 1), (18, .invokevirtual 94, 3), (21, .istore 5, 2), (23, .iconst 0, 1), (24, .istore 6, 2), (26, .iload 6, 2), (28, .bipush 99, 2), (30, .if_icmp .ge 132, 3), (33, .aload_n 0, 1), (34, .getfield 12, 3), (37, .aload_n 1, 1), (38, .invokevirtual 63, 3), (41, .ifCond .ne 121, 3), (44, .aload_n 0, 1), (45, .getfield 12, 3), (48, .aload_n 1, 1), (49, .iconst 0, 1), (50, .invokevirtual 67, 3), (53, .aload_n 0, 1), (54, .getfield 12, 3), (57, .aload_n 1, 1), (58, .invokevirtual 94, 3), (61, .iload 5, 2), (63, .iconst (-1), 1), (64, .ixor, 1), (65, .iand, 1), (66, .istore 7, 2), (68, .aload_n 0, 1), (69, .getfield 12, 3), (72, .aload_n 1, 1), (73, .invokevirtual 81, 3), (76, .invokestatic 85, 3), (79, .istore 8, 2), (81, .iconst 0, 1), (82, .istore 9, 2), (84, .iload 9, 2), (86, .aload_n 1, 1), (87, .getfield 97, 3), (90, .if_icmp .ge 59, 3), (93, .iload 8, 2), (95, .iload 4, 2), (97, .if_icmp .gt 16, 3), (100, .iload 8, 2), (102, .iload 4, 2), (104, .if_icmp .ne 13, 3), (107, .iload 9, 2), (109, .iload_n 3, 1), (110, .if_icmp .ge 7, 3), (113, .iconst 1, 1), (114, .goto 4, 3), (117, .iconst 0, 1), (118, .istore 10, 2), (120, .iload 7, 2), (122, .iload 9, 2), (124, .ishr, 1), (125, .iconst 1, 1), (126, .iand, 1), (127, .iconst 1, 1), (128, .if_icmp .ne 15, 3), (131, .iload 10, 2), (133, .ifCond .eq 10, 3), (136, .iload 9, 2), (138, .istore_n 3, 1), (139, .iload 8, 2), (141, .istore 4, 2), (143, .iinc 9 1, 3), (146, .goto (-62), 3), (149, .iload 5, 2), (151, .iload 7, 2), (153, .ior, 1), (154, .istore 5, 2), (156, .iinc 6 1, 3), (159, .goto (-133), 3), (162, .iload_n 3, 1), (163, .ireturn, 1)]
theorem kX0_bestFollowed : ckD cX0_bestFollowed tX0_bestFollowed = true := by decide +kernel
def tX0_fittingSets : List (Nat × Instr × Nat) := [(0, .aload_n 2, 1), (1, .aload_n 1, 1), (2, .invokevirtual 94, 3), (5, .iconst (-1), 1), (6, .ixor, 1), (7, .iconst 1, 1), (8, .aload_n 1, 1), (9, .getfield 97, 3), (12, .ishl, 1), (13, .iconst 1, 1), (14, .isub, 1), (15, .iand, 1), (16, .istore 5, 2), (18, .iconst 0, 1), (19, .istore 6, 2), (21, .iload 5, 2), (23, .istore 7, 2), (25, .iconst 0, 1), (26, .istore 8, 2), (28, .iconst 0, 1), (29, .istore 9, 2), (31, .iload 9, 2), (33, .iload 5, 2), (35, .if_icmp .gt 50, 3), (38, .iload 9, 2), (40, .iload 5, 2), (42, .iconst (-1), 1), (43, .ixor, 1), (44, .iand, 1), (45, .ifCond .ne 34, 3), (48, .aload_n 0, 1), (49, .aload_n 1, 1), (50, .aload_n 2, 1), (51, .aload_n 3, 1), (52, .iload 9, 2), (54, .iconst 0, 1), (55, .invokevirtual 148, 3), (58, .iconst (-1), 1), (59, .if_icmp .eq 20, 3), (62, .iinc 6 1, 3), (65, .iload 7, 2), (67, .iload 9, 2), (69, .iand, 1), (70, .istore 7, 2), (72, .iload 8, 2), (74, .iload 9, 2), (76, .ior, 1), (77, .istore 8, 2), (79, .iinc 9 1, 3), (82, .goto (-51), 3), (85, .iload 4, 2), (87, .ifCond .ne 6, 3), (90, .iload 6, 2), (92, .ireturn, 1), (93, .iload 6, 2), (95, .ifCond .ne 7, 3), (98, .iconst (-1), 1), (99, .goto 16, 3), (102, .iload 4, 2), (104, .iconst 1, 1), (105, .if_icmp .ne 8, 3), (108, .iload 7, 2), (110, .goto 5, 3), (113, .iload 8, 2), (115, .ireturn, 1)]
theorem kX0_fittingSets : ckD cX0_fittingSets tX0_fittingSets = true := by decide +kernel
def tX0_laneToWatch : List (Nat × Instr × Nat) := [(0, .aload_n 2, 1), (1, .aload_n 1, 1), (2, .invokevirtual 94, 3), (5, .iconst (-1), 1), (6, .ixor, 1), (7, .iconst 1, 1), (8, .aload_n 1, 1), (9, .getfield 97, 3), (12, .ishl, 1), (13, .iconst 1, 1), (14, .isub, 1), (15, .iand, 1), (16, .istore 5, 2), (18, .iconst 0, 1), (19, .istore 6, 2), (21, .iconst 0, 1), (22, .istore 7, 2), (24, .iload 7, 2), (26, .aload_n 1, 1), (27, .getfield 124, 3), (30, .if_icmp .ge 17, 3), (33, .aload_n 0, 1), (34, .getfield 22, 3), (37, .iload 7, 2), (39, .iconst 0, 1), (40, .iastore, 1), (41, .iinc 7 1, 3), (44, .goto (-20), 3), (47, .iconst 0, 1), (48, .istore 7, 2), (50, .iload 7, 2), (52, .iload 5, 2), (54, .if_icmp .gt 80, 3), (57, .iload 7, 2), (59, .iload 5, 2), (61, .iconst (-1), 1), (62, .ixor, 1), (63, .iand, 1), (64, .ifCond .ne 17, 3), (67, .aload_n 0, 1), (68, .aload_n 1, 1), (69, .aload_n 2, 1), (70, .aload_n 3, 1), (71, .iload 7, 2), (73, .iload 4, 2), (75, .invokevirtual 148, 3), (78, .goto 4, 3), (81, .iconst (-1), 1), (82, .istore 8, 2), (84, .iload 8, 2), (86, .iconst (-1), 1), (87, .if_icmp .eq 41, 3), (90, .iinc 6 1, 3), (93, .iconst 0, 1), (94, .istore 9, 2), (96, .iload 9, 2), (98, .aload_n 1, 1), (99, .getfield 124, 3), (102, .if_icmp .ge 26, 3), (105, .aload_n 0, 1), (106, .getfield 22, 3), (109, .iload 9, 2), (111, .dup2, 1), (112, .iaload, 1), (113, .iload 8, 2), (115, .iload 9, 2), (117, .ishr, 1), (118, .iconst 1, 1), (119, .iand, 1), (120, .iadd, 1), (121, .iastore, 1), (122, .iinc 9 1, 3), (125, .goto (-29), 3), (128, .iinc 7 1, 3), (131, .goto (-81), 3), (134, .iconst (-1), 1), (135, .istore 7, 2), (137, .iload 6, 2), (139, .istore 8, 2), (141, .iconst 0, 1), (142, .istore 9, 2), (144, .iload 9, 2), (146, .aload_n 1, 1), (147, .getfield 124, 3), (150, .if_icmp .ge 46, 3), (153, .aload_n 0, 1), (154, .getfield 22, 3), (157, .iload 9, 2), (159, .iaload, 1), (160, .iload 6, 2), (162, .aload_n 0, 1), (163, .getfield 22, 3), (166, .iload 9, 2), (168, .iaload, 1), (169, .isub, 1), (170, .invokestatic 152, 3), (173, .istore 10, 2), (175, .iload 10, 2), (177, .iload 8, 2), (179, .if_icmp .ge 11, 3), (182, .iload 10, 2), (184, .istore 8, 2), (186, .iload 9, 2), (188, .istore 7, 2), (190, .iinc 9 1, 3), (193, .goto (-49), 3), (196, .iload 7, 2), (198, .ireturn, 1)]
theorem kX0_laneToWatch : ckD cX0_laneToWatch tX0_laneToWatch = true := by decide +kernel
def tX0_litBySet : List (Nat × Instr × Nat) := [(0, .aload_n 0, 1), (1, .getfield 12, 3), (4, .aload_n 2, 1), (5, .invokevirtual 59, 3), (8, .iconst 0, 1), (9, .istore 6, 2), (11, .iload 6, 2), (13, .aload_n 1, 1), (14, .getfield 97, 3), (17, .if_icmp .ge 28, 3), (20, .iload 4, 2), (22, .iload 6, 2), (24, .ishr, 1), (25, .iconst 1, 1), (26, .iand, 1), (27, .ifCond .ne 12, 3), (30, .aload_n 0, 1), (31, .getfield 12, 3), (34, .iload 6, 2), (36, .invokevirtual 158, 3), (39, .iinc 6 1, 3), (42, .goto (-31), 3), (45, .iload 5, 2), (47, .aload_n 3, 1), (48, .invokevirtual 161, 3), (51, .invokestatic 152, 3), (54, .istore 6, 2), (56, .iconst 0, 1), (57, .istore 7, 2), (59, .iconst 0, 1), (60, .istore 8, 2), (62, .iload 8, 2), (64, .iload 6, 2), (66, .if_icmp .gt 57, 3), (69, .aload_n 0, 1), (70, .getfield 12, 3), (73, .aload_n 1, 1), (74, .invokevirtual 81, 3), (77, .istore 9, 2), (79, .aload_n 3, 1), (80, .iload 8, 2), (82, .iload 9, 2), (84, .invokevirtual 167, 3), (87, .ifCond .ne 5, 3), (90, .iconst (-1), 1), (91, .ireturn, 1), (92, .iload 8, 2), (94, .iload 5, 2), (96, .if_icmp .ne 8, 3), (99, .iload 9, 2), (101, .goto 5, 3), (104, .iload 7, 2), (106, .istore 7, 2), (108, .aload_n 0, 1), (109, .getfield 12, 3), (112, .aload_n 1, 1), (113, .iconst 0, 1), (114, .invokevirtual 67, 3), (117, .iinc 8 1, 3), (120, .goto (-58), 3), (123, .iload 7, 2), (125, .ireturn, 1)]
theorem kX0_litBySet : ckD cX0_litBySet tX0_litBySet = true := by decide +kernel
def tX0_oilWithout : List (Nat × Instr × Nat) := [(0, .aload_n 0, 1), (1, .getfield 12, 3), (4, .aload_n 2, 1), (5, .invokevirtual 59, 3), (8, .iload_n 3, 1), (9, .iconst (-1), 1), (10, .if_icmp .eq 11, 3), (13, .aload_n 0, 1), (14, .getfield 12, 3), (17, .iload_n 3, 1), (18, .invokevirtual 158, 3), (21, .aload_n 0, 1), (22, .aload_n 1, 1), (23, .invokevirtual 171, 3), (26, .ireturn, 1)]
theorem kX0_oilWithout : ckD cX0_oilWithout tX0_oilWithout = true := by decide +kernel
def tX0_oilToTheEnd : List (Nat × Instr × Nat) := [(0, .iconst 0, 1), (1, .istore_n 2, 1), (2, .iconst 0, 1), (3, .istore_n 3, 1), (4, .iload_n 3, 1), (5, .bipush 99, 2), (7, .if_icmp .ge 43, 3), (10, .aload_n 0, 1), (11, .getfield 12, 3), (14, .aload_n 1, 1), (15, .invokevirtual 63, 3), (18, .ifCond .ne 32, 3), (21, .aload_n 0, 1), (22, .getfield 12, 3), (25, .aload_n 1, 1), (26, .iconst 0, 1), (27, .invokevirtual 67, 3), (30, .iload_n 2, 1), (31, .aload_n 0, 1), (32, .getfield 12, 3), (35, .aload_n 1, 1), (36, .invokevirtual 81, 3), (39, .invokestatic 85, 3), (42, .iadd, 1), (43, .istore_n 2, 1), (44, .iinc 3 1, 3), (47, .goto (-43), 3), (50, .iload_n 2, 1), (51, .ireturn, 1)]
theorem kX0_oilToTheEnd : ckD cX0_oilToTheEnd tX0_oilToTheEnd = true := by decide +kernel
def tX0_darkTimesIfLonger : List (Nat × Instr × Nat) := [(0, .aload_n 0, 1), (1, .getfield 12, 3), (4, .aload_n 2, 1), (5, .invokevirtual 59, 3), (8, .aload_n 0, 1), (9, .aload_n 1, 1), (10, .iload_n 3, 1), (11, .ldc 102, 2), (13, .invokevirtual 121, 3), (16, .ireturn, 1)]
theorem kX0_darkTimesIfLonger : ckD cX0_darkTimesIfLonger tX0_darkTimesIfLonger = true := by decide +kernel
def tX0_drawnNights : List (Nat × Instr × Nat) := [(0, .iload_n 2, 1), (1, .i2l, 1), (2, .lstore 5, 2), (4, .iconst 0, 1), (5, .istore 7, 2), (7, .iconst 0, 1), (8, .istore 8, 2), (10, .iconst 0, 1), (11, .istore 9, 2), (13, .iconst 0, 1), (14, .istore 10, 2), (16, .iload 10, 2), (18, .iload_n 3, 1), (19, .if_icmp .ge 108, 3), (22, .aload_n 0, 1), (23, .getfield 12, 3), (26, .aload_n 1, 1), (27, .invokevirtual 32, 3), (30, .iconst 0, 1), (31, .istore 11, 2), (33, .iload 11, 2), (35, .aload_n 1, 1), (36, .getfield 97, 3), (39, .if_icmp .ge 46, 3), (42, .lload 5, 2), (44, .ldc2_w 174, 3), (47, .lmul, 1), (48, .ldc2_w 176, 3), (51, .ladd, 1), (52, .ldc2_w 178, 3), (55, .lrem, 1), (56, .lstore 5, 2), (58, .aload_n 0, 1), (59, .getfield 12, 3), (62, .getfield 180, 3), (65, .iload 11, 2), (67, .lload 5, 2), (69, .ldc2_w 183, 3), (72, .ldiv, 1), (73, .ldc2_w 185, 3), (76, .lrem, 1), (77, .l2i, 1), (78, .iastore, 1), (79, .iinc 11 1, 3), (82, .goto (-49), 3), (85, .iload 9, 2), (87, .aload_n 0, 1), (88, .aload_n 1, 1), (89, .invokevirtual 171, 3), (92, .iadd, 1), (93, .istore 9, 2), (95, .iload 7, 2), (97, .aload_n 0, 1), (98, .getfield 12, 3), (101, .getfield 42, 3), (104, .iadd, 1), (105, .istore 7, 2), (107, .iload 8, 2), (109, .aload_n 0, 1), (110, .getfield 12, 3), (113, .getfield 42, 3), (116, .invokestatic 152, 3), (119, .istore 8, 2), (121, .iinc 10 1, 3), (124, .goto (-108), 3), (127, .iload 4, 2), (129, .ifCond .ne 8, 3), (132, .iload 7, 2), (134, .goto 16, 3), (137, .iload 4, 2), (139, .iconst 1, 1), (140, .if_icmp .ne 8, 3), (143, .iload 8, 2), (145, .goto 5, 3), (148, .iload 9, 2), (150, .ireturn, 1)]
theorem kX0_drawnNights : ckD cX0_drawnNights tX0_drawnNights = true := by decide +kernel
def tX1_init : List (Nat × Instr × Nat) := [(0, .aload_n 0, 1), (1, .invokespecial 1, 3), (4, .aload_n 0, 1), (5, .sipush 1000, 3), (8, .newarray .short, 2), (10, .putfield 9, 3), (13, .aload_n 0, 1), (14, .bipush 32, 2), (16, .newarray .int, 2), (18, .putfield 15, 3), (21, .return_, 1)]
theorem kX1_init : ckD cX1_init tX1_init = true := by decide +kernel
def tX1_add : List (Nat × Instr × Nat) := [(0, .aload_n 0, 1), (1, .getfield 19, 3), (4, .aload_n 0, 1), (5, .getfield 9, 3), (8, .arraylength, 1), (9, .if_icmp .ge 24, 3), (12, .aload_n 0, 1), (13, .getfield 9, 3), (16, .aload_n 0, 1), (17, .getfield 19, 3), (20, .iload_n 1, 1), (21, .i2s, 1), (22, .sastore, 1), (23, .aload_n 0, 1), (24, .dup, 1), (25, .getfield 19, 3), (28, .iconst 1, 1), (29, .iadd, 1), (30, .putfield 19, 3), (33, .return_, 1)]
theorem kX1_add : ckD cX1_add tX1_add = true := by decide +kernel
def tX1_tells : List (Nat × Instr × Nat) := [(0, .aload_n 0, 1), (1, .getfield 19, 3), (4, .ifCond .ne 10, 3), (7, .iload_n 1, 1), (8, .bipush 30, 2), (10, .invokestatic 23, 3), (13, .ireturn, 1), (14, .iconst 0, 1), (15, .istore 5, 2), (17, .iconst 0, 1), (18, .istore 6, 2), (20, .iload 6, 2), (22, .aload_n 0, 1), (23, .getfield 19, 3), (26, .if_icmp .ge 181, 3), (29, .aload_n 0, 1), (30, .getfield 9, 3), (33, .iload 6, 2), (35, .saload, 1), (36, .istore 7, 2), (38, .iload 7, 2), (40, .bipush 8, 2), (42, .if_icmp .lt 73, 3), (45, .iload 5, 2), (47, .bipush 32, 2), (49, .if_icmp .ge 66, 3), (52, .aload_n 0, 1), (53, .getfield 15, 3), (56, .iload 5, 2), (58, .iload 7, 2), (60, .bipush 8, 2), (62, .if_icmp .ne 7, 3), (65, .iload_n 1, 1), (66, .goto 42, 3), (69, .iload 7, 2), (71, .bipush 9, 2), (73, .if_icmp .ne 7, 3), (76, .iload_n 2, 1), (77, .goto 31, 3), (80, .iload 7, 2), (82, .bipush 10, 2), (84, .if_icmp .ne 7, 3), (87, .iload_n 3, 1), (88, .goto 20, 3), (91, .iload 7, 2), (93, .bipush 11, 2), (95, .if_icmp .ne 8, 3), (98, .iload 4, 2), (100, .goto 8, 3), (103, .iload 7, 2), (105, .bipush 12, 2), (107, .isub, 1), (108, .iastore, 1), (109, .iinc 5 1, 3), (112, .goto 89, 3), (115, .iload 7, 2), (117, .ifCond .ne 38, 3), (120, .iload 5, 2), (122, .iconst 1, 1), (123, .if_icmp .lt 32, 3), (126, .aload_n 0, 1), (127, .getfield 15, 3), (130, .iload 5, 2), (132, .iconst 1, 1), (133, .isub, 1), (134, .aload_n 0, 1), (135, .getfield 15, 3), (138, .iload 5, 2), (140, .iconst 1, 1), (141, .isub, 1), (142, .iaload, 1), (143, .ifCond .ne 7, 3), (146, .iconst 1, 1), (147, .goto 4, 3), (150, .iconst 0, 1), (151, .iastore, 1), (152, .goto 49, 3), (155, .iload 7, 2), (157, .bipush 8, 2), (159, .if_icmp .ge 42, 3), (162, .iload 5, 2), (164, .iconst 2, 1), (165, .if_icmp .lt 36, 3), (168, .iinc 5 (-1), 3), (171, .aload_n 0, 1), (172, .getfield 15, 3), (175, .iload 5, 2), (177, .iconst 1, 1), (178, .isub, 1), (179, .iload 7, 2), (181, .aload_n 0, 1), (182, .getfield 15, 3), (185, .iload 5, 2), (187, .iconst 1, 1), (188, .isub, 1), (189, .iaload, 1), (190, .aload_n 0, 1), (191, .getfield 15, 3), (194, .iload 5, 2), (196, .iaload, 1), (197, .invokestatic 29, 3), (200, .iastore, 1), (201, .iinc 6 1, 3), (204, .goto (-184), 3), (207, .iconst 0, 1), (208, .aload_n 0, 1), (209, .getfield 15, 3), (212, .iconst 0, 1), (213, .iaload, 1), (214, .bipush 30, 2), (216, .invokestatic 23, 3), (219, .invokestatic 33, 3), (222, .ireturn, 1)]
theorem kX1_tells : ckD cX1_tells tX1_tells = true := by decide +kernel
def tX1_joined : List (Nat × Instr × Nat) := [(0, .iload_n 0, 1), (1, .tableswitch 97 1 6 #[39, 53, 67, 78, 89, 93], 39), (40, .iload_n 1, 1), (41, .ifCond .eq 11, 3), (44, .iload_n 2, 1), (45, .ifCond .eq 7, 3), (48, .iconst 1, 1), (49, .goto 4, 3), (52, .iconst 0, 1), (53, .ireturn, 1), (54, .iload_n 1, 1), (55, .ifCond .ne 7, 3), (58, .iload_n 2, 1), (59, .ifCond .eq 7, 3), (62, .iconst 1, 1), (63, .goto 4, 3), (66, .iconst 0, 1), (67, .ireturn, 1), (68, .iload_n 1, 1), (69, .iload_n 2, 1), (70, .if_icmp .ge 7, 3), (73, .iconst 1, 1), (74, .goto 4, 3), (77, .iconst 0, 1), (78, .ireturn, 1), (79, .iload_n 1, 1), (80, .iload_n 2, 1), (81, .if_icmp .ne 7, 3), (84, .iconst 1, 1), (85, .goto 4, 3), (88, .iconst 0, 1), (89, .ireturn, 1), (90, .iload_n 1, 1), (91, .iload_n 2, 1), (92, .iadd, 1), (93, .ireturn, 1), (94, .iload_n 1, 1), (95, .iload_n 2, 1), (96, .isub, 1), (97, .ireturn, 1), (98, .iload_n 1, 1), (99, .iload_n 2, 1), (100, .imul, 1), (101, .ireturn, 1)]
theorem kX1_joined : ckD cX1_joined tX1_joined = true := by decide +kernel
def tX2_init : List (Nat × Instr × Nat) := [(0, .aload_n 0, 1), (1, .invokespecial 1, 3), (4, .aload_n 0, 1), (5, .bipush 40, 2), (7, .newarray .byte, 2), (9, .putfield 9, 3), (12, .aload_n 0, 1), (13, .bipush 40, 2), (15, .newarray .byte, 2), (17, .putfield 13, 3), (20, .aload_n 0, 1), (21, .bipush 40, 2), (23, .newarray .byte, 2), (25, .putfield 16, 3), (28, .return_, 1)]
theorem kX2_init : ckD cX2_init tX2_init = true := by decide +kernel
def tX2_add : List (Nat × Instr × Nat) := [(0, .aload_n 0, 1), (1, .getfield 19, 3), (4, .bipush 40, 2), (6, .if_icmp .ge 46, 3), (9, .aload_n 0, 1), (10, .getfield 9, 3), (13, .aload_n 0, 1), (14, .getfield 19, 3), (17, .iload_n 1, 1), (18, .i2b, 1), (19, .bastore, 1), (20, .aload_n 0, 1), (21, .getfield 13, 3), (24, .aload_n 0, 1), (25, .getfield 19, 3), (28, .iload_n 2, 1), (29, .i2b, 1), (30, .bastore, 1), (31, .aload_n 0, 1), (32, .getfield 16, 3), (35, .aload_n 0, 1), (36, .getfield 19, 3), (39, .iload_n 3, 1), (40, .i2b, 1), (41, .bastore, 1), (42, .aload_n 0, 1), (43, .dup, 1), (44, .getfield 19, 3), (47, .iconst 1, 1), (48, .iadd, 1), (49, .putfield 19, 3), (52, .return_, 1)]
theorem kX2_add : ckD cX2_add tX2_add = true := by decide +kernel
def tX2_copyFrom : List (Nat × Instr × Nat) := [(0, .aload_n 0, 1), (1, .aload_n 1, 1), (2, .getfield 19, 3), (5, .putfield 19, 3), (8, .aload_n 1, 1), (9, .getfield 9, 3), (12, .iconst 0, 1), (13, .aload_n 0, 1), (14, .getfield 9, 3), (17, .iconst 0, 1), (18, .bipush 40, 2), (20, .invokestatic 23, 3), (23, .aload_n 1, 1), (24, .getfield 13, 3), (27, .iconst 0, 1), (28, .aload_n 0, 1), (29, .getfield 13, 3), (32, .iconst 0, 1), (33, .bipush 40, 2), (35, .invokestatic 23, 3), (38, .aload_n 1, 1), (39, .getfield 16, 3), (42, .iconst 0, 1), (43, .aload_n 0, 1), (44, .getfield 16, 3), (47, .iconst 0, 1), (48, .bipush 40, 2), (50, .invokestatic 23, 3), (53, .return_, 1)]
theorem kX2_copyFrom : ckD cX2_copyFrom tX2_copyFrom = true := by decide +kernel
def tX3_init : List (Nat × Instr × Nat) := [(0, .aload_n 0, 1), (1, .invokespecial 1, 3), (4, .aload_n 0, 1), (5, .new 7, 3), (8, .dup, 1), (9, .invokespecial 9, 3), (12, .putfield 10, 3), (15, .aload_n 0, 1), (16, .new 16, 3), (19, .dup, 1), (20, .invokespecial 18, 3), (23, .putfield 19, 3), (26, .aload_n 0, 1), (27, .new 23, 3), (30, .dup, 1), (31, .invokespecial 25, 3), (34, .putfield 26, 3), (37, .return_, 1)]
theorem kX3_init : ckD cX3_init tX3_init = true := by decide +kernel
def tX3_lay : List (Nat × Instr × Nat) := [(0, .aload_n 0, 1), (1, .iconst 1, 1), (2, .putfield 30, 3), (5, .aload_n 0, 1), (6, .getfield 10, 3), (9, .aload_n 1, 1), (10, .invokevirtual 34, 3), (13, .aload_n 0, 1), (14, .getfield 19, 3), (17, .aload_n 2, 1), (18, .invokevirtual 38, 3), (21, .aload_n 0, 1), (22, .getfield 26, 3), (25, .aload_n 3, 1), (26, .invokevirtual 41, 3), (29, .return_, 1)]
theorem kX3_lay : ckD cX3_lay tX3_lay = true := by decide +kernel
def tX4_init : List (Nat × Instr × Nat) := [(0, .aload_n 0, 1), (1, .invokespecial 3, 3), (4, .aload_n 0, 1), (5, .bipush 8, 2), (7, .newarray .int, 2), (9, .putfield 9, 3), (12, .aload_n 0, 1), (13, .bipush 6, 2), (15, .newarray .int, 2), (17, .putfield 15, 3), (20, .aload_n 0, 1), (21, .bipush 6, 2), (23, .newarray .int, 2), (25, .putfield 18, 3), (28, .aload_n 0, 1), (29, .bipush 6, 2), (31, .newarray .int, 2), (33, .putfield 21, 3), (36, .aload_n 0, 1), (37, .bipush 6, 2), (39, .newarray .int, 2), (41, .putfield 24, 3), (44, .aload_n 0, 1), (45, .bipush 8, 2), (47, .newarray .int, 2), (49, .putfield 27, 3), (52, .return_, 1)]
theorem kX4_init : ckD cX4_init tX4_init = true := by decide +kernel
def tX4_begin : List (Nat × Instr × Nat) := [(0, .aload_n 0, 1), (1, .iconst 0, 1), (2, .putfield 30, 3), (5, .aload_n 0, 1), (6, .iconst 0, 1), (7, .putfield 34, 3), (10, .aload_n 0, 1), (11, .iconst 0, 1), (12, .putfield 37, 3), (15, .iconst 0, 1), (16, .istore_n 2, 1), (17, .iload_n 2, 1), (18, .bipush 8, 2), (20, .if_icmp .ge 16, 3), (23, .aload_n 0, 1), (24, .getfield 9, 3), (27, .iload_n 2, 1), (28, .iconst 0, 1), (29, .iastore, 1), (30, .iinc 2 1, 3), (33, .goto (-16), 3), (36, .iconst 0, 1), (37, .istore_n 2, 1), (38, .iload_n 2, 1), (39, .aload_n 1, 1), (40, .getfield 40, 3), (43, .if_icmp .ge 52, 3), (46, .aload_n 0, 1), (47, .getfield 15, 3), (50, .iload_n 2, 1), (51, .aload_n 1, 1), (52, .getfield 45, 3), (55, .iload_n 2, 1), (56, .iaload, 1), (57, .iastore, 1), (58, .aload_n 0, 1), (59, .getfield 18, 3), (62, .iload_n 2, 1), (63, .aload_n 1, 1), (64, .getfield 48, 3), (67, .iload_n 2, 1), (68, .iaload, 1), (69, .iastore, 1), (70, .aload_n 0, 1), (71, .getfield 21, 3), (74, .iload_n 2, 1), (75, .aload_n 1, 1), (76, .getfield 51, 3), (79, .iload_n 2, 1), (80, .iaload, 1), (81, .iastore, 1), (82, .aload_n 0, 1), (83, .getfield 24, 3), (86, .iload_n 2, 1), (87, .iconst 0, 1), (88, .iastore, 1), (89, .iinc 2 1, 3), (92, .goto (-54), 3), (95, .return_, 1)]
theorem kX4_begin : ckD cX4_begin tX4_begin = true := by decide +kernel
def tX4_copyFrom : List (Nat × Instr × Nat) := [(0, .aload_n 0, 1), (1, .aload_n 1, 1), (2, .getfield 30, 3), (5, .putfield 30, 3), (8, .aload_n 0, 1), (9, .aload_n 1, 1), (10, .getfield 34, 3), (13, .putfield 34, 3), (16, .aload_n 0, 1), (17, .aload_n 1, 1), (18, .getfield 37, 3), (21, .putfield 37, 3), (24, .aload_n 1, 1), (25, .getfield 9, 3), (28, .iconst 0, 1), (29, .aload_n 0, 1), (30, .getfield 9, 3), (33, .iconst 0, 1), (34, .bipush 8, 2), (36, .invokestatic 54, 3), (39, .aload_n 1, 1), (40, .getfield 15, 3), (43, .iconst 0, 1), (44, .aload_n 0, 1), (45, .getfield 15, 3), (48, .iconst 0, 1), (49, .bipush 6, 2), (51, .invokestatic 54, 3), (54, .aload_n 1, 1), (55, .getfield 18, 3), (58, .iconst 0, 1), (59, .aload_n 0, 1), (60, .getfield 18, 3), (63, .iconst 0, 1), (64, .bipush 6, 2), (66, .invokestatic 54, 3), (69, .aload_n 1, 1), (70, .getfield 21, 3), (73, .iconst 0, 1), (74, .aload_n 0, 1), (75, .getfield 21, 3), (78, .iconst 0, 1), (79, .bipush 6, 2), (81, .invokestatic 54, 3), (84, .aload_n 1, 1), (85, .getfield 24, 3), (88, .iconst 0, 1), (89, .aload_n 0, 1), (90, .getfield 24, 3), (93, .iconst 0, 1), (94, .bipush 6, 2), (96, .invokestatic 54, 3), (99, .return_, 1)]
theorem kX4_copyFrom : ckD cX4_copyFrom tX4_copyFrom = true := by decide +kernel
def tX4_isHome : List (Nat × Instr × Nat) := [(0, .aload_n 1, 1), (1, .aload_n 0, 1), (2, .getfield 15, 3), (5, .iload_n 2, 1), (6, .iaload, 1), (7, .aload_n 0, 1), (8, .getfield 18, 3), (11, .iload_n 2, 1), (12, .iaload, 1), (13, .invokevirtual 60, 3), (16, .iconst (-1), 1), (17, .if_icmp .ne 7, 3), (20, .iconst 1, 1), (21, .goto 4, 3), (24, .iconst 0, 1), (25, .ireturn, 1)]
theorem kX4_isHome : ckD cX4_isHome tX4_isHome = true := by decide +kernel
def tX4_isOut : List (Nat × Instr × Nat) := [(0, .aload_n 0, 1), (1, .getfield 30, 3), (4, .aload_n 0, 1), (5, .getfield 21, 3), (8, .iload_n 2, 1), (9, .iaload, 1), (10, .if_icmp .lt 16, 3), (13, .aload_n 0, 1), (14, .aload_n 1, 1), (15, .iload_n 2, 1), (16, .invokevirtual 64, 3), (19, .ifCond .ne 7, 3), (22, .iconst 1, 1), (23, .goto 4, 3), (26, .iconst 0, 1), (27, .ireturn, 1)]
theorem kX4_isOut : ckD cX4_isOut tX4_isOut = true := by decide +kernel
def tX4_isAllHome : List (Nat × Instr × Nat) := [(0, .iconst 0, 1), (1, .istore_n 2, 1), (2, .iload_n 2, 1), (3, .aload_n 1, 1), (4, .getfield 40, 3), (7, .if_icmp .ge 20, 3), (10, .aload_n 0, 1), (11, .aload_n 1, 1), (12, .iload_n 2, 1), (13, .invokevirtual 64, 3), (16, .ifCond .ne 5, 3), (19, .iconst 0, 1), (20, .ireturn, 1), (21, .iinc 2 1, 3), (24, .goto (-22), 3), (27, .iconst 1, 1), (28, .ireturn, 1)]
theorem kX4_isAllHome : ckD cX4_isAllHome tX4_isAllHome = true := by decide +kernel
def tX4_homeBits : List (Nat × Instr × Nat) := [(0, .iconst 0, 1), (1, .istore_n 2, 1), (2, .iconst 0, 1), (3, .istore_n 3, 1), (4, .iload_n 3, 1), (5, .aload_n 1, 1), (6, .getfield 40, 3), (9, .if_icmp .ge 24, 3), (12, .aload_n 0, 1), (13, .aload_n 1, 1), (14, .iload_n 3, 1), (15, .invokevirtual 64, 3), (18, .ifCond .eq 9, 3), (21, .iload_n 2, 1), (22, .iconst 1, 1), (23, .iload_n 3, 1), (24, .ishl, 1), (25, .ior, 1), (26, .istore_n 2, 1), (27, .iinc 3 1, 3), (30, .goto (-26), 3), (33, .iload_n 2, 1), (34, .ireturn, 1)]
theorem kX4_homeBits : ckD cX4_homeBits tX4_homeBits = true := by decide +kernel
def tX4_litBits : List (Nat × Instr × Nat) := [(0, .iconst 0, 1), (1, .istore_n 2, 1), (2, .iconst 0, 1), (3, .istore_n 3, 1), (4, .iload_n 3, 1), (5, .aload_n 1, 1), (6, .getfield 68, 3), (9, .if_icmp .ge 24, 3), (12, .aload_n 0, 1), (13, .getfield 9, 3), (16, .iload_n 3, 1), (17, .iaload, 1), (18, .ifCond .le 9, 3), (21, .iload_n 2, 1), (22, .iconst 1, 1), (23, .iload_n 3, 1), (24, .ishl, 1), (25, .ior, 1), (26, .istore_n 2, 1), (27, .iinc 3 1, 3), (30, .goto (-26), 3), (33, .iload_n 2, 1), (34, .ireturn, 1)]
theorem kX4_litBits : ckD cX4_litBits tX4_litBits = true := by decide +kernel
def tX4_placeOf : List (Nat × Instr × Nat) := [(0, .aload_n 0, 1), (1, .getfield 15, 3), (4, .iload_n 2, 1), (5, .iaload, 1), (6, .istore_n 3, 1), (7, .aload_n 0, 1), (8, .getfield 24, 3), (11, .iload_n 2, 1), (12, .iaload, 1), (13, .iconst 1, 1), (14, .if_icmp .ne 22, 3), (17, .aload_n 1, 1), (18, .aload_n 1, 1), (19, .iload_n 3, 1), (20, .aload_n 0, 1), (21, .getfield 18, 3), (24, .iload_n 2, 1), (25, .iaload, 1), (26, .invokevirtual 60, 3), (29, .iload_n 3, 1), (30, .invokevirtual 71, 3), (33, .goto 4, 3), (36, .iload_n 3, 1), (37, .ireturn, 1)]
theorem kX4_placeOf : ckD cX4_placeOf tX4_placeOf = true := by decide +kernel
def tX4_laneAhead : List (Nat × Instr × Nat) := [(0, .aload_n 0, 1), (1, .getfield 30, 3), (4, .aload_n 0, 1), (5, .getfield 21, 3), (8, .iload_n 2, 1), (9, .iaload, 1), (10, .if_icmp .lt 22, 3), (13, .aload_n 1, 1), (14, .aload_n 0, 1), (15, .getfield 15, 3), (18, .iload_n 2, 1), (19, .iaload, 1), (20, .aload_n 0, 1), (21, .getfield 18, 3), (24, .iload_n 2, 1), (25, .iaload, 1), (26, .invokevirtual 60, 3), (29, .goto 4, 3), (32, .iconst (-1), 1), (33, .ireturn, 1)]
theorem kX4_laneAhead : ckD cX4_laneAhead tX4_laneAhead = true := by decide +kernel
def tX4_pass : List (Nat × Instr × Nat) := [(0, .aload_n 0, 1), (1, .iconst 0, 1), (2, .putfield 74, 3), (5, .aload_n 0, 1), (6, .iconst 0, 1), (7, .putfield 77, 3), (10, .iconst 0, 1), (11, .istore_n 3, 1), (12, .iload_n 3, 1), (13, .aload_n 1, 1), (14, .getfield 68, 3), (17, .if_icmp .ge 16, 3), (20, .aload_n 0, 1), (21, .getfield 27, 3), (24, .iload_n 3, 1), (25, .iconst 0, 1), (26, .iastore, 1), (27, .iinc 3 1, 3), (30, .goto (-18), 3), (33, .iconst 0, 1), (34, .istore_n 3, 1), (35, .iload_n 3, 1), (36, .aload_n 1, 1), (37, .getfield 40, 3), (40, .if_icmp .ge 34, 3), (43, .aload_n 0, 1), (44, .aload_n 1, 1), (45, .iload_n 3, 1), (46, .invokevirtual 80, 3), (49, .istore 4, 2), (51, .aload_n 1, 1), (52, .iload 4, 2), (54, .invokevirtual 84, 3), (57, .ifCond .eq 11, 3), (60, .aload_n 0, 1), (61, .aload_n 1, 1), (62, .iload_n 3, 1), (63, .iload 4, 2), (65, .invokevirtual 88, 3), (68, .iinc 3 1, 3), (71, .goto (-36), 3), (74, .iconst 0, 1), (75, .istore_n 3, 1), (76, .iload_n 3, 1), (77, .aload_n 1, 1), (78, .getfield 68, 3), (81, .if_icmp .ge 50, 3), (84, .aload_n 0, 1), (85, .getfield 9, 3), (88, .iload_n 3, 1), (89, .iaload, 1), (90, .ifCond .le 13, 3), (93, .aload_n 0, 1), (94, .getfield 9, 3), (97, .iload_n 3, 1), (98, .dup2, 1), (99, .iaload, 1), (100, .iconst 1, 1), (101, .isub, 1), (102, .iastore, 1), (103, .aload_n 0, 1), (104, .getfield 27, 3), (107, .iload_n 3, 1), (108, .iaload, 1), (109, .ifCond .le 16, 3), (112, .aload_n 0, 1), (113, .aload_n 1, 1), (114, .iload_n 3, 1), (115, .aload_n 0, 1), (116, .getfield 27, 3), (119, .iload_n 3, 1), (120, .iaload, 1), (121, .iload_n 2, 1), (122, .invokevirtual 92, 3), (125, .iinc 3 1, 3), (128, .goto (-52), 3), (131, .aload_n 0, 1), (132, .dup, 1), (133, .getfield 30, 3), (136, .iconst 1, 1), (137, .iadd, 1), (138, .putfield 30, 3), (141, .aload_n 0, 1), (142, .dup, 1), (143, .getfield 37, 3), (146, .aload_n 0, 1), (147, .getfield 74, 3), (150, .invokestatic 96, 3), (153, .iadd, 1), (154, .putfield 37, 3), (157, .return_, 1)]
theorem kX4_pass : ckD cX4_pass tX4_pass = true := by decide +kernel
def tX4_goAlong : List (Nat × Instr × Nat) := [(0, .aload_n 1, 1), (1, .getfield 102, 3), (4, .iload_n 2, 1), (5, .iaload, 1), (6, .istore 4, 2), (8, .aload_n 0, 1), (9, .getfield 27, 3), (12, .iload_n 3, 1), (13, .dup2, 1), (14, .iaload, 1), (15, .iconst 1, 1), (16, .iadd, 1), (17, .iastore, 1), (18, .aload_n 0, 1), (19, .dup, 1), (20, .getfield 77, 3), (23, .iconst 1, 1), (24, .iload_n 3, 1), (25, .ishl, 1), (26, .ior, 1), (27, .putfield 77, 3), (30, .aload_n 0, 1), (31, .getfield 9, 3), (34, .iload_n 3, 1), (35, .iaload, 1), (36, .ifCond .ne 27, 3), (39, .iload 4, 2), (41, .iconst 1, 1), (42, .if_icmp .eq 21, 3), (45, .iload 4, 2), (47, .iconst 2, 1), (48, .if_icmp .eq 15, 3), (51, .aload_n 0, 1), (52, .dup, 1), (53, .getfield 74, 3), (56, .iconst 1, 1), (57, .iload_n 2, 1), (58, .ishl, 1), (59, .ior, 1), (60, .putfield 74, 3), (63, .aload_n 0, 1), (64, .getfield 24, 3), (67, .iload_n 2, 1), (68, .dup2, 1), (69, .iaload, 1), (70, .iconst 1, 1), (71, .iadd, 1), (72, .iastore, 1), (73, .iload 4, 2), (75, .iconst 3, 1), (76, .if_icmp .ne 13, 3), (79, .aload_n 0, 1), (80, .getfield 24, 3), (83, .iload_n 2, 1), (84, .iaload, 1), (85, .iconst 3, 1), (86, .if_icmp .lt 27, 3), (89, .aload_n 0, 1), (90, .getfield 24, 3), (93, .iload_n 2, 1), (94, .iconst 0, 1), (95, .iastore, 1), (96, .aload_n 0, 1), (97, .getfield 15, 3), (100, .iload_n 2, 1), (101, .aload_n 1, 1), (102, .iload_n 3, 1), (103, .aload_n 0, 1), (104, .getfield 15, 3), (107, .iload_n 2, 1), (108, .iaload, 1), (109, .invokevirtual 71, 3), (112, .iastore, 1), (113, .return_, 1)]
theorem kX4_goAlong : ckD cX4_goAlong tX4_goAlong = true := by decide +kernel
def tX4_lightUp : List (Nat × Instr × Nat) := [(0, .aload_n 1, 1), (1, .getfield 105, 3), (4, .aload_n 1, 1), (5, .getfield 109, 3), (8, .iload_n 2, 1), (9, .iaload, 1), (10, .iload 4, 2), (12, .iadd, 1), (13, .aload_n 0, 1), (14, .getfield 9, 3), (17, .iload_n 2, 1), (18, .iaload, 1), (19, .iload_n 3, 1), (20, .aload_n 0, 1), (21, .getfield 30, 3), (24, .invokevirtual 112, 3), (27, .istore 5, 2), (29, .iload 5, 2), (31, .aload_n 0, 1), (32, .getfield 9, 3), (35, .iload_n 2, 1), (36, .iaload, 1), (37, .if_icmp .le 11, 3), (40, .aload_n 0, 1), (41, .getfield 9, 3), (44, .iload_n 2, 1), (45, .iload 5, 2), (47, .iastore, 1), (48, .return_, 1)]
theorem kX4_lightUp : ckD cX4_lightUp tX4_lightUp = true := by decide +kernel
def tX4_sendBoy : List (Nat × Instr × Nat) := [(0, .aload_n 0, 1), (1, .aload_n 1, 1), (2, .iload_n 2, 1), (3, .iconst 1, 1), (4, .iconst 0, 1), (5, .invokevirtual 92, 3), (8, .aload_n 0, 1), (9, .dup, 1), (10, .getfield 34, 3), (13, .aload_n 1, 1), (14, .getfield 118, 3), (17, .iadd, 1), (18, .putfield 34, 3), (21, .return_, 1)]
theorem kX4_sendBoy : ckD cX4_sendBoy tX4_sendBoy = true := by decide +kernel
def tX4_putOff : List (Nat × Instr × Nat) := [(0, .aload_n 0, 1), (1, .getfield 21, 3), (4, .iload_n 1, 1), (5, .aload_n 0, 1), (6, .getfield 21, 3), (9, .iload_n 1, 1), (10, .iaload, 1), (11, .aload_n 0, 1), (12, .getfield 30, 3), (15, .invokestatic 121, 3), (18, .iconst 1, 1), (19, .iadd, 1), (20, .iastore, 1), (21, .return_, 1)]
theorem kX4_putOff : ckD cX4_putOff tX4_putOff = true := by decide +kernel
def tX4_canTurn : List (Nat × Instr × Nat) := [(0, .aload_n 1, 1), (1, .getfield 102, 3), (4, .iload_n 2, 1), (5, .iaload, 1), (6, .iconst 3, 1), (7, .if_icmp .eq 16, 3), (10, .aload_n 0, 1), (11, .aload_n 1, 1), (12, .iload_n 2, 1), (13, .invokevirtual 126, 3), (16, .ifCond .eq 7, 3), (19, .iconst 1, 1), (20, .goto 4, 3), (23, .iconst 0, 1), (24, .ireturn, 1)]
theorem kX4_canTurn : ckD cX4_canTurn tX4_canTurn = true := by decide +kernel
def tX4_turn : List (Nat × Instr × Nat) := [(0, .aload_n 0, 1), (1, .getfield 18, 3), (4, .iload_n 2, 1), (5, .aload_n 1, 1), (6, .getfield 45, 3), (9, .iload_n 2, 1), (10, .iaload, 1), (11, .iastore, 1), (12, .return_, 1)]
theorem kX4_turn : ckD cX4_turn tX4_turn = true := by decide +kernel
def tX4_bringHome : List (Nat × Instr × Nat) := [(0, .aload_n 0, 1), (1, .getfield 18, 3), (4, .iload_n 1, 1), (5, .aload_n 0, 1), (6, .getfield 15, 3), (9, .iload_n 1, 1), (10, .iaload, 1), (11, .iastore, 1), (12, .aload_n 0, 1), (13, .getfield 24, 3), (16, .iload_n 1, 1), (17, .iconst 0, 1), (18, .iastore, 1), (19, .return_, 1)]
theorem kX4_bringHome : ckD cX4_bringHome tX4_bringHome = true := by decide +kernel
def tX4_obey : List (Nat × Instr × Nat) := [(0, .iload_n 2, 1), (1, .bipush 8, 2), (3, .if_icmp .ne 11, 3), (6, .aload_n 0, 1), (7, .aload_n 1, 1), (8, .iconst 0, 1), (9, .invokevirtual 131, 3), (12, .iconst 1, 1), (13, .ireturn, 1), (14, .iload_n 2, 1), (15, .bipush 9, 2), (17, .if_icmp .ne 32, 3), (20, .aload_n 1, 1), (21, .iload_n 3, 1), (22, .iload 4, 2), (24, .invokevirtual 135, 3), (27, .istore 5, 2), (29, .aload_n 1, 1), (30, .iload 5, 2), (32, .invokevirtual 84, 3), (35, .ifCond .ne 5, 3), (38, .iconst 0, 1), (39, .ireturn, 1), (40, .aload_n 0, 1), (41, .aload_n 1, 1), (42, .iload 5, 2), (44, .invokevirtual 138, 3), (47, .iconst 1, 1), (48, .ireturn, 1), (49, .aload_n 1, 1), (50, .iload_n 3, 1), (51, .invokevirtual 141, 3), (54, .ifCond .ne 5, 3), (57, .iconst 0, 1), (58, .ireturn, 1), (59, .iload_n 2, 1), (60, .bipush 10, 2), (62, .if_icmp .ne 19, 3), (65, .aload_n 0, 1), (66, .aload_n 1, 1), (67, .iload_n 3, 1), (68, .invokevirtual 64, 3), (71, .ifCond .ne 10, 3), (74, .aload_n 0, 1), (75, .iload_n 3, 1), (76, .invokevirtual 144, 3), (79, .iconst 1, 1), (80, .ireturn, 1), (81, .iload_n 2, 1), (82, .bipush 11, 2), (84, .if_icmp .ne 20, 3), (87, .aload_n 0, 1), (88, .aload_n 1, 1), (89, .iload_n 3, 1), (90, .invokevirtual 148, 3), (93, .ifCond .eq 11, 3), (96, .aload_n 0, 1), (97, .aload_n 1, 1), (98, .iload_n 3, 1), (99, .invokevirtual 151, 3), (102, .iconst 1, 1), (103, .ireturn, 1), (104, .iconst 0, 1), (105, .ireturn, 1)]
theorem kX4_obey : ckD cX4_obey tX4_obey = true := by decide +kernel
def tX5_init : List (Nat × Instr × Nat) := [(0, .aload_n 0, 1), (1, .invokespecial 1, 3), (4, .aload_n 0, 1), (5, .bipush 16, 2), (7, .anewarray 9, 3), (10, .putfield 11, 3), (13, .iconst 0, 1), (14, .istore_n 1, 1), (15, .iload_n 1, 1), (16, .bipush 16, 2), (18, .if_icmp .ge 22, 3), (21, .aload_n 0, 1), (22, .getfield 11, 3), (25, .iload_n 1, 1), (26, .new 9, 3), (29, .dup, 1), (30, .invokespecial 15, 3), (33, .aastore, 1), (34, .iinc 1 1, 3), (37, .goto (-22), 3), (40, .return_, 1)]
theorem kX5_init : ckD cX5_init tX5_init = true := by decide +kernel
def tX5_forget : List (Nat × Instr × Nat) := [(0, .aload_n 0, 1), (1, .iconst 0, 1), (2, .putfield 16, 3), (5, .return_, 1)]
theorem kX5_forget : ckD cX5_forget tX5_forget = true := by decide +kernel
def tX5_keep : List (Nat × Instr × Nat) := [(0, .aload_n 0, 1), (1, .getfield 11, 3), (4, .aload_n 0, 1), (5, .getfield 20, 3), (8, .bipush 15, 2), (10, .iand, 1), (11, .aaload, 1), (12, .astore_n 2, 1), (13, .aload_n 2, 1), (14, .ifnull 36, 3), (17, .aload_n 2, 1), (18, .aload_n 1, 1), (19, .invokevirtual 23, 3), (22, .aload_n 0, 1), (23, .aload_n 0, 1), (24, .getfield 20, 3), (27, .iconst 1, 1), (28, .iadd, 1), (29, .bipush 15, 2), (31, .iand, 1), (32, .putfield 20, 3), (35, .aload_n 0, 1), (36, .aload_n 0, 1), (37, .getfield 16, 3), (40, .iconst 1, 1), (41, .iadd, 1), (42, .bipush 16, 2), (44, .invokestatic 27, 3), (47, .putfield 16, 3), (50, .return_, 1)]
theorem kX5_keep : ckD cX5_keep tX5_keep = true := by decide +kernel
def tX5_bringBack : List (Nat × Instr × Nat) := [(0, .aload_n 0, 1), (1, .getfield 11, 3), (4, .aload_n 0, 1), (5, .getfield 20, 3), (8, .iconst 1, 1), (9, .isub, 1), (10, .bipush 15, 2), (12, .iand, 1), (13, .aaload, 1), (14, .astore_n 2, 1), (15, .aload_n 0, 1), (16, .getfield 16, 3), (19, .ifCond .eq 7, 3), (22, .aload_n 2, 1), (23, .ifnonnull 5, 3), (26, .iconst 0, 1), (27, .ireturn, 1), (28, .aload_n 1, 1), (29, .aload_n 2, 1), (30, .invokevirtual 23, 3), (33, .aload_n 0, 1), (34, .aload_n 0, 1), (35, .getfield 20, 3), (38, .iconst 1, 1), (39, .isub, 1), (40, .bipush 15, 2), (42, .iand, 1), (43, .putfield 20, 3), (46, .aload_n 0, 1), (47, .dup, 1), (48, .getfield 16, 3), (51, .iconst 1, 1), (52, .isub, 1), (53, .putfield 16, 3), (56, .iconst 1, 1), (57, .ireturn, 1)]
theorem kX5_bringBack : ckD cX5_bringBack tX5_bringBack = true := by decide +kernel
def tX6_init : List (Nat × Instr × Nat) := [(0, .aload_n 0, 1), (1, .invokespecial 3, 3), (4, .aload_n 0, 1), (5, .new 9, 3), (8, .dup, 1), (9, .aload_n 1, 1), (10, .invokespecial 11, 3), (13, .putfield 14, 3), (16, .return_, 1)]
theorem kX6_init : ckD cX6_init tX6_init = true := by decide +kernel
def tX6_readTown : List (Nat × Instr × Nat) := [(0, .aload_n 1, 1), (1, .invokevirtual 20, 3), (4, .aload_n 0, 1), (5, .iconst 0, 1), (6, .putfield 25, 3), (9, .aload_n 0, 1), (10, .getfield 14, 3), (13, .invokevirtual 29, 3), (16, .iconst 0, 1), (17, .istore_n 2, 1), (18, .iload_n 2, 1), (19, .sipush 1000, 3), (22, .if_icmp .ge 142, 3), (25, .aload_n 0, 1), (26, .getfield 25, 3), (29, .ifCond .ne 135, 3), (32, .aload_n 0, 1), (33, .getfield 14, 3), (36, .getfield 34, 3), (39, .iconst 1, 1), (40, .if_icmp .eq 124, 3), (43, .aload_n 0, 1), (44, .getfield 14, 3), (47, .getfield 34, 3), (50, .iconst 2, 1), (51, .if_icmp .ne 13, 3), (54, .aload_n 0, 1), (55, .getfield 14, 3), (58, .getfield 37, 3), (61, .goto 4, 3), (64, .iconst (-1), 1), (65, .tableswitch 87 0 7 #[47, 55, 79, 63, 87, 87, 87, 71], 47), (112, .aload_n 0, 1), (113, .aload_n 1, 1), (114, .invokevirtual 40, 3), (117, .goto 41, 3), (120, .aload_n 0, 1), (121, .aload_n 1, 1), (122, .invokevirtual 44, 3), (125, .goto 33, 3), (128, .aload_n 0, 1), (129, .aload_n 1, 1), (130, .invokevirtual 47, 3), (133, .goto 25, 3), (136, .aload_n 0, 1), (137, .aload_n 1, 1), (138, .invokevirtual 50, 3), (141, .goto 17, 3), (144, .aload_n 0, 1), (145, .aload_n 1, 1), (146, .invokevirtual 53, 3), (149, .goto 9, 3), (152, .aload_n 0, 1), (153, .iconst 1, 1), (154, .invokevirtual 56, 3), (157, .pop, 1), (158, .iinc 2 1, 3), (161, .goto (-143), 3), (164, .aload_n 0, 1), (165, .getfield 25, 3), (168, .ifCond .ne 7, 3), (171, .aload_n 1, 1), (172, .invokevirtual 60, 3), (175, .aload_n 0, 1), (176, .getfield 25, 3), (179, .ireturn, 1)]
theorem kX6_readTown : ckD cX6_readTown tX6_readTown = true := by decide +kernel
def tX6_readEvening : List (Nat × Instr × Nat) := [(0, .aload_n 1, 1), (1, .iconst 0, 1), (2, .putfield 63, 3), (5, .aload_n 0, 1), (6, .iconst 0, 1), (7, .putfield 25, 3), (10, .aload_n 0, 1), (11, .getfield 14, 3), (14, .invokevirtual 29, 3), (17, .iconst 0, 1), (18, .istore_n 3, 1), (19, .iload_n 3, 1), (20, .sipush 1000, 3), (23, .if_icmp .ge 33, 3), (26, .aload_n 0, 1), (27, .getfield 25, 3), (30, .ifCond .ne 26, 3), (33, .aload_n 0, 1), (34, .getfield 14, 3), (37, .getfield 34, 3), (40, .iconst 1, 1), (41, .if_icmp .eq 15, 3), (44, .aload_n 0, 1), (45, .aload_n 1, 1), (46, .aload_n 2, 1), (47, .invokevirtual 68, 3), (50, .iinc 3 1, 3), (53, .goto (-34), 3), (56, .aload_n 0, 1), (57, .getfield 25, 3), (60, .ireturn, 1)]
theorem kX6_readEvening : ckD cX6_readEvening tX6_readEvening = true := by decide +kernel
def tX6_wrong : List (Nat × Instr × Nat) := [(0, .aload_n 0, 1), (1, .iload_n 1, 1), (2, .bipush 16, 2), (4, .aload_n 0, 1), (5, .getfield 14, 3), (8, .getfield 72, 3), (11, .imul, 1), (12, .iadd, 1), (13, .putfield 25, 3), (16, .iconst 0, 1), (17, .ireturn, 1)]
theorem kX6_wrong : ckD cX6_wrong tX6_wrong = true := by decide +kernel
def tX6_readPlace : List (Nat × Instr × Nat) := [(0, .aload_n 1, 1), (1, .getfield 75, 3), (4, .bipush 6, 2), (6, .if_icmp .lt 10, 3), (9, .aload_n 0, 1), (10, .iconst 5, 1), (11, .invokevirtual 56, 3), (14, .pop, 1), (15, .return_, 1), (16, .aload_n 0, 1), (17, .getfield 14, 3), (20, .invokevirtual 78, 3), (23, .aload_n 0, 1), (24, .aload_n 1, 1), (25, .invokevirtual 81, 3), (28, .ifCond .ne 4, 3), (31, .return_, 1), (32, .aload_n 0, 1), (33, .getfield 14, 3), (36, .getfield 85, 3), (39, .lstore_n 2, 1), (40, .aload_n 0, 1), (41, .getfield 14, 3), (44, .invokevirtual 78, 3), (47, .aload_n 0, 1), (48, .bipush 59, 2), (50, .invokevirtual 89, 3), (53, .ifCond .eq 8, 3), (56, .aload_n 1, 1), (57, .lload_n 2, 1), (58, .invokevirtual 93, 3), (61, .return_, 1)]
theorem kX6_readPlace : ckD cX6_readPlace tX6_readPlace = true := by decide +kernel
def tX6_readLane : List (Nat × Instr × Nat) := [(0, .aload_n 1, 1), (1, .getfield 97, 3), (4, .bipush 8, 2), (6, .if_icmp .lt 10, 3), (9, .aload_n 0, 1), (10, .iconst 5, 1), (11, .invokevirtual 56, 3), (14, .pop, 1), (15, .return_, 1), (16, .aload_n 0, 1), (17, .getfield 14, 3), (20, .invokevirtual 78, 3), (23, .aload_n 0, 1), (24, .aload_n 1, 1), (25, .invokevirtual 100, 3), (28, .istore_n 2, 1), (29, .iload_n 2, 1), (30, .iconst (-1), 1), (31, .if_icmp .ne 4, 3), (34, .return_, 1), (35, .aload_n 0, 1), (36, .aload_n 1, 1), (37, .invokevirtual 104, 3), (40, .ifCond .eq 37, 3), (43, .aload_n 1, 1), (44, .aload_n 0, 1), (45, .getfield 14, 3), (48, .getfield 85, 3), (51, .invokevirtual 107, 3), (54, .istore_n 3, 1), (55, .iload_n 3, 1), (56, .iload_n 2, 1), (57, .if_icmp .eq 13, 3), (60, .aload_n 1, 1), (61, .iload_n 2, 1), (62, .iload_n 3, 1), (63, .invokevirtual 111, 3), (66, .iconst (-1), 1), (67, .if_icmp .eq 10, 3), (70, .aload_n 0, 1), (71, .iconst 3, 1), (72, .invokevirtual 56, 3), (75, .pop, 1), (76, .return_, 1), (77, .aload_n 0, 1), (78, .aload_n 1, 1), (79, .invokevirtual 100, 3), (82, .istore_n 3, 1), (83, .iload_n 3, 1), (84, .iconst (-1), 1), (85, .if_icmp .eq 11, 3), (88, .aload_n 0, 1), (89, .iconst 2, 1), (90, .invokevirtual 115, 3), (93, .ifCond .ne 4, 3), (96, .return_, 1), (97, .aload_n 0, 1), (98, .bipush 20, 2), (100, .invokevirtual 118, 3), (103, .istore 4, 2), (105, .iload 4, 2), (107, .iconst (-1), 1), (108, .if_icmp .eq 20, 3), (111, .aload_n 0, 1), (112, .bipush 59, 2), (114, .invokevirtual 89, 3), (117, .ifCond .eq 11, 3), (120, .aload_n 1, 1), (121, .iload_n 2, 1), (122, .iload_n 3, 1), (123, .iload 4, 2), (125, .invokevirtual 122, 3), (128, .return_, 1)]
theorem kX6_readLane : ckD cX6_readLane tX6_readLane = true := by decide +kernel
def tX6_readWalker : List (Nat × Instr × Nat) := [(0, .aload_n 1, 1), (1, .getfield 126, 3), (4, .bipush 6, 2), (6, .if_icmp .lt 10, 3), (9, .aload_n 0, 1), (10, .iconst 5, 1), (11, .invokevirtual 56, 3), (14, .pop, 1), (15, .return_, 1), (16, .aload_n 0, 1), (17, .getfield 14, 3), (20, .invokevirtual 78, 3), (23, .aload_n 0, 1), (24, .aload_n 1, 1), (25, .invokevirtual 81, 3), (28, .ifCond .ne 4, 3), (31, .return_, 1), (32, .aload_n 0, 1), (33, .getfield 14, 3), (36, .getfield 85, 3), (39, .lstore_n 2, 1), (40, .aload_n 0, 1), (41, .getfield 14, 3), (44, .invokevirtual 78, 3), (47, .aload_n 0, 1), (48, .invokevirtual 129, 3), (51, .istore 4, 2), (53, .iload 4, 2), (55, .iconst (-1), 1), (56, .if_icmp .eq 11, 3), (59, .aload_n 0, 1), (60, .iconst 4, 1), (61, .invokevirtual 115, 3), (64, .ifCond .ne 4, 3), (67, .return_, 1), (68, .aload_n 0, 1), (69, .aload_n 1, 1), (70, .invokevirtual 100, 3), (73, .istore 5, 2), (75, .iload 5, 2), (77, .iconst (-1), 1), (78, .if_icmp .eq 11, 3), (81, .aload_n 0, 1), (82, .iconst 5, 1), (83, .invokevirtual 115, 3), (86, .ifCond .ne 4, 3), (89, .return_, 1), (90, .aload_n 0, 1), (91, .aload_n 1, 1), (92, .invokevirtual 100, 3), (95, .istore 6, 2), (97, .iload 6, 2), (99, .iconst (-1), 1), (100, .if_icmp .eq 12, 3), (103, .aload_n 0, 1), (104, .bipush 6, 2), (106, .invokevirtual 115, 3), (109, .ifCond .ne 4, 3), (112, .return_, 1), (113, .aload_n 0, 1), (114, .bipush 30, 2), (116, .invokevirtual 118, 3), (119, .istore 7, 2), (121, .iload 7, 2), (123, .iconst (-1), 1), (124, .if_icmp .eq 25, 3), (127, .aload_n 0, 1), (128, .bipush 59, 2), (130, .invokevirtual 89, 3), (133, .ifCond .eq 16, 3), (136, .aload_n 1, 1), (137, .lload_n 2, 1), (138, .iload 4, 2), (140, .iload 5, 2), (142, .iload 6, 2), (144, .iload 7, 2), (146, .invokevirtual 133, 3), (149, .return_, 1)]
theorem kX6_readWalker : ckD cX6_readWalker tX6_readWalker = true := by decide +kernel
def tX6_readBoy : List (Nat × Instr × Nat) := [(0, .aload_n 1, 1), (1, .getfield 137, 3), (4, .ifCond .eq 10, 3), (7, .aload_n 0, 1), (8, .iconst 3, 1), (9, .invokevirtual 56, 3), (12, .pop, 1), (13, .return_, 1), (14, .aload_n 0, 1), (15, .getfield 14, 3), (18, .invokevirtual 78, 3), (21, .aload_n 0, 1), (22, .bipush 99, 2), (24, .invokevirtual 118, 3), (27, .istore_n 2, 1), (28, .iload_n 2, 1), (29, .iconst (-1), 1), (30, .if_icmp .eq 22, 3), (33, .aload_n 0, 1), (34, .bipush 59, 2), (36, .invokevirtual 89, 3), (39, .ifCond .eq 13, 3), (42, .aload_n 1, 1), (43, .iload_n 2, 1), (44, .putfield 141, 3), (47, .aload_n 1, 1), (48, .iconst 1, 1), (49, .putfield 137, 3), (52, .return_, 1)]
theorem kX6_readBoy : ckD cX6_readBoy tX6_readBoy = true := by decide +kernel
def tX6_readLaw : List (Nat × Instr × Nat) := [(0, .aload_n 1, 1), (1, .getfield 144, 3), (4, .getfield 148, 3), (7, .ifCond .le 10, 3), (10, .aload_n 0, 1), (11, .iconst 3, 1), (12, .invokevirtual 56, 3), (15, .pop, 1), (16, .return_, 1), (17, .aload_n 0, 1), (18, .getfield 14, 3), (21, .invokevirtual 78, 3), (24, .aload_n 0, 1), (25, .aload_n 1, 1), (26, .getfield 144, 3), (29, .iconst 0, 1), (30, .iconst 0, 1), (31, .invokevirtual 153, 3), (34, .ifCond .eq 10, 3), (37, .aload_n 0, 1), (38, .bipush 59, 2), (40, .invokevirtual 89, 3), (43, .pop, 1), (44, .return_, 1)]
theorem kX6_readLaw : ckD cX6_readLaw tX6_readLaw = true := by decide +kernel
def tX6_readLevel : List (Nat × Instr × Nat) := [(0, .iload_n 2, 1), (1, .iconst 4, 1), (2, .if_icmp .lt 10, 3), (5, .aload_n 0, 1), (6, .aload_n 1, 1), (7, .iload_n 3, 1), (8, .invokevirtual 157, 3), (11, .ireturn, 1), (12, .aload_n 0, 1), (13, .aload_n 1, 1), (14, .iload_n 2, 1), (15, .iconst 1, 1), (16, .iadd, 1), (17, .iload_n 3, 1), (18, .invokevirtual 153, 3), (21, .ifCond .ne 5, 3), (24, .iconst 0, 1), (25, .ireturn, 1), (26, .iconst 0, 1), (27, .istore 4, 2), (29, .iload 4, 2), (31, .sipush 1000, 3), (34, .if_icmp .ge 61, 3), (37, .aload_n 0, 1), (38, .iload_n 2, 1), (39, .invokevirtual 161, 3), (42, .istore 5, 2), (44, .iload 5, 2), (46, .iconst (-1), 1), (47, .if_icmp .eq 13, 3), (50, .iload_n 2, 1), (51, .iconst 1, 1), (52, .if_icmp .ne 10, 3), (55, .iload 4, 2), (57, .ifCond .le 5, 3), (60, .iconst 1, 1), (61, .ireturn, 1), (62, .aload_n 0, 1), (63, .getfield 14, 3), (66, .invokevirtual 78, 3), (69, .aload_n 0, 1), (70, .aload_n 1, 1), (71, .iload_n 2, 1), (72, .iconst 1, 1), (73, .iadd, 1), (74, .iload_n 3, 1), (75, .invokevirtual 153, 3), (78, .ifCond .ne 5, 3), (81, .iconst 0, 1), (82, .ireturn, 1), (83, .aload_n 1, 1), (84, .iload 5, 2), (86, .invokevirtual 164, 3), (89, .iinc 4 1, 3), (92, .goto (-63), 3), (95, .iconst 1, 1), (96, .ireturn, 1)]
theorem kX6_readLevel : ckD cX6_readLevel tX6_readLevel = true := by decide +kernel
def tX6_operationHere : List (Nat × Instr × Nat) := [(0, .iload_n 1, 1), (1, .tableswitch 130 0 2 #[27, 61, 95], 27), (28, .aload_n 0, 1), (29, .getfield 14, 3), (32, .bipush 17, 2), (34, .invokevirtual 168, 3), (37, .ifCond .eq 7, 3), (40, .iconst 1, 1), (41, .goto 20, 3), (44, .aload_n 0, 1), (45, .getfield 14, 3), (48, .bipush 18, 2), (50, .invokevirtual 168, 3), (53, .ifCond .eq 7, 3), (56, .iconst 2, 1), (57, .goto 4, 3), (60, .iconst (-1), 1), (61, .ireturn, 1), (62, .aload_n 0, 1), (63, .getfield 14, 3), (66, .bipush 60, 2), (68, .invokevirtual 171, 3), (71, .ifCond .eq 7, 3), (74, .iconst 3, 1), (75, .goto 20, 3), (78, .aload_n 0, 1), (79, .getfield 14, 3), (82, .bipush 61, 2), (84, .invokevirtual 171, 3), (87, .ifCond .eq 7, 3), (90, .iconst 4, 1), (91, .goto 4, 3), (94, .iconst (-1), 1), (95, .ireturn, 1), (96, .aload_n 0, 1), (97, .getfield 14, 3), (100, .bipush 43, 2), (102, .invokevirtual 171, 3), (105, .ifCond .eq 7, 3), (108, .iconst 5, 1), (109, .goto 21, 3), (112, .aload_n 0, 1), (113, .getfield 14, 3), (116, .bipush 45, 2), (118, .invokevirtual 171, 3), (121, .ifCond .eq 8, 3), (124, .bipush 6, 2), (126, .goto 4, 3), (129, .iconst (-1), 1), (130, .ireturn, 1), (131, .aload_n 0, 1), (132, .getfield 14, 3), (135, .bipush 42, 2), (137, .invokevirtual 171, 3), (140, .ifCond .eq 8, 3), (143, .bipush 7, 2), (145, .goto 4, 3), (148, .iconst (-1), 1), (149, .ireturn, 1)]
theorem kX6_operationHere : ckD cX6_operationHere tX6_operationHere = true := by decide +kernel
def tX6_readPart : List (Nat × Instr × Nat) := [(0, .aload_n 0, 1), (1, .getfield 14, 3), (4, .getfield 34, 3), (7, .iconst 2, 1), (8, .if_icmp .ne 31, 3), (11, .aload_n 0, 1), (12, .getfield 14, 3), (15, .getfield 37, 3), (18, .bipush 19, 2), (20, .if_icmp .lt 19, 3), (23, .aload_n 0, 1), (24, .getfield 14, 3), (27, .getfield 37, 3), (30, .bipush 22, 2), (32, .if_icmp .gt 7, 3), (35, .iconst 1, 1), (36, .goto 4, 3), (39, .iconst 0, 1), (40, .istore_n 3, 1), (41, .aload_n 0, 1), (42, .getfield 14, 3), (45, .bipush 16, 2), (47, .invokevirtual 168, 3), (50, .istore 4, 2), (52, .aload_n 0, 1), (53, .getfield 14, 3), (56, .bipush 40, 2), (58, .invokevirtual 171, 3), (61, .istore 5, 2), (63, .aload_n 0, 1), (64, .getfield 14, 3), (67, .getfield 37, 3), (70, .istore 6, 2), (72, .iload_n 3, 1), (73, .ifCond .ne 30, 3), (76, .iload 4, 2), (78, .ifCond .ne 25, 3), (81, .iload 5, 2), (83, .ifCond .ne 20, 3), (86, .aload_n 0, 1), (87, .getfield 14, 3), (90, .getfield 34, 3), (93, .iconst 3, 1), (94, .if_icmp .eq 9, 3), (97, .aload_n 0, 1), (98, .iconst 1, 1), (99, .invokevirtual 56, 3), (102, .ireturn, 1), (103, .iload_n 2, 1), (104, .iconst 5, 1), (105, .if_icmp .lt 9, 3), (108, .aload_n 0, 1), (109, .iconst 5, 1), (110, .invokevirtual 56, 3), (113, .ireturn, 1), (114, .aload_n 0, 1), (115, .getfield 14, 3), (118, .invokevirtual 78, 3), (121, .iload 5, 2), (123, .ifCond .eq 30, 3), (126, .aload_n 0, 1), (127, .aload_n 1, 1), (128, .iconst 0, 1), (129, .iload_n 2, 1), (130, .iconst 1, 1), (131, .iadd, 1), (132, .invokevirtual 153, 3), (135, .ifCond .eq 16, 3), (138, .aload_n 0, 1), (139, .bipush 41, 2), (141, .invokevirtual 89, 3), (144, .ifCond .eq 7, 3), (147, .iconst 1, 1), (148, .goto 4, 3), (151, .iconst 0, 1), (152, .ireturn, 1), (153, .iload 4, 2), (155, .ifCond .eq 23, 3), (158, .aload_n 0, 1), (159, .aload_n 1, 1), (160, .iload_n 2, 1), (161, .iconst 1, 1), (162, .iadd, 1), (163, .invokevirtual 157, 3), (166, .ifCond .ne 5, 3), (169, .iconst 0, 1), (170, .ireturn, 1), (171, .aload_n 1, 1), (172, .iconst 0, 1), (173, .invokevirtual 164, 3), (176, .iconst 1, 1), (177, .ireturn, 1), (178, .aload_n 1, 1), (179, .iload_n 3, 1), (180, .ifCond .eq 14, 3), (183, .bipush 8, 2), (185, .iload 6, 2), (187, .iadd, 1), (188, .bipush 19, 2), (190, .isub, 1), (191, .goto 8, 3), (194, .bipush 12, 2), (196, .iload 6, 2), (198, .iadd, 1), (199, .invokevirtual 164, 3), (202, .iconst 1, 1), (203, .ireturn, 1)]
theorem kX6_readPart : ckD cX6_readPart tX6_readPart = true := by decide +kernel
def tX6_readEveningLine : List (Nat × Instr × Nat) := [(0, .aload_n 0, 1), (1, .getfield 14, 3), (4, .getfield 34, 3), (7, .iconst 2, 1), (8, .if_icmp .ne 13, 3), (11, .aload_n 0, 1), (12, .getfield 14, 3), (15, .getfield 37, 3), (18, .goto 4, 3), (21, .iconst (-1), 1), (22, .istore_n 3, 1), (23, .iload_n 3, 1), (24, .bipush 8, 2), (26, .if_icmp .lt 9, 3), (29, .iload_n 3, 1), (30, .bipush 11, 2), (32, .if_icmp .le 10, 3), (35, .aload_n 0, 1), (36, .iconst 1, 1), (37, .invokevirtual 56, 3), (40, .pop, 1), (41, .return_, 1), (42, .aload_n 1, 1), (43, .getfield 63, 3), (46, .bipush 40, 2), (48, .if_icmp .lt 10, 3), (51, .aload_n 0, 1), (52, .iconst 5, 1), (53, .invokevirtual 56, 3), (56, .pop, 1), (57, .return_, 1), (58, .aload_n 0, 1), (59, .getfield 14, 3), (62, .invokevirtual 78, 3), (65, .iconst (-1), 1), (66, .istore 4, 2), (68, .iconst (-1), 1), (69, .istore 5, 2), (71, .iload_n 3, 1), (72, .bipush 9, 2), (74, .if_icmp .ne 62, 3), (77, .aload_n 0, 1), (78, .aload_n 2, 1), (79, .invokevirtual 100, 3), (82, .istore 4, 2), (84, .iload 4, 2), (86, .iconst (-1), 1), (87, .if_icmp .ne 4, 3), (90, .return_, 1), (91, .aload_n 0, 1), (92, .aload_n 2, 1), (93, .invokevirtual 104, 3), (96, .ifCond .eq 26, 3), (99, .aload_n 2, 1), (100, .aload_n 0, 1), (101, .getfield 14, 3), (104, .getfield 85, 3), (107, .invokevirtual 107, 3), (110, .iload 4, 2), (112, .if_icmp .ne 10, 3), (115, .aload_n 0, 1), (116, .iconst 3, 1), (117, .invokevirtual 56, 3), (120, .pop, 1), (121, .return_, 1), (122, .aload_n 0, 1), (123, .aload_n 2, 1), (124, .invokevirtual 100, 3), (127, .istore 5, 2), (129, .iload 5, 2), (131, .iconst (-1), 1), (132, .if_icmp .ne 24, 3), (135, .return_, 1), (136, .iload_n 3, 1), (137, .bipush 8, 2), (139, .if_icmp .eq 17, 3), (142, .aload_n 0, 1), (143, .aload_n 2, 1), (144, .invokevirtual 174, 3), (147, .istore 4, 2), (149, .iload 4, 2), (151, .iconst (-1), 1), (152, .if_icmp .ne 4, 3), (155, .return_, 1), (156, .aload_n 0, 1), (157, .bipush 59, 2), (159, .invokevirtual 89, 3), (162, .ifCond .eq 12, 3), (165, .aload_n 1, 1), (166, .iload_n 3, 1), (167, .iload 4, 2), (169, .iload 5, 2), (171, .invokevirtual 177, 3), (174, .return_, 1)]
theorem kX6_readEveningLine : ckD cX6_readEveningLine tX6_readEveningLine = true := by decide +kernel
def tX6_isNewName : List (Nat × Instr × Nat) := [(0, .aload_n 0, 1), (1, .getfield 14, 3), (4, .invokevirtual 179, 3), (7, .ifCond .ne 9, 3), (10, .aload_n 0, 1), (11, .iconst 1, 1), (12, .invokevirtual 56, 3), (15, .ireturn, 1), (16, .aload_n 1, 1), (17, .aload_n 0, 1), (18, .getfield 14, 3), (21, .getfield 85, 3), (24, .invokevirtual 107, 3), (27, .iconst (-1), 1), (28, .if_icmp .ne 18, 3), (31, .aload_n 1, 1), (32, .aload_n 0, 1), (33, .getfield 14, 3), (36, .getfield 85, 3), (39, .invokevirtual 183, 3), (42, .iconst (-1), 1), (43, .if_icmp .eq 9, 3), (46, .aload_n 0, 1), (47, .iconst 3, 1), (48, .invokevirtual 56, 3), (51, .ireturn, 1), (52, .iconst 1, 1), (53, .ireturn, 1)]
theorem kX6_isNewName : ckD cX6_isNewName tX6_isNewName = true := by decide +kernel
def tX6_isPlaceName : List (Nat × Instr × Nat) := [(0, .aload_n 0, 1), (1, .getfield 14, 3), (4, .invokevirtual 179, 3), (7, .ifCond .eq 22, 3), (10, .aload_n 1, 1), (11, .aload_n 0, 1), (12, .getfield 14, 3), (15, .getfield 85, 3), (18, .invokevirtual 107, 3), (21, .iconst (-1), 1), (22, .if_icmp .eq 7, 3), (25, .iconst 1, 1), (26, .goto 4, 3), (29, .iconst 0, 1), (30, .ireturn, 1)]
theorem kX6_isPlaceName : ckD cX6_isPlaceName tX6_isPlaceName = true := by decide +kernel
def tX6_readPlaceName : List (Nat × Instr × Nat) := [(0, .aload_n 0, 1), (1, .aload_n 0, 1), (2, .getfield 14, 3), (5, .invokevirtual 179, 3), (8, .ifCond .eq 17, 3), (11, .aload_n 1, 1), (12, .aload_n 0, 1), (13, .getfield 14, 3), (16, .getfield 85, 3), (19, .invokevirtual 107, 3), (22, .goto 4, 3), (25, .iconst (-1), 1), (26, .invokevirtual 186, 3), (29, .ireturn, 1)]
theorem kX6_readPlaceName : ckD cX6_readPlaceName tX6_readPlaceName = true := by decide +kernel
def tX6_readWalkerName : List (Nat × Instr × Nat) := [(0, .aload_n 0, 1), (1, .aload_n 0, 1), (2, .getfield 14, 3), (5, .invokevirtual 179, 3), (8, .ifCond .eq 17, 3), (11, .aload_n 1, 1), (12, .aload_n 0, 1), (13, .getfield 14, 3), (16, .getfield 85, 3), (19, .invokevirtual 183, 3), (22, .goto 4, 3), (25, .iconst (-1), 1), (26, .invokevirtual 186, 3), (29, .ireturn, 1)]
theorem kX6_readWalkerName : ckD cX6_readWalkerName tX6_readWalkerName = true := by decide +kernel
def tX6_readTold : List (Nat × Instr × Nat) := [(0, .iload_n 1, 1), (1, .iconst (-1), 1), (2, .if_icmp .ne 26, 3), (5, .aload_n 0, 1), (6, .aload_n 0, 1), (7, .getfield 14, 3), (10, .invokevirtual 179, 3), (13, .ifCond .eq 7, 3), (16, .iconst 2, 1), (17, .goto 4, 3), (20, .iconst 1, 1), (21, .invokevirtual 56, 3), (24, .pop, 1), (25, .goto 10, 3), (28, .aload_n 0, 1), (29, .getfield 14, 3), (32, .invokevirtual 78, 3), (35, .iload_n 1, 1), (36, .ireturn, 1)]
theorem kX6_readTold : ckD cX6_readTold tX6_readTold = true := by decide +kernel
def tX6_readKind : List (Nat × Instr × Nat) := [(0, .aload_n 0, 1), (1, .getfield 14, 3), (4, .getfield 34, 3), (7, .iconst 2, 1), (8, .if_icmp .ne 27, 3), (11, .aload_n 0, 1), (12, .getfield 14, 3), (15, .getfield 37, 3), (18, .bipush 12, 2), (20, .if_icmp .lt 15, 3), (23, .aload_n 0, 1), (24, .getfield 14, 3), (27, .getfield 37, 3), (30, .bipush 15, 2), (32, .if_icmp .le 11, 3), (35, .aload_n 0, 1), (36, .iconst 1, 1), (37, .invokevirtual 56, 3), (40, .pop, 1), (41, .iconst (-1), 1), (42, .ireturn, 1), (43, .aload_n 0, 1), (44, .getfield 14, 3), (47, .getfield 37, 3), (50, .bipush 12, 2), (52, .isub, 1), (53, .istore_n 1, 1), (54, .aload_n 0, 1), (55, .getfield 14, 3), (58, .invokevirtual 78, 3), (61, .iload_n 1, 1), (62, .ireturn, 1)]
theorem kX6_readKind : ckD cX6_readKind tX6_readKind = true := by decide +kernel
def tX6_readNumber : List (Nat × Instr × Nat) := [(0, .aload_n 0, 1), (1, .getfield 14, 3), (4, .getfield 34, 3), (7, .iconst 3, 1), (8, .if_icmp .eq 11, 3), (11, .aload_n 0, 1), (12, .iconst 1, 1), (13, .invokevirtual 56, 3), (16, .pop, 1), (17, .iconst (-1), 1), (18, .ireturn, 1), (19, .aload_n 0, 1), (20, .getfield 14, 3), (23, .getfield 37, 3), (26, .iload_n 1, 1), (27, .if_icmp .le 11, 3), (30, .aload_n 0, 1), (31, .iconst 4, 1), (32, .invokevirtual 56, 3), (35, .pop, 1), (36, .iconst (-1), 1), (37, .ireturn, 1), (38, .aload_n 0, 1), (39, .getfield 14, 3), (42, .getfield 37, 3), (45, .istore_n 2, 1), (46, .aload_n 0, 1), (47, .getfield 14, 3), (50, .invokevirtual 78, 3), (53, .iload_n 2, 1), (54, .ireturn, 1)]
theorem kX6_readNumber : ckD cX6_readNumber tX6_readNumber = true := by decide +kernel
def tX6_readWord : List (Nat × Instr × Nat) := [(0, .aload_n 0, 1), (1, .getfield 14, 3), (4, .iload_n 1, 1), (5, .invokevirtual 168, 3), (8, .ifCond .ne 9, 3), (11, .aload_n 0, 1), (12, .iconst 1, 1), (13, .invokevirtual 56, 3), (16, .ireturn, 1), (17, .aload_n 0, 1), (18, .getfield 14, 3), (21, .invokevirtual 78, 3), (24, .iconst 1, 1), (25, .ireturn, 1)]
theorem kX6_readWord : ckD cX6_readWord tX6_readWord = true := by decide +kernel
def tX6_readSign : List (Nat × Instr × Nat) := [(0, .aload_n 0, 1), (1, .getfield 14, 3), (4, .iload_n 1, 1), (5, .invokevirtual 171, 3), (8, .ifCond .ne 9, 3), (11, .aload_n 0, 1), (12, .iconst 1, 1), (13, .invokevirtual 56, 3), (16, .ireturn, 1), (17, .aload_n 0, 1), (18, .getfield 14, 3), (21, .invokevirtual 78, 3), (24, .iconst 1, 1), (25, .ireturn, 1)]
theorem kX6_readSign : ckD cX6_readSign tX6_readSign = true := by decide +kernel
def tX7_init : List (Nat × Instr × Nat) := [(0, .aload_n 0, 1), (1, .invokespecial 1, 3), (4, .aload_n 0, 1), (5, .sipush 1000, 3), (8, .newarray .byte, 2), (10, .putfield 9, 3), (13, .return_, 1)]
theorem kX7_init : ckD cX7_init tX7_init = true := by decide +kernel
def tX7_addBytes : List (Nat × Instr × Nat) := [(0, .bipush 56, 2), (2, .istore_n 3, 1), (3, .iload_n 3, 1), (4, .ifCond .lt 84, 3), (7, .lload_n 1, 1), (8, .iload_n 3, 1), (9, .lushr, 1), (10, .ldc2_w 13, 3), (13, .land, 1), (14, .l2i, 1), (15, .istore 4, 2), (17, .iload 4, 2), (19, .bipush 10, 2), (21, .if_icmp .eq 17, 3), (24, .iload 4, 2), (26, .bipush 32, 2), (28, .if_icmp .lt 14, 3), (31, .iload 4, 2), (33, .bipush 126, 2), (35, .if_icmp .gt 7, 3), (38, .iconst 1, 1), (39, .goto 4, 3), (42, .iconst 0, 1), (43, .istore 5, 2), (45, .iload 5, 2), (47, .ifCond .eq 35, 3), (50, .aload_n 0, 1), (51, .getfield 15, 3), (54, .sipush 1000, 3), (57, .if_icmp .ge 25, 3), (60, .aload_n 0, 1), (61, .getfield 9, 3), (64, .aload_n 0, 1), (65, .getfield 15, 3), (68, .iload 4, 2), (70, .i2b, 1), (71, .bastore, 1), (72, .aload_n 0, 1), (73, .dup, 1), (74, .getfield 15, 3), (77, .iconst 1, 1), (78, .iadd, 1), (79, .putfield 15, 3), (82, .iinc 3 (-8), 3), (85, .goto (-82), 3), (88, .return_, 1)]
theorem kX7_addBytes : ckD cX7_addBytes tX7_addBytes = true := by decide +kernel
def tX8_init : List (Nat × Instr × Nat) := [(0, .aload_n 0, 1), (1, .invokespecial 3, 3), (4, .aload_n 0, 1), (5, .bipush 23, 2), (7, .newarray .long, 2), (9, .putfield 11, 3), (12, .aload_n 0, 1), (13, .aload_n 1, 1), (14, .putfield 15, 3), (17, .iconst 0, 1), (18, .istore_n 2, 1), (19, .iconst 0, 1), (20, .istore_n 3, 1), (21, .iload_n 3, 1), (22, .ldc 19, 2), (24, .invokevirtual 21, 3), (27, .if_icmp .ge 59, 3), (30, .iload_n 2, 1), (31, .bipush 23, 2), (33, .if_icmp .ge 53, 3), (36, .ldc 19, 2), (38, .iload_n 3, 1), (39, .invokevirtual 27, 3), (42, .bipush 32, 2), (44, .if_icmp .ne 9, 3), (47, .iinc 2 1, 3), (50, .goto 30, 3), (53, .aload_n 0, 1), (54, .getfield 11, 3), (57, .iload_n 2, 1), (58, .aload_n 0, 1), (59, .getfield 11, 3), (62, .iload_n 2, 1), (63, .laload, 1), (64, .iconst 5, 1), (65, .lshl, 1), (66, .ldc 19, 2), (68, .iload_n 3, 1), (69, .invokevirtual 27, 3), (72, .bipush 97, 2), (74, .isub, 1), (75, .iconst 1, 1), (76, .iadd, 1), (77, .i2l, 1), (78, .lor, 1), (79, .lastore, 1), (80, .iinc 3 1, 3), (83, .goto (-62), 3), (86, .return_, 1)]
theorem kX8_init : ckD cX8_init tX8_init = true := by decide +kernel
def tX8_restart : List (Nat × Instr × Nat) := [(0, .aload_n 0, 1), (1, .iconst 0, 1), (2, .putfield 31, 3), (5, .aload_n 0, 1), (6, .invokevirtual 35, 3), (9, .return_, 1)]
theorem kX8_restart : ckD cX8_restart tX8_restart = true := by decide +kernel
def tX8_advance : List (Nat × Instr × Nat) := [(0, .aload_n 0, 1), (1, .aload_n 0, 1), (2, .getfield 31, 3), (5, .putfield 38, 3), (8, .aload_n 0, 1), (9, .getfield 38, 3), (12, .aload_n 0, 1), (13, .getfield 15, 3), (16, .getfield 41, 3), (19, .if_icmp .ge 50, 3), (22, .aload_n 0, 1), (23, .getfield 15, 3), (26, .getfield 45, 3), (29, .aload_n 0, 1), (30, .getfield 38, 3), (33, .baload, 1), (34, .bipush 10, 2), (36, .if_icmp .eq 20, 3), (39, .aload_n 0, 1), (40, .getfield 15, 3), (43, .getfield 45, 3), (46, .aload_n 0, 1), (47, .getfield 38, 3), (50, .baload, 1), (51, .bipush 32, 2), (53, .if_icmp .ne 16, 3), (56, .aload_n 0, 1), (57, .dup, 1), (58, .getfield 38, 3), (61, .iconst 1, 1), (62, .iadd, 1), (63, .putfield 38, 3), (66, .goto (-58), 3), (69, .aload_n 0, 1), (70, .aload_n 0, 1), (71, .getfield 38, 3), (74, .putfield 31, 3), (77, .aload_n 0, 1), (78, .getfield 38, 3), (81, .aload_n 0, 1), (82, .getfield 15, 3), (85, .getfield 41, 3), (88, .if_icmp .lt 9, 3), (91, .aload_n 0, 1), (92, .iconst 1, 1), (93, .putfield 49, 3), (96, .return_, 1), (97, .aload_n 0, 1), (98, .getfield 15, 3), (101, .getfield 45, 3), (104, .aload_n 0, 1), (105, .getfield 38, 3), (108, .baload, 1), (109, .istore_n 1, 1), (110, .iload_n 1, 1), (111, .bipush 97, 2), (113, .if_icmp .lt 16, 3), (116, .iload_n 1, 1), (117, .bipush 122, 2), (119, .if_icmp .gt 10, 3), (122, .aload_n 0, 1), (123, .invokevirtual 52, 3), (126, .goto 56, 3), (129, .iload_n 1, 1), (130, .bipush 48, 2), (132, .if_icmp .lt 16, 3), (135, .iload_n 1, 1), (136, .bipush 57, 2), (138, .if_icmp .gt 10, 3), (141, .aload_n 0, 1), (142, .invokevirtual 55, 3), (145, .goto 37, 3), (148, .aload_n 0, 1), (149, .aload_n 0, 1), (150, .getfield 38, 3), (153, .iconst 1, 1), (154, .iadd, 1), (155, .putfield 31, 3), (158, .aload_n 0, 1), (159, .ldc 58, 2), (161, .iload_n 1, 1), (162, .i2c, 1), (163, .invokevirtual 60, 3), (166, .ifCond .lt 7, 3), (169, .iconst 4, 1), (170, .goto 4, 3), (173, .iconst 0, 1), (174, .putfield 49, 3), (177, .aload_n 0, 1), (178, .iload_n 1, 1), (179, .putfield 64, 3), (182, .return_, 1)]
theorem kX8_advance : ckD cX8_advance tX8_advance = true := by decide +kernel
def tX8_isWord : List (Nat × Instr × Nat) := [(0, .aload_n 0, 1), (1, .getfield 49, 3), (4, .iconst 2, 1), (5, .if_icmp .ne 15, 3), (8, .aload_n 0, 1), (9, .getfield 64, 3), (12, .iload_n 1, 1), (13, .if_icmp .ne 7, 3), (16, .iconst 1, 1), (17, .goto 4, 3), (20, .iconst 0, 1), (21, .ireturn, 1)]
theorem kX8_isWord : ckD cX8_isWord tX8_isWord = true := by decide +kernel
def tX8_isSign : List (Nat × Instr × Nat) := [(0, .aload_n 0, 1), (1, .getfield 49, 3), (4, .iconst 4, 1), (5, .if_icmp .ne 15, 3), (8, .aload_n 0, 1), (9, .getfield 64, 3), (12, .iload_n 1, 1), (13, .if_icmp .ne 7, 3), (16, .iconst 1, 1), (17, .goto 4, 3), (20, .iconst 0, 1), (21, .ireturn, 1)]
theorem kX8_isSign : ckD cX8_isSign tX8_isSign = true := by decide +kernel
def tX8_isName : List (Nat × Instr × Nat) := [(0, .aload_n 0, 1), (1, .getfield 49, 3), (4, .iconst 2, 1), (5, .if_icmp .ne 24, 3), (8, .aload_n 0, 1), (9, .getfield 64, 3), (12, .iconst (-1), 1), (13, .if_icmp .eq 12, 3), (16, .aload_n 0, 1), (17, .getfield 64, 3), (20, .bipush 19, 2), (22, .if_icmp .lt 7, 3), (25, .iconst 1, 1), (26, .goto 4, 3), (29, .iconst 0, 1), (30, .ireturn, 1)]
theorem kX8_isName : ckD cX8_isName tX8_isName = true := by decide +kernel
def tX8_takeWord : List (Nat × Instr × Nat) := [(0, .aload_n 0, 1), (1, .lconst 0, 1), (2, .putfield 67, 3), (5, .aload_n 0, 1), (6, .getfield 31, 3), (9, .aload_n 0, 1), (10, .getfield 15, 3), (13, .getfield 41, 3), (16, .if_icmp .ge 79, 3), (19, .aload_n 0, 1), (20, .getfield 15, 3), (23, .getfield 45, 3), (26, .aload_n 0, 1), (27, .getfield 31, 3), (30, .baload, 1), (31, .bipush 97, 2), (33, .if_icmp .lt 62, 3), (36, .aload_n 0, 1), (37, .getfield 15, 3), (40, .getfield 45, 3), (43, .aload_n 0, 1), (44, .getfield 31, 3), (47, .baload, 1), (48, .bipush 122, 2), (50, .if_icmp .gt 45, 3), (53, .aload_n 0, 1), (54, .aload_n 0, 1), (55, .getfield 67, 3), (58, .iconst 5, 1), (59, .lshl, 1), (60, .aload_n 0, 1), (61, .getfield 15, 3), (64, .getfield 45, 3), (67, .aload_n 0, 1), (68, .getfield 31, 3), (71, .baload, 1), (72, .bipush 97, 2), (74, .isub, 1), (75, .iconst 1, 1), (76, .iadd, 1), (77, .i2l, 1), (78, .lor, 1), (79, .putfield 67, 3), (82, .aload_n 0, 1), (83, .dup, 1), (84, .getfield 31, 3), (87, .iconst 1, 1), (88, .iadd, 1), (89, .putfield 31, 3), (92, .goto (-87), 3), (95, .aload_n 0, 1), (96, .aload_n 0, 1), (97, .getfield 31, 3), (100, .aload_n 0, 1), (101, .getfield 38, 3), (104, .isub, 1), (105, .bipush 8, 2), (107, .if_icmp .gt 7, 3), (110, .iconst 2, 1), (111, .goto 4, 3), (114, .iconst 0, 1), (115, .putfield 49, 3), (118, .aload_n 0, 1), (119, .iconst (-1), 1), (120, .putfield 64, 3), (123, .iconst 0, 1), (124, .istore_n 1, 1), (125, .iload_n 1, 1), (126, .bipush 23, 2), (128, .if_icmp .ge 28, 3), (131, .aload_n 0, 1), (132, .getfield 11, 3), (135, .iload_n 1, 1), (136, .laload, 1), (137, .aload_n 0, 1), (138, .getfield 67, 3), (141, .lcmp, 1), (142, .ifCond .ne 8, 3), (145, .aload_n 0, 1), (146, .iload_n 1, 1), (147, .putfield 64, 3), (150, .iinc 1 1, 3), (153, .goto (-28), 3), (156, .return_, 1)]
theorem kX8_takeWord : ckD cX8_takeWord tX8_takeWord = true := by decide +kernel
def tX8_takeNumber : List (Nat × Instr × Nat) := [(0, .aload_n 0, 1), (1, .iconst 0, 1), (2, .putfield 64, 3), (5, .aload_n 0, 1), (6, .getfield 31, 3), (9, .aload_n 0, 1), (10, .getfield 15, 3), (13, .getfield 41, 3), (16, .if_icmp .ge 77, 3), (19, .aload_n 0, 1), (20, .getfield 15, 3), (23, .getfield 45, 3), (26, .aload_n 0, 1), (27, .getfield 31, 3), (30, .baload, 1), (31, .bipush 48, 2), (33, .if_icmp .lt 60, 3), (36, .aload_n 0, 1), (37, .getfield 15, 3), (40, .getfield 45, 3), (43, .aload_n 0, 1), (44, .getfield 31, 3), (47, .baload, 1), (48, .bipush 57, 2), (50, .if_icmp .gt 43, 3), (53, .aload_n 0, 1), (54, .aload_n 0, 1), (55, .getfield 64, 3), (58, .bipush 10, 2), (60, .imul, 1), (61, .aload_n 0, 1), (62, .getfield 15, 3), (65, .getfield 45, 3), (68, .aload_n 0, 1), (69, .getfield 31, 3), (72, .baload, 1), (73, .iadd, 1), (74, .bipush 48, 2), (76, .isub, 1), (77, .putfield 64, 3), (80, .aload_n 0, 1), (81, .dup, 1), (82, .getfield 31, 3), (85, .iconst 1, 1), (86, .iadd, 1), (87, .putfield 31, 3), (90, .goto (-85), 3), (93, .aload_n 0, 1), (94, .aload_n 0, 1), (95, .getfield 31, 3), (98, .aload_n 0, 1), (99, .getfield 38, 3), (102, .isub, 1), (103, .iconst 4, 1), (104, .if_icmp .gt 7, 3), (107, .iconst 3, 1), (108, .goto 4, 3), (111, .iconst 0, 1), (112, .putfield 49, 3), (115, .return_, 1)]
theorem kX8_takeNumber : ckD cX8_takeNumber tX8_takeNumber = true := by decide +kernel
def tX9_init : List (Nat × Instr × Nat) := [(0, .aload_n 0, 1), (1, .invokespecial 3, 3), (4, .aload_n 0, 1), (5, .iconst 3, 1), (6, .putfield 11, 3), (9, .aload_n 0, 1), (10, .new 15, 3), (13, .dup, 1), (14, .invokespecial 17, 3), (17, .putfield 18, 3), (20, .aload_n 0, 1), (21, .bipush 6, 2), (23, .newarray .long, 2), (25, .putfield 22, 3), (28, .aload_n 0, 1), (29, .bipush 8, 2), (31, .newarray .int, 2), (33, .putfield 26, 3), (36, .aload_n 0, 1), (37, .bipush 8, 2), (39, .newarray .int, 2), (41, .putfield 30, 3), (44, .aload_n 0, 1), (45, .bipush 8, 2), (47, .newarray .int, 2), (49, .putfield 33, 3), (52, .aload_n 0, 1), (53, .bipush 6, 2), (55, .newarray .long, 2), (57, .putfield 36, 3), (60, .aload_n 0, 1), (61, .bipush 6, 2), (63, .newarray .int, 2), (65, .putfield 39, 3), (68, .aload_n 0, 1), (69, .bipush 6, 2), (71, .newarray .int, 2), (73, .putfield 42, 3), (76, .aload_n 0, 1), (77, .bipush 6, 2), (79, .newarray .int, 2), (81, .putfield 45, 3), (84, .aload_n 0, 1), (85, .bipush 6, 2), (87, .newarray .int, 2), (89, .putfield 48, 3), (92, .aload_n 0, 1), (93, .bipush 36, 2), (95, .newarray .int, 2), (97, .putfield 51, 3), (100, .aload_n 0, 1), (101, .bipush 36, 2), (103, .newarray .int, 2), (105, .putfield 54, 3), (108, .return_, 1)]
theorem kX9_init : ckD cX9_init tX9_init = true := by decide +kernel
def tX9_empty : List (Nat × Instr × Nat) := [(0, .aload_n 0, 1), (1, .iconst 0, 1), (2, .putfield 57, 3), (5, .aload_n 0, 1), (6, .iconst 0, 1), (7, .putfield 60, 3), (10, .aload_n 0, 1), (11, .iconst 0, 1), (12, .putfield 63, 3), (15, .aload_n 0, 1), (16, .iconst 3, 1), (17, .putfield 11, 3), (20, .aload_n 0, 1), (21, .iconst 0, 1), (22, .putfield 66, 3), (25, .aload_n 0, 1), (26, .getfield 18, 3), (29, .iconst 0, 1), (30, .putfield 70, 3), (33, .return_, 1)]
theorem kX9_empty : ckD cX9_empty tX9_empty = true := by decide +kernel
def tX9_hasPlace : List (Nat × Instr × Nat) := [(0, .iload_n 1, 1), (1, .ifCond .lt 15, 3), (4, .iload_n 1, 1), (5, .aload_n 0, 1), (6, .getfield 57, 3), (9, .if_icmp .ge 7, 3), (12, .iconst 1, 1), (13, .goto 4, 3), (16, .iconst 0, 1), (17, .ireturn, 1)]
theorem kX9_hasPlace : ckD cX9_hasPlace tX9_hasPlace = true := by decide +kernel
def tX9_hasLane : List (Nat × Instr × Nat) := [(0, .iload_n 1, 1), (1, .ifCond .lt 15, 3), (4, .iload_n 1, 1), (5, .aload_n 0, 1), (6, .getfield 60, 3), (9, .if_icmp .ge 7, 3), (12, .iconst 1, 1), (13, .goto 4, 3), (16, .iconst 0, 1), (17, .ireturn, 1)]
theorem kX9_hasLane : ckD cX9_hasLane tX9_hasLane = true := by decide +kernel
def tX9_hasWalker : List (Nat × Instr × Nat) := [(0, .iload_n 1, 1), (1, .ifCond .lt 15, 3), (4, .iload_n 1, 1), (5, .aload_n 0, 1), (6, .getfield 63, 3), (9, .if_icmp .ge 7, 3), (12, .iconst 1, 1), (13, .goto 4, 3), (16, .iconst 0, 1), (17, .ireturn, 1)]
theorem kX9_hasWalker : ckD cX9_hasWalker tX9_hasWalker = true := by decide +kernel
def tX9_addPlace : List (Nat × Instr × Nat) := [(0, .aload_n 0, 1), (1, .getfield 57, 3), (4, .bipush 6, 2), (6, .if_icmp .ge 23, 3), (9, .aload_n 0, 1), (10, .getfield 22, 3), (13, .aload_n 0, 1), (14, .getfield 57, 3), (17, .lload_n 1, 1), (18, .lastore, 1), (19, .aload_n 0, 1), (20, .dup, 1), (21, .getfield 57, 3), (24, .iconst 1, 1), (25, .iadd, 1), (26, .putfield 57, 3), (29, .return_, 1)]
theorem kX9_addPlace : ckD cX9_addPlace tX9_addPlace = true := by decide +kernel
def tX9_addLane : List (Nat × Instr × Nat) := [(0, .aload_n 0, 1), (1, .getfield 60, 3), (4, .bipush 8, 2), (6, .if_icmp .ge 43, 3), (9, .aload_n 0, 1), (10, .getfield 26, 3), (13, .aload_n 0, 1), (14, .getfield 60, 3), (17, .iload_n 1, 1), (18, .iastore, 1), (19, .aload_n 0, 1), (20, .getfield 30, 3), (23, .aload_n 0, 1), (24, .getfield 60, 3), (27, .iload_n 2, 1), (28, .iastore, 1), (29, .aload_n 0, 1), (30, .getfield 33, 3), (33, .aload_n 0, 1), (34, .getfield 60, 3), (37, .iload_n 3, 1), (38, .iastore, 1), (39, .aload_n 0, 1), (40, .dup, 1), (41, .getfield 60, 3), (44, .iconst 1, 1), (45, .iadd, 1), (46, .putfield 60, 3), (49, .return_, 1)]
theorem kX9_addLane : ckD cX9_addLane tX9_addLane = true := by decide +kernel
def tX9_addWalker : List (Nat × Instr × Nat) := [(0, .aload_n 0, 1), (1, .getfield 63, 3), (4, .bipush 6, 2), (6, .if_icmp .ge 66, 3), (9, .aload_n 0, 1), (10, .getfield 36, 3), (13, .aload_n 0, 1), (14, .getfield 63, 3), (17, .lload_n 1, 1), (18, .lastore, 1), (19, .aload_n 0, 1), (20, .getfield 39, 3), (23, .aload_n 0, 1), (24, .getfield 63, 3), (27, .iload_n 3, 1), (28, .iastore, 1), (29, .aload_n 0, 1), (30, .getfield 42, 3), (33, .aload_n 0, 1), (34, .getfield 63, 3), (37, .iload 4, 2), (39, .iastore, 1), (40, .aload_n 0, 1), (41, .getfield 45, 3), (44, .aload_n 0, 1), (45, .getfield 63, 3), (48, .iload 5, 2), (50, .iastore, 1), (51, .aload_n 0, 1), (52, .getfield 48, 3), (55, .aload_n 0, 1), (56, .getfield 63, 3), (59, .iload 6, 2), (61, .iastore, 1), (62, .aload_n 0, 1), (63, .dup, 1), (64, .getfield 63, 3), (67, .iconst 1, 1), (68, .iadd, 1), (69, .putfield 63, 3), (72, .return_, 1)]
theorem kX9_addWalker : ckD cX9_addWalker tX9_addWalker = true := by decide +kernel
def tX9_placeNamed : List (Nat × Instr × Nat) := [(0, .iconst 0, 1), (1, .istore_n 3, 1), (2, .iload_n 3, 1), (3, .aload_n 0, 1), (4, .getfield 57, 3), (7, .if_icmp .ge 22, 3), (10, .aload_n 0, 1), (11, .getfield 22, 3), (14, .iload_n 3, 1), (15, .laload, 1), (16, .lload_n 1, 1), (17, .lcmp, 1), (18, .ifCond .ne 5, 3), (21, .iload_n 3, 1), (22, .ireturn, 1), (23, .iinc 3 1, 3), (26, .goto (-24), 3), (29, .iconst (-1), 1), (30, .ireturn, 1)]
theorem kX9_placeNamed : ckD cX9_placeNamed tX9_placeNamed = true := by decide +kernel
def tX9_walkerNamed : List (Nat × Instr × Nat) := [(0, .iconst 0, 1), (1, .istore_n 3, 1), (2, .iload_n 3, 1), (3, .aload_n 0, 1), (4, .getfield 63, 3), (7, .if_icmp .ge 22, 3), (10, .aload_n 0, 1), (11, .getfield 36, 3), (14, .iload_n 3, 1), (15, .laload, 1), (16, .lload_n 1, 1), (17, .lcmp, 1), (18, .ifCond .ne 5, 3), (21, .iload_n 3, 1), (22, .ireturn, 1), (23, .iinc 3 1, 3), (26, .goto (-24), 3), (29, .iconst (-1), 1), (30, .ireturn, 1)]
theorem kX9_walkerNamed : ckD cX9_walkerNamed tX9_walkerNamed = true := by decide +kernel
def tX9_laneBetween : List (Nat × Instr × Nat) := [(0, .iconst 0, 1), (1, .istore_n 3, 1), (2, .iload_n 3, 1), (3, .aload_n 0, 1), (4, .getfield 60, 3), (7, .if_icmp .ge 51, 3), (10, .aload_n 0, 1), (11, .getfield 26, 3), (14, .iload_n 3, 1), (15, .iaload, 1), (16, .iload_n 1, 1), (17, .if_icmp .ne 13, 3), (20, .aload_n 0, 1), (21, .getfield 30, 3), (24, .iload_n 3, 1), (25, .iaload, 1), (26, .iload_n 2, 1), (27, .if_icmp .eq 23, 3), (30, .aload_n 0, 1), (31, .getfield 26, 3), (34, .iload_n 3, 1), (35, .iaload, 1), (36, .iload_n 2, 1), (37, .if_icmp .ne 15, 3), (40, .aload_n 0, 1), (41, .getfield 30, 3), (44, .iload_n 3, 1), (45, .iaload, 1), (46, .iload_n 1, 1), (47, .if_icmp .ne 5, 3), (50, .iload_n 3, 1), (51, .ireturn, 1), (52, .iinc 3 1, 3), (55, .goto (-53), 3), (58, .iconst (-1), 1), (59, .ireturn, 1)]
theorem kX9_laneBetween : ckD cX9_laneBetween tX9_laneBetween = true := by decide +kernel
def tX9_otherEnd : List (Nat × Instr × Nat) := [(0, .aload_n 0, 1), (1, .iload_n 1, 1), (2, .invokevirtual 73, 3), (5, .ifCond .ne 5, 3), (8, .iload_n 2, 1), (9, .ireturn, 1), (10, .aload_n 0, 1), (11, .getfield 26, 3), (14, .iload_n 1, 1), (15, .iaload, 1), (16, .iload_n 2, 1), (17, .if_icmp .ne 12, 3), (20, .aload_n 0, 1), (21, .getfield 30, 3), (24, .iload_n 1, 1), (25, .iaload, 1), (26, .goto 9, 3), (29, .aload_n 0, 1), (30, .getfield 26, 3), (33, .iload_n 1, 1), (34, .iaload, 1), (35, .ireturn, 1)]
theorem kX9_otherEnd : ckD cX9_otherEnd tX9_otherEnd = true := by decide +kernel
def tX9_lanesOfWay : List (Nat × Instr × Nat) := [(0, .aload_n 0, 1), (1, .iload_n 1, 1), (2, .invokevirtual 77, 3), (5, .ifCond .eq 25, 3), (8, .aload_n 0, 1), (9, .iload_n 2, 1), (10, .invokevirtual 77, 3), (13, .ifCond .eq 17, 3), (16, .aload_n 0, 1), (17, .getfield 51, 3), (20, .iload_n 1, 1), (21, .bipush 6, 2), (23, .imul, 1), (24, .iload_n 2, 1), (25, .iadd, 1), (26, .iaload, 1), (27, .goto 4, 3), (30, .iconst (-1), 1), (31, .ireturn, 1)]
theorem kX9_lanesOfWay : ckD cX9_lanesOfWay tX9_lanesOfWay = true := by decide +kernel
def tX9_firstLane : List (Nat × Instr × Nat) := [(0, .iload_n 1, 1), (1, .ifCond .lt 27, 3), (4, .iload_n 1, 1), (5, .aload_n 0, 1), (6, .getfield 57, 3), (9, .if_icmp .ge 19, 3), (12, .iload_n 2, 1), (13, .ifCond .lt 15, 3), (16, .iload_n 2, 1), (17, .aload_n 0, 1), (18, .getfield 57, 3), (21, .if_icmp .ge 7, 3), (24, .iconst 1, 1), (25, .goto 4, 3), (28, .iconst 0, 1), (29, .istore_n 3, 1), (30, .iload_n 3, 1), (31, .ifCond .eq 17, 3), (34, .aload_n 0, 1), (35, .getfield 54, 3), (38, .iload_n 1, 1), (39, .bipush 6, 2), (41, .imul, 1), (42, .iload_n 2, 1), (43, .iadd, 1), (44, .iaload, 1), (45, .goto 4, 3), (48, .iconst (-1), 1), (49, .ireturn, 1)]
theorem kX9_firstLane : ckD cX9_firstLane tX9_firstLane = true := by decide +kernel
def tX9_findWays : List (Nat × Instr × Nat) := [(0, .iconst 0, 1), (1, .istore_n 1, 1), (2, .iload_n 1, 1), (3, .aload_n 0, 1), (4, .getfield 57, 3), (7, .if_icmp .ge 80, 3), (10, .iconst 0, 1), (11, .istore_n 2, 1), (12, .iload_n 2, 1), (13, .aload_n 0, 1), (14, .getfield 57, 3), (17, .if_icmp .ge 42, 3), (20, .aload_n 0, 1), (21, .getfield 51, 3), (24, .iload_n 2, 1), (25, .bipush 6, 2), (27, .imul, 1), (28, .iload_n 1, 1), (29, .iadd, 1), (30, .iload_n 2, 1), (31, .iload_n 1, 1), (32, .if_icmp .ne 7, 3), (35, .iconst 0, 1), (36, .goto 4, 3), (39, .iconst (-1), 1), (40, .iastore, 1), (41, .aload_n 0, 1), (42, .getfield 54, 3), (45, .iload_n 2, 1), (46, .bipush 6, 2), (48, .imul, 1), (49, .iload_n 1, 1), (50, .iadd, 1), (51, .iconst (-1), 1), (52, .iastore, 1), (53, .iinc 2 1, 3), (56, .goto (-44), 3), (59, .iconst 1, 1), (60, .istore_n 2, 1), (61, .iload_n 2, 1), (62, .aload_n 0, 1), (63, .getfield 57, 3), (66, .if_icmp .ge 15, 3), (69, .aload_n 0, 1), (70, .iload_n 2, 1), (71, .iload_n 1, 1), (72, .invokevirtual 80, 3), (75, .iinc 2 1, 3), (78, .goto (-17), 3), (81, .iinc 1 1, 3), (84, .goto (-82), 3), (87, .return_, 1)]
theorem kX9_findWays : ckD cX9_findWays tX9_findWays = true := by decide +kernel
def tX9_findWaysOfLength : List (Nat × Instr × Nat) := [(0, .iconst 0, 1), (1, .istore_n 3, 1), (2, .iload_n 3, 1), (3, .aload_n 0, 1), (4, .getfield 57, 3), (7, .if_icmp .ge 61, 3), (10, .aload_n 0, 1), (11, .iload_n 3, 1), (12, .iload_n 2, 1), (13, .invokevirtual 84, 3), (16, .iconst (-1), 1), (17, .if_icmp .ne 45, 3), (20, .aload_n 0, 1), (21, .iload_n 3, 1), (22, .iload_n 2, 1), (23, .iload_n 1, 1), (24, .iconst 1, 1), (25, .isub, 1), (26, .invokevirtual 88, 3), (29, .istore 4, 2), (31, .iload 4, 2), (33, .iconst (-1), 1), (34, .if_icmp .eq 28, 3), (37, .aload_n 0, 1), (38, .getfield 51, 3), (41, .iload_n 3, 1), (42, .bipush 6, 2), (44, .imul, 1), (45, .iload_n 2, 1), (46, .iadd, 1), (47, .iload_n 1, 1), (48, .iastore, 1), (49, .aload_n 0, 1), (50, .getfield 54, 3), (53, .iload_n 3, 1), (54, .bipush 6, 2), (56, .imul, 1), (57, .iload_n 2, 1), (58, .iadd, 1), (59, .iload 4, 2), (61, .iastore, 1), (62, .iinc 3 1, 3), (65, .goto (-63), 3), (68, .return_, 1)]
theorem kX9_findWaysOfLength : ckD cX9_findWaysOfLength tX9_findWaysOfLength = true := by decide +kernel
def tX9_laneNearer : List (Nat × Instr × Nat) := [(0, .iconst 0, 1), (1, .istore 4, 2), (3, .iload 4, 2), (5, .aload_n 0, 1), (6, .getfield 57, 3), (9, .if_icmp .ge 38, 3), (12, .aload_n 0, 1), (13, .iload 4, 2), (15, .iload_n 2, 1), (16, .invokevirtual 84, 3), (19, .iload_n 3, 1), (20, .if_icmp .ne 21, 3), (23, .aload_n 0, 1), (24, .iload_n 1, 1), (25, .iload 4, 2), (27, .invokevirtual 92, 3), (30, .istore 5, 2), (32, .iload 5, 2), (34, .iconst (-1), 1), (35, .if_icmp .eq 6, 3), (38, .iload 5, 2), (40, .ireturn, 1), (41, .iinc 4 1, 3), (44, .goto (-41), 3), (47, .iconst (-1), 1), (48, .ireturn, 1)]
theorem kX9_laneNearer : ckD cX9_laneNearer tX9_laneNearer = true := by decide +kernel
def tX10_init : List (Nat × Instr × Nat) := [(0, .aload_n 0, 1), (1, .invokespecial 1, 3), (4, .aload_n 0, 1), (5, .bipush 6, 2), (7, .newarray .int, 2), (9, .putfield 9, 3), (12, .aload_n 0, 1), (13, .bipush 6, 2), (15, .newarray .int, 2), (17, .putfield 13, 3), (20, .aload_n 0, 1), (21, .bipush 6, 2), (23, .newarray .boolean, 2), (25, .putfield 16, 3), (28, .return_, 1)]
theorem kX10_init : ckD cX10_init tX10_init = true := by decide +kernel
def tX10_add : List (Nat × Instr × Nat) := [(0, .aload_n 0, 1), (1, .getfield 20, 3), (4, .bipush 6, 2), (6, .if_icmp .lt 5, 3), (9, .iconst 0, 1), (10, .ireturn, 1), (11, .aload_n 0, 1), (12, .getfield 9, 3), (15, .aload_n 0, 1), (16, .getfield 20, 3), (19, .iload_n 1, 1), (20, .iastore, 1), (21, .aload_n 0, 1), (22, .getfield 13, 3), (25, .aload_n 0, 1), (26, .getfield 20, 3), (29, .iload_n 2, 1), (30, .iastore, 1), (31, .aload_n 0, 1), (32, .getfield 16, 3), (35, .aload_n 0, 1), (36, .getfield 20, 3), (39, .iload_n 3, 1), (40, .bastore, 1), (41, .aload_n 0, 1), (42, .dup, 1), (43, .getfield 20, 3), (46, .iconst 1, 1), (47, .iadd, 1), (48, .putfield 20, 3), (51, .iconst 1, 1), (52, .ireturn, 1)]
theorem kX10_add : ckD cX10_add tX10_add = true := by decide +kernel
def tX10_copyFrom : List (Nat × Instr × Nat) := [(0, .aload_n 0, 1), (1, .aload_n 1, 1), (2, .getfield 20, 3), (5, .putfield 20, 3), (8, .iconst 0, 1), (9, .istore_n 2, 1), (10, .iload_n 2, 1), (11, .bipush 6, 2), (13, .if_icmp .ge 45, 3), (16, .aload_n 0, 1), (17, .getfield 9, 3), (20, .iload_n 2, 1), (21, .aload_n 1, 1), (22, .getfield 9, 3), (25, .iload_n 2, 1), (26, .iaload, 1), (27, .iastore, 1), (28, .aload_n 0, 1), (29, .getfield 13, 3), (32, .iload_n 2, 1), (33, .aload_n 1, 1), (34, .getfield 13, 3), (37, .iload_n 2, 1), (38, .iaload, 1), (39, .iastore, 1), (40, .aload_n 0, 1), (41, .getfield 16, 3), (44, .iload_n 2, 1), (45, .aload_n 1, 1), (46, .getfield 16, 3), (49, .iload_n 2, 1), (50, .baload, 1), (51, .bastore, 1), (52, .iinc 2 1, 3), (55, .goto (-45), 3), (58, .return_, 1)]
theorem kX10_copyFrom : ckD cX10_copyFrom tX10_copyFrom = true := by decide +kernel
def tX10_lastMinute : List (Nat × Instr × Nat) := [(0, .iconst 0, 1), (1, .istore_n 1, 1), (2, .iconst 0, 1), (3, .istore_n 2, 1), (4, .iload_n 2, 1), (5, .aload_n 0, 1), (6, .getfield 20, 3), (9, .if_icmp .ge 20, 3), (12, .iload_n 1, 1), (13, .aload_n 0, 1), (14, .getfield 13, 3), (17, .iload_n 2, 1), (18, .iaload, 1), (19, .invokestatic 24, 3), (22, .istore_n 1, 1), (23, .iinc 2 1, 3), (26, .goto (-22), 3), (29, .iload_n 1, 1), (30, .ireturn, 1)]
theorem kX10_lastMinute : ckD cX10_lastMinute tX10_lastMinute = true := by decide +kernel
def tX10_isSo : List (Nat × Instr × Nat) := [(0, .iconst 0, 1), (1, .istore_n 3, 1), (2, .iload_n 3, 1), (3, .aload_n 0, 1), (4, .getfield 20, 3), (7, .if_icmp .ge 53, 3), (10, .iload_n 2, 1), (11, .aload_n 0, 1), (12, .getfield 9, 3), (15, .iload_n 3, 1), (16, .iaload, 1), (17, .ishr, 1), (18, .iconst 1, 1), (19, .iand, 1), (20, .iconst 1, 1), (21, .if_icmp .ne 7, 3), (24, .iconst 1, 1), (25, .goto 4, 3), (28, .iconst 0, 1), (29, .istore 4, 2), (31, .aload_n 0, 1), (32, .getfield 13, 3), (35, .iload_n 3, 1), (36, .iaload, 1), (37, .iload_n 1, 1), (38, .if_icmp .ne 16, 3), (41, .iload 4, 2), (43, .aload_n 0, 1), (44, .getfield 16, 3), (47, .iload_n 3, 1), (48, .baload, 1), (49, .if_icmp .eq 5, 3), (52, .iconst 0, 1), (53, .ireturn, 1), (54, .iinc 3 1, 3), (57, .goto (-55), 3), (60, .iconst 1, 1), (61, .ireturn, 1)]
theorem kX10_isSo : ckD cX10_isSo tX10_isSo = true := by decide +kernel
def tX11_init : List (Nat × Instr × Nat) := [(0, .aload_n 0, 1), (1, .invokespecial 1, 3), (4, .aload_n 0, 1), (5, .new 7, 3), (8, .dup, 1), (9, .invokespecial 9, 3), (12, .putfield 10, 3), (15, .aload_n 0, 1), (16, .new 16, 3), (19, .dup, 1), (20, .aload_n 0, 1), (21, .getfield 10, 3), (24, .invokespecial 18, 3), (27, .putfield 21, 3), (30, .aload_n 0, 1), (31, .new 25, 3), (34, .dup, 1), (35, .invokespecial 27, 3), (38, .putfield 28, 3), (41, .aload_n 0, 1), (42, .new 32, 3), (45, .dup, 1), (46, .invokespecial 34, 3), (49, .putfield 35, 3), (52, .aload_n 0, 1), (53, .new 39, 3), (56, .dup, 1), (57, .invokespecial 41, 3), (60, .putfield 42, 3), (63, .aload_n 0, 1), (64, .iconst 4, 1), (65, .anewarray 46, 3), (68, .putfield 48, 3), (71, .iconst 0, 1), (72, .istore_n 1, 1), (73, .iload_n 1, 1), (74, .iconst 4, 1), (75, .if_icmp .ge 22, 3), (78, .aload_n 0, 1), (79, .getfield 48, 3), (82, .iload_n 1, 1), (83, .new 46, 3), (86, .dup, 1), (87, .invokespecial 52, 3), (90, .aastore, 1), (91, .iinc 1 1, 3), (94, .goto (-21), 3), (97, .aload_n 0, 1), (98, .new 53, 3), (101, .dup, 1), (102, .invokespecial 55, 3), (105, .putfield 56, 3), (108, .aload_n 0, 1), (109, .new 60, 3), (112, .dup, 1), (113, .invokespecial 62, 3), (116, .putfield 63, 3), (119, .aload_n 0, 1), (120, .new 60, 3), (123, .dup, 1), (124, .invokespecial 62, 3), (127, .putfield 67, 3), (130, .aload_n 0, 1), (131, .new 70, 3), (134, .dup, 1), (135, .invokespecial 72, 3), (138, .putfield 73, 3), (141, .aload_n 0, 1), (142, .new 70, 3), (145, .dup, 1), (146, .invokespecial 72, 3), (149, .putfield 77, 3), (152, .return_, 1)]
theorem kX11_init : ckD cX11_init tX11_init = true := by decide +kernel
def tX11_feed : List (Nat × Instr × Nat) := [(0, .aload_n 0, 1), (1, .getfield 10, 3), (4, .lload_n 1, 1), (5, .invokevirtual 80, 3), (8, .aload_n 0, 1), (9, .getfield 10, 3), (12, .lload_n 3, 1), (13, .invokevirtual 80, 3), (16, .aload_n 0, 1), (17, .getfield 10, 3), (20, .lload 5, 2), (22, .invokevirtual 80, 3), (25, .aload_n 0, 1), (26, .getfield 10, 3), (29, .getfield 84, 3), (32, .ireturn, 1)]
theorem kX11_feed : ckD cX11_feed tX11_feed = true := by decide +kernel
def tX11_town : List (Nat × Instr × Nat) := [(0, .aload_n 0, 1), (1, .getfield 21, 3), (4, .aload_n 0, 1), (5, .getfield 67, 3), (8, .invokevirtual 88, 3), (11, .istore_n 1, 1), (12, .aload_n 0, 1), (13, .getfield 10, 3), (16, .iconst 0, 1), (17, .putfield 84, 3), (20, .iload_n 1, 1), (21, .ifCond .eq 5, 3), (24, .iload_n 1, 1), (25, .ireturn, 1), (26, .aload_n 0, 1), (27, .getfield 67, 3), (30, .astore_n 2, 1), (31, .aload_n 0, 1), (32, .aload_n 0, 1), (33, .getfield 63, 3), (36, .putfield 67, 3), (39, .aload_n 0, 1), (40, .aload_n 2, 1), (41, .putfield 63, 3), (44, .aload_n 0, 1), (45, .getfield 28, 3), (48, .aload_n 0, 1), (49, .getfield 63, 3), (52, .invokevirtual 92, 3), (55, .aload_n 0, 1), (56, .getfield 73, 3), (59, .iconst 0, 1), (60, .putfield 96, 3), (63, .aload_n 0, 1), (64, .getfield 42, 3), (67, .iconst 0, 1), (68, .putfield 99, 3), (71, .aload_n 0, 1), (72, .getfield 35, 3), (75, .invokevirtual 100, 3), (78, .aload_n 0, 1), (79, .getfield 56, 3), (82, .invokevirtual 103, 3), (85, .iconst 0, 1), (86, .istore_n 3, 1), (87, .iload_n 3, 1), (88, .aload_n 0, 1), (89, .getfield 48, 3), (92, .arraylength, 1), (93, .if_icmp .ge 28, 3), (96, .aload_n 0, 1), (97, .getfield 48, 3), (100, .iload_n 3, 1), (101, .aaload, 1), (102, .ifnull 13, 3), (105, .aload_n 0, 1), (106, .getfield 48, 3), (109, .iload_n 3, 1), (110, .aaload, 1), (111, .iconst 0, 1), (112, .putfield 104, 3), (115, .iinc 3 1, 3), (118, .goto (-31), 3), (121, .iconst 0, 1), (122, .ireturn, 1)]
theorem kX11_town : ckD cX11_town tX11_town = true := by decide +kernel
def tX11_evening : List (Nat × Instr × Nat) := [(0, .aload_n 0, 1), (1, .getfield 21, 3), (4, .aload_n 0, 1), (5, .getfield 77, 3), (8, .aload_n 0, 1), (9, .getfield 63, 3), (12, .invokevirtual 108, 3), (15, .istore_n 1, 1), (16, .aload_n 0, 1), (17, .getfield 10, 3), (20, .iconst 0, 1), (21, .putfield 84, 3), (24, .iload_n 1, 1), (25, .ifCond .eq 5, 3), (28, .iload_n 1, 1), (29, .ireturn, 1), (30, .aload_n 0, 1), (31, .getfield 77, 3), (34, .astore_n 2, 1), (35, .aload_n 0, 1), (36, .aload_n 0, 1), (37, .getfield 73, 3), (40, .putfield 77, 3), (43, .aload_n 0, 1), (44, .aload_n 2, 1), (45, .putfield 73, 3), (48, .iconst 0, 1), (49, .ireturn, 1)]
theorem kX11_evening : ckD cX11_evening tX11_evening = true := by decide +kernel
def tX11_lane : List (Nat × Instr × Nat) := [(0, .aload_n 0, 1), (1, .getfield 63, 3), (4, .iload_n 1, 1), (5, .invokevirtual 112, 3), (8, .ifCond .ne 5, 3), (11, .iconst (-1), 1), (12, .ireturn, 1), (13, .iload_n 2, 1), (14, .tableswitch 70 0 3 #[30, 40, 50, 60], 30), (44, .aload_n 0, 1), (45, .getfield 63, 3), (48, .getfield 116, 3), (51, .iload_n 1, 1), (52, .iaload, 1), (53, .ireturn, 1), (54, .aload_n 0, 1), (55, .getfield 63, 3), (58, .getfield 120, 3), (61, .iload_n 1, 1), (62, .iaload, 1), (63, .ireturn, 1), (64, .aload_n 0, 1), (65, .getfield 63, 3), (68, .getfield 123, 3), (71, .iload_n 1, 1), (72, .iaload, 1), (73, .ireturn, 1), (74, .aload_n 0, 1), (75, .getfield 28, 3), (78, .getfield 126, 3), (81, .iload_n 1, 1), (82, .iaload, 1), (83, .ireturn, 1), (84, .iconst (-1), 1), (85, .ireturn, 1)]
theorem kX11_lane : ckD cX11_lane tX11_lane = true := by decide +kernel
def tX11_walker : List (Nat × Instr × Nat) := [(0, .aload_n 0, 1), (1, .getfield 63, 3), (4, .iload_n 1, 1), (5, .invokevirtual 129, 3), (8, .ifCond .ne 5, 3), (11, .iconst (-1), 1), (12, .ireturn, 1), (13, .iload_n 2, 1), (14, .tableswitch 123 0 5 #[38, 48, 61, 71, 81, 102], 38), (52, .aload_n 0, 1), (53, .getfield 63, 3), (56, .getfield 132, 3), (59, .iload_n 1, 1), (60, .iaload, 1), (61, .ireturn, 1), (62, .aload_n 0, 1), (63, .getfield 28, 3), (66, .aload_n 0, 1), (67, .getfield 63, 3), (70, .iload_n 1, 1), (71, .invokevirtual 135, 3), (74, .ireturn, 1), (75, .aload_n 0, 1), (76, .getfield 28, 3), (79, .getfield 139, 3), (82, .iload_n 1, 1), (83, .iaload, 1), (84, .ireturn, 1), (85, .aload_n 0, 1), (86, .getfield 28, 3), (89, .getfield 142, 3), (92, .iload_n 1, 1), (93, .iaload, 1), (94, .ireturn, 1), (95, .aload_n 0, 1), (96, .getfield 28, 3), (99, .aload_n 0, 1), (100, .getfield 63, 3), (103, .iload_n 1, 1), (104, .invokevirtual 145, 3), (107, .ifCond .eq 7, 3), (110, .iconst 1, 1), (111, .goto 4, 3), (114, .iconst 0, 1), (115, .ireturn, 1), (116, .aload_n 0, 1), (117, .getfield 28, 3), (120, .aload_n 0, 1), (121, .getfield 63, 3), (124, .iload_n 1, 1), (125, .invokevirtual 149, 3), (128, .ifCond .eq 7, 3), (131, .iconst 1, 1), (132, .goto 4, 3), (135, .iconst 0, 1), (136, .ireturn, 1), (137, .iconst (-1), 1), (138, .ireturn, 1)]
theorem kX11_walker : ckD cX11_walker tX11_walker = true := by decide +kernel
def tX11_way : List (Nat × Instr × Nat) := [(0, .aload_n 0, 1), (1, .getfield 63, 3), (4, .iload_n 1, 1), (5, .iload_n 2, 1), (6, .invokevirtual 152, 3), (9, .ireturn, 1)]
theorem kX11_way : ckD cX11_way tX11_way = true := by decide +kernel
def tX11_next : List (Nat × Instr × Nat) := [(0, .aload_n 0, 1), (1, .getfield 63, 3), (4, .iload_n 1, 1), (5, .invokevirtual 129, 3), (8, .ifCond .eq 18, 3), (11, .aload_n 0, 1), (12, .getfield 28, 3), (15, .aload_n 0, 1), (16, .getfield 63, 3), (19, .iload_n 1, 1), (20, .invokevirtual 156, 3), (23, .goto 4, 3), (26, .iconst (-1), 1), (27, .ireturn, 1)]
theorem kX11_next : ckD cX11_next tX11_next = true := by decide +kernel
def tX11_minute : List (Nat × Instr × Nat) := [(0, .aload_n 0, 1), (1, .invokevirtual 159, 3), (4, .aload_n 0, 1), (5, .getfield 28, 3), (8, .aload_n 0, 1), (9, .getfield 63, 3), (12, .iconst 0, 1), (13, .invokevirtual 162, 3), (16, .aload_n 0, 1), (17, .getfield 28, 3), (20, .getfield 166, 3), (23, .invokestatic 169, 3), (26, .ireturn, 1)]
theorem kX11_minute : ckD cX11_minute tX11_minute = true := by decide +kernel
def tX11_send : List (Nat × Instr × Nat) := [(0, .aload_n 0, 1), (1, .getfield 63, 3), (4, .iload_n 1, 1), (5, .iload_n 2, 1), (6, .invokevirtual 175, 3), (9, .istore_n 3, 1), (10, .aload_n 0, 1), (11, .getfield 63, 3), (14, .iload_n 3, 1), (15, .invokevirtual 112, 3), (18, .ifCond .ne 5, 3), (21, .iconst (-1), 1), (22, .ireturn, 1), (23, .aload_n 0, 1), (24, .invokevirtual 159, 3), (27, .aload_n 0, 1), (28, .getfield 28, 3), (31, .aload_n 0, 1), (32, .getfield 63, 3), (35, .iload_n 3, 1), (36, .invokevirtual 178, 3), (39, .aload_n 0, 1), (40, .getfield 28, 3), (43, .getfield 126, 3), (46, .iload_n 3, 1), (47, .iaload, 1), (48, .ireturn, 1)]
theorem kX11_send : ckD cX11_send tX11_send = true := by decide +kernel
def tX11_waits : List (Nat × Instr × Nat) := [(0, .aload_n 0, 1), (1, .getfield 63, 3), (4, .iload_n 1, 1), (5, .invokevirtual 129, 3), (8, .ifCond .eq 18, 3), (11, .aload_n 0, 1), (12, .getfield 28, 3), (15, .aload_n 0, 1), (16, .getfield 63, 3), (19, .iload_n 1, 1), (20, .invokevirtual 145, 3), (23, .ifCond .eq 5, 3), (26, .iconst (-1), 1), (27, .ireturn, 1), (28, .aload_n 0, 1), (29, .invokevirtual 159, 3), (32, .aload_n 0, 1), (33, .getfield 28, 3), (36, .iload_n 1, 1), (37, .invokevirtual 181, 3), (40, .aload_n 0, 1), (41, .getfield 28, 3), (44, .getfield 142, 3), (47, .iload_n 1, 1), (48, .iaload, 1), (49, .ireturn, 1)]
theorem kX11_waits : ckD cX11_waits tX11_waits = true := by decide +kernel
def tX11_back : List (Nat × Instr × Nat) := [(0, .aload_n 0, 1), (1, .getfield 63, 3), (4, .iload_n 1, 1), (5, .invokevirtual 129, 3), (8, .ifCond .eq 18, 3), (11, .aload_n 0, 1), (12, .getfield 28, 3), (15, .aload_n 0, 1), (16, .getfield 63, 3), (19, .iload_n 1, 1), (20, .invokevirtual 185, 3), (23, .ifCond .ne 5, 3), (26, .iconst 0, 1), (27, .ireturn, 1), (28, .aload_n 0, 1), (29, .invokevirtual 159, 3), (32, .aload_n 0, 1), (33, .getfield 28, 3), (36, .aload_n 0, 1), (37, .getfield 63, 3), (40, .iload_n 1, 1), (41, .invokevirtual 188, 3), (44, .iconst 1, 1), (45, .ireturn, 1)]
theorem kX11_back : ckD cX11_back tX11_back = true := by decide +kernel
def tX11_undo : List (Nat × Instr × Nat) := [(0, .aload_n 0, 1), (1, .getfield 35, 3), (4, .aload_n 0, 1), (5, .getfield 28, 3), (8, .invokevirtual 191, 3), (11, .ifCond .ne 5, 3), (14, .iconst 0, 1), (15, .ireturn, 1), (16, .aload_n 0, 1), (17, .getfield 56, 3), (20, .invokevirtual 103, 3), (23, .iconst 1, 1), (24, .ireturn, 1)]
theorem kX11_undo : ckD cX11_undo tX11_undo = true := by decide +kernel
def tX11_judged : List (Nat × Instr × Nat) := [(0, .iload_n 1, 1), (1, .ifCond .lt 8, 3), (4, .iload_n 1, 1), (5, .iconst 2, 1), (6, .if_icmp .le 6, 3), (9, .bipush (-2), 2), (11, .ireturn, 1), (12, .aload_n 0, 1), (13, .getfield 56, 3), (16, .aload_n 0, 1), (17, .getfield 63, 3), (20, .aload_n 0, 1), (21, .getfield 73, 3), (24, .iload_n 1, 1), (25, .invokevirtual 195, 3), (28, .ireturn, 1)]
theorem kX11_judged : ckD cX11_judged tX11_judged = true := by decide +kernel
def tX11_darks : List (Nat × Instr × Nat) := [(0, .aload_n 0, 1), (1, .getfield 63, 3), (4, .iload_n 1, 1), (5, .invokevirtual 129, 3), (8, .ifCond .eq 22, 3), (11, .aload_n 0, 1), (12, .getfield 56, 3), (15, .aload_n 0, 1), (16, .getfield 63, 3), (19, .aload_n 0, 1), (20, .getfield 28, 3), (23, .iload_n 1, 1), (24, .invokevirtual 199, 3), (27, .goto 4, 3), (30, .iconst (-1), 1), (31, .ireturn, 1)]
theorem kX11_darks : ckD cX11_darks tX11_darks = true := by decide +kernel
def tX11_home : List (Nat × Instr × Nat) := [(0, .aload_n 0, 1), (1, .getfield 63, 3), (4, .iload_n 1, 1), (5, .invokevirtual 129, 3), (8, .ifCond .eq 22, 3), (11, .aload_n 0, 1), (12, .getfield 56, 3), (15, .aload_n 0, 1), (16, .getfield 63, 3), (19, .aload_n 0, 1), (20, .getfield 28, 3), (23, .iload_n 1, 1), (24, .invokevirtual 203, 3), (27, .goto 4, 3), (30, .iconst (-1), 1), (31, .ireturn, 1)]
theorem kX11_home : ckD cX11_home tX11_home = true := by decide +kernel
def tX11_glow : List (Nat × Instr × Nat) := [(0, .aload_n 0, 1), (1, .getfield 56, 3), (4, .aload_n 0, 1), (5, .getfield 63, 3), (8, .aload_n 0, 1), (9, .getfield 28, 3), (12, .invokevirtual 206, 3), (15, .ireturn, 1)]
theorem kX11_glow : ckD cX11_glow tX11_glow = true := by decide +kernel
def tX11_burns : List (Nat × Instr × Nat) := [(0, .aload_n 0, 1), (1, .getfield 63, 3), (4, .iload_n 1, 1), (5, .invokevirtual 112, 3), (8, .ifCond .eq 13, 3), (11, .iload_n 2, 1), (12, .ifCond .lt 9, 3), (15, .iload_n 2, 1), (16, .bipush 99, 2), (18, .if_icmp .le 5, 3), (21, .iconst (-1), 1), (22, .ireturn, 1), (23, .aload_n 0, 1), (24, .getfield 56, 3), (27, .aload_n 0, 1), (28, .getfield 63, 3), (31, .aload_n 0, 1), (32, .getfield 28, 3), (35, .iload_n 1, 1), (36, .iload_n 2, 1), (37, .invokevirtual 210, 3), (40, .ireturn, 1)]
theorem kX11_burns : ckD cX11_burns tX11_burns = true := by decide +kernel
def tX11_delay : List (Nat × Instr × Nat) := [(0, .iload_n 1, 1), (1, .iconst (-1), 1), (2, .if_icmp .eq 17, 3), (5, .aload_n 0, 1), (6, .getfield 63, 3), (9, .iload_n 1, 1), (10, .invokevirtual 129, 3), (13, .ifCond .ne 6, 3), (16, .bipush (-2), 2), (18, .ireturn, 1), (19, .aload_n 0, 1), (20, .getfield 56, 3), (23, .aload_n 0, 1), (24, .getfield 63, 3), (27, .aload_n 0, 1), (28, .getfield 28, 3), (31, .invokevirtual 214, 3), (34, .iload_n 1, 1), (35, .iconst (-1), 1), (36, .if_icmp .ne 13, 3), (39, .aload_n 0, 1), (40, .getfield 56, 3), (43, .getfield 218, 3), (46, .goto 12, 3), (49, .aload_n 0, 1), (50, .getfield 56, 3), (53, .getfield 221, 3), (56, .iload_n 1, 1), (57, .iaload, 1), (58, .ireturn, 1)]
theorem kX11_delay : ckD cX11_delay tX11_delay = true := by decide +kernel
def tX11_boys : List (Nat × Instr × Nat) := [(0, .aload_n 0, 1), (1, .getfield 56, 3), (4, .aload_n 0, 1), (5, .getfield 63, 3), (8, .aload_n 0, 1), (9, .getfield 28, 3), (12, .invokevirtual 224, 3), (15, .ireturn, 1)]
theorem kX11_boys : ckD cX11_boys tX11_boys = true := by decide +kernel
def tX11_alarm : List (Nat × Instr × Nat) := [(0, .iconst 0, 1), (1, .istore_n 1, 1), (2, .iconst 0, 1), (3, .istore_n 2, 1), (4, .iload_n 2, 1), (5, .aload_n 0, 1), (6, .getfield 63, 3), (9, .getfield 227, 3), (12, .if_icmp .ge 33, 3), (15, .aload_n 0, 1), (16, .getfield 28, 3), (19, .aload_n 0, 1), (20, .getfield 63, 3), (23, .iload_n 2, 1), (24, .invokevirtual 156, 3), (27, .istore_n 3, 1), (28, .iload_n 3, 1), (29, .iconst (-1), 1), (30, .if_icmp .eq 9, 3), (33, .iload_n 1, 1), (34, .iconst 1, 1), (35, .iload_n 3, 1), (36, .ishl, 1), (37, .ior, 1), (38, .istore_n 1, 1), (39, .iinc 2 1, 3), (42, .goto (-38), 3), (45, .aload_n 0, 1), (46, .getfield 28, 3), (49, .aload_n 0, 1), (50, .getfield 63, 3), (53, .invokevirtual 230, 3), (56, .iload_n 1, 1), (57, .iconst (-1), 1), (58, .ixor, 1), (59, .iand, 1), (60, .ireturn, 1)]
theorem kX11_alarm : ckD cX11_alarm tX11_alarm = true := by decide +kernel
def tX11_blind : List (Nat × Instr × Nat) := [(0, .aload_n 0, 1), (1, .getfield 56, 3), (4, .aload_n 0, 1), (5, .getfield 63, 3), (8, .aload_n 0, 1), (9, .getfield 28, 3), (12, .invokevirtual 233, 3), (15, .ireturn, 1)]
theorem kX11_blind : ckD cX11_blind tX11_blind = true := by decide +kernel
def tX11_meet : List (Nat × Instr × Nat) := [(0, .iload_n 1, 1), (1, .iload_n 2, 1), (2, .if_icmp .eq 25, 3), (5, .aload_n 0, 1), (6, .getfield 63, 3), (9, .iload_n 1, 1), (10, .invokevirtual 129, 3), (13, .ifCond .eq 14, 3), (16, .aload_n 0, 1), (17, .getfield 63, 3), (20, .iload_n 2, 1), (21, .invokevirtual 129, 3), (24, .ifCond .ne 5, 3), (27, .iconst (-1), 1), (28, .ireturn, 1), (29, .aload_n 0, 1), (30, .getfield 56, 3), (33, .aload_n 0, 1), (34, .getfield 63, 3), (37, .aload_n 0, 1), (38, .getfield 28, 3), (41, .iload_n 1, 1), (42, .iload_n 2, 1), (43, .invokevirtual 236, 3), (46, .ireturn, 1)]
theorem kX11_meet : ckD cX11_meet tX11_meet = true := by decide +kernel
def tX11_thief : List (Nat × Instr × Nat) := [(0, .aload_n 0, 1), (1, .getfield 56, 3), (4, .aload_n 0, 1), (5, .getfield 63, 3), (8, .aload_n 0, 1), (9, .getfield 28, 3), (12, .invokevirtual 239, 3), (15, .ireturn, 1)]
theorem kX11_thief : ckD cX11_thief tX11_thief = true := by decide +kernel
def tX11_watch : List (Nat × Instr × Nat) := [(0, .aload_n 0, 1), (1, .getfield 63, 3), (4, .iload_n 1, 1), (5, .invokevirtual 112, 3), (8, .ifCond .eq 13, 3), (11, .iload_n 2, 1), (12, .ifCond .lt 9, 3), (15, .iload_n 2, 1), (16, .bipush 30, 2), (18, .if_icmp .le 5, 3), (21, .iconst 0, 1), (22, .ireturn, 1), (23, .aload_n 0, 1), (24, .getfield 42, 3), (27, .iload_n 1, 1), (28, .iload_n 2, 1), (29, .iload_n 3, 1), (30, .invokevirtual 242, 3), (33, .ireturn, 1)]
theorem kX11_watch : ckD cX11_watch tX11_watch = true := by decide +kernel
def tX11_sets : List (Nat × Instr × Nat) := [(0, .iload_n 1, 1), (1, .ifCond .lt 8, 3), (4, .iload_n 1, 1), (5, .iconst 2, 1), (6, .if_icmp .le 5, 3), (9, .iconst (-1), 1), (10, .ireturn, 1), (11, .aload_n 0, 1), (12, .getfield 56, 3), (15, .aload_n 0, 1), (16, .getfield 63, 3), (19, .aload_n 0, 1), (20, .getfield 28, 3), (23, .aload_n 0, 1), (24, .getfield 42, 3), (27, .iload_n 1, 1), (28, .invokevirtual 246, 3), (31, .ireturn, 1)]
theorem kX11_sets : ckD cX11_sets tX11_sets = true := by decide +kernel
def tX11_look : List (Nat × Instr × Nat) := [(0, .iload_n 1, 1), (1, .ifCond .lt 9, 3), (4, .iload_n 1, 1), (5, .bipush 30, 2), (7, .if_icmp .le 5, 3), (10, .iconst (-1), 1), (11, .ireturn, 1), (12, .aload_n 0, 1), (13, .getfield 56, 3), (16, .aload_n 0, 1), (17, .getfield 63, 3), (20, .aload_n 0, 1), (21, .getfield 28, 3), (24, .aload_n 0, 1), (25, .getfield 42, 3), (28, .iload_n 1, 1), (29, .invokevirtual 250, 3), (32, .ireturn, 1)]
theorem kX11_look : ckD cX11_look tX11_look = true := by decide +kernel
def tX11_oil : List (Nat × Instr × Nat) := [(0, .aload_n 0, 1), (1, .getfield 56, 3), (4, .aload_n 0, 1), (5, .getfield 63, 3), (8, .aload_n 0, 1), (9, .getfield 28, 3), (12, .iconst (-1), 1), (13, .invokevirtual 253, 3), (16, .ireturn, 1)]
theorem kX11_oil : ckD cX11_oil tX11_oil = true := by decide +kernel
def tX11_share : List (Nat × Instr × Nat) := [(0, .aload_n 0, 1), (1, .getfield 63, 3), (4, .iload_n 1, 1), (5, .invokevirtual 129, 3), (8, .ifCond .ne 14, 3), (11, .new 256, 3), (14, .dup, 1), (15, .ldc_w 258, 3), (18, .invokespecial 260, 3), (21, .athrow, 1), (22, .aload_n 0, 1), (23, .getfield 56, 3), (26, .aload_n 0, 1), (27, .getfield 63, 3), (30, .aload_n 0, 1), (31, .getfield 28, 3), (34, .iconst (-1), 1), (35, .invokevirtual 253, 3), (38, .aload_n 0, 1), (39, .getfield 56, 3), (42, .aload_n 0, 1), (43, .getfield 63, 3), (46, .aload_n 0, 1), (47, .getfield 28, 3), (50, .iload_n 1, 1), (51, .invokevirtual 253, 3), (54, .isub, 1), (55, .ireturn, 1)]
theorem kX11_share : ckD cX11_share tX11_share = true := by decide +kernel
def tX11_longer : List (Nat × Instr × Nat) := [(0, .iload_n 1, 1), (1, .ifCond .lt 9, 3), (4, .iload_n 1, 1), (5, .bipush 9, 2), (7, .if_icmp .le 5, 3), (10, .iconst (-1), 1), (11, .ireturn, 1), (12, .aload_n 0, 1), (13, .getfield 56, 3), (16, .aload_n 0, 1), (17, .getfield 63, 3), (20, .aload_n 0, 1), (21, .getfield 28, 3), (24, .iload_n 1, 1), (25, .invokevirtual 263, 3), (28, .ireturn, 1)]
theorem kX11_longer : ckD cX11_longer tX11_longer = true := by decide +kernel
def tX11_rests : List (Nat × Instr × Nat) := [(0, .iload_n 1, 1), (1, .invokestatic 266, 3), (4, .ifCond .eq 23, 3), (7, .iload_n 2, 1), (8, .invokestatic 266, 3), (11, .ifCond .eq 16, 3), (14, .iload_n 3, 1), (15, .invokestatic 266, 3), (18, .ifCond .eq 9, 3), (21, .iload 4, 2), (23, .iconst (-1), 1), (24, .if_icmp .ge 14, 3), (27, .new 256, 3), (30, .dup, 1), (31, .ldc_w 269, 3), (34, .invokespecial 260, 3), (37, .athrow, 1), (38, .iconst 0, 1), (39, .istore 5, 2), (41, .iconst 0, 1), (42, .istore 6, 2), (44, .iload 6, 2), (46, .iconst 4, 1), (47, .if_icmp .ge 33, 3), (50, .iload_n 1, 1), (51, .iload_n 2, 1), (52, .iload_n 3, 1), (53, .iload 6, 2), (55, .invokestatic 271, 3), (58, .ifCond .eq 16, 3), (61, .iload 5, 2), (63, .iload 4, 2), (65, .if_icmp .ne 6, 3), (68, .iload 6, 2), (70, .ireturn, 1), (71, .iinc 5 1, 3), (74, .iinc 6 1, 3), (77, .goto (-33), 3), (80, .iload 4, 2), (82, .iconst (-1), 1), (83, .if_icmp .eq 14, 3), (86, .new 256, 3), (89, .dup, 1), (90, .ldc_w 275, 3), (93, .invokespecial 260, 3), (96, .athrow, 1), (97, .iload 5, 2), (99, .ireturn, 1)]
theorem kX11_rests : ckD cX11_rests tX11_rests = true := by decide +kernel
def tX11_nights : List (Nat × Instr × Nat) := [(0, .iload_n 1, 1), (1, .ifCond .lt 30, 3), (4, .iload_n 1, 1), (5, .sipush 9999, 3), (8, .if_icmp .gt 23, 3), (11, .iload_n 2, 1), (12, .iconst 1, 1), (13, .if_icmp .lt 18, 3), (16, .iload_n 2, 1), (17, .bipush 20, 2), (19, .if_icmp .gt 12, 3), (22, .iload_n 3, 1), (23, .ifCond .lt 8, 3), (26, .iload_n 3, 1), (27, .iconst 2, 1), (28, .if_icmp .le 5, 3), (31, .iconst (-1), 1), (32, .ireturn, 1), (33, .aload_n 0, 1), (34, .getfield 56, 3), (37, .aload_n 0, 1), (38, .getfield 63, 3), (41, .iload_n 1, 1), (42, .iload_n 2, 1), (43, .iload_n 3, 1), (44, .invokevirtual 277, 3), (47, .ireturn, 1)]
theorem kX11_nights : ckD cX11_nights tX11_nights = true := by decide +kernel
def tX11_mark : List (Nat × Instr × Nat) := [(0, .iload_n 1, 1), (1, .ifCond .lt 21, 3), (4, .iload_n 1, 1), (5, .aload_n 0, 1), (6, .getfield 48, 3), (9, .arraylength, 1), (10, .if_icmp .ge 12, 3), (13, .aload_n 0, 1), (14, .getfield 48, 3), (17, .iload_n 1, 1), (18, .aaload, 1), (19, .ifnonnull 5, 3), (22, .iconst 0, 1), (23, .ireturn, 1), (24, .aload_n 0, 1), (25, .getfield 48, 3), (28, .iload_n 1, 1), (29, .aaload, 1), (30, .astore_n 3, 1), (31, .iload_n 2, 1), (32, .ifCond .ne 21, 3), (35, .aload_n 3, 1), (36, .aload_n 0, 1), (37, .getfield 28, 3), (40, .aload_n 0, 1), (41, .getfield 73, 3), (44, .aload_n 0, 1), (45, .getfield 42, 3), (48, .invokevirtual 281, 3), (51, .iconst 1, 1), (52, .ireturn, 1), (53, .aload_n 3, 1), (54, .getfield 104, 3), (57, .ifCond .ne 5, 3), (60, .iconst 0, 1), (61, .ireturn, 1), (62, .aload_n 0, 1), (63, .getfield 28, 3), (66, .aload_n 3, 1), (67, .getfield 285, 3), (70, .invokevirtual 288, 3), (73, .aload_n 0, 1), (74, .getfield 73, 3), (77, .aload_n 3, 1), (78, .getfield 292, 3), (81, .invokevirtual 293, 3), (84, .aload_n 0, 1), (85, .getfield 42, 3), (88, .aload_n 3, 1), (89, .getfield 296, 3), (92, .invokevirtual 297, 3), (95, .aload_n 0, 1), (96, .getfield 35, 3), (99, .invokevirtual 100, 3), (102, .aload_n 0, 1), (103, .getfield 56, 3), (106, .invokevirtual 103, 3), (109, .iconst 1, 1), (110, .ireturn, 1)]
theorem kX11_mark : ckD cX11_mark tX11_mark = true := by decide +kernel
def tX11_count : List (Nat × Instr × Nat) := [(0, .iload_n 1, 1), (1, .tableswitch 167 0 11 #[63, 71, 79, 87, 95, 107, 119, 127, 135, 143, 151, 159], 63), (64, .aload_n 0, 1), (65, .getfield 63, 3), (68, .getfield 300, 3), (71, .ireturn, 1), (72, .aload_n 0, 1), (73, .getfield 63, 3), (76, .getfield 303, 3), (79, .ireturn, 1), (80, .aload_n 0, 1), (81, .getfield 63, 3), (84, .getfield 227, 3), (87, .ireturn, 1), (88, .aload_n 0, 1), (89, .getfield 28, 3), (92, .getfield 306, 3), (95, .ireturn, 1), (96, .aload_n 0, 1), (97, .getfield 28, 3), (100, .aload_n 0, 1), (101, .getfield 63, 3), (104, .invokevirtual 309, 3), (107, .ireturn, 1), (108, .aload_n 0, 1), (109, .getfield 28, 3), (112, .aload_n 0, 1), (113, .getfield 63, 3), (116, .invokevirtual 230, 3), (119, .ireturn, 1), (120, .aload_n 0, 1), (121, .getfield 28, 3), (124, .getfield 312, 3), (127, .ireturn, 1), (128, .aload_n 0, 1), (129, .getfield 28, 3), (132, .getfield 315, 3), (135, .ireturn, 1), (136, .aload_n 0, 1), (137, .getfield 73, 3), (140, .getfield 96, 3), (143, .ireturn, 1), (144, .aload_n 0, 1), (145, .getfield 42, 3), (148, .getfield 99, 3), (151, .ireturn, 1), (152, .aload_n 0, 1), (153, .getfield 35, 3), (156, .getfield 318, 3), (159, .ireturn, 1), (160, .aload_n 0, 1), (161, .getfield 10, 3), (164, .getfield 84, 3), (167, .ireturn, 1), (168, .iconst (-1), 1), (169, .ireturn, 1)]
theorem kX11_count : ckD cX11_count tX11_count = true := by decide +kernel
def tX11_keepPast : List (Nat × Instr × Nat) := [(0, .aload_n 0, 1), (1, .getfield 35, 3), (4, .aload_n 0, 1), (5, .getfield 28, 3), (8, .invokevirtual 319, 3), (11, .aload_n 0, 1), (12, .getfield 56, 3), (15, .invokevirtual 103, 3), (18, .return_, 1)]
theorem kX11_keepPast : ckD cX11_keepPast tX11_keepPast = true := by decide +kernel
def tX11_isPay : List (Nat × Instr × Nat) := [(0, .iload_n 0, 1), (1, .ifCond .lt 13, 3), (4, .iload_n 0, 1), (5, .bipush 9, 2), (7, .if_icmp .gt 7, 3), (10, .iconst 1, 1), (11, .goto 4, 3), (14, .iconst 0, 1), (15, .ireturn, 1)]
theorem kX11_isPay : ckD cX11_isPay tX11_isPay = true := by decide +kernel
def tX11_isRest : List (Nat × Instr × Nat) := [(0, .iload_n 3, 1), (1, .iconst 1, 1), (2, .ishr, 1), (3, .istore 4, 2), (5, .iload_n 3, 1), (6, .iconst 1, 1), (7, .iand, 1), (8, .istore 5, 2), (10, .iload_n 0, 1), (11, .iload_n 1, 1), (12, .iload_n 2, 1), (13, .iload 4, 2), (15, .iload 5, 2), (17, .invokestatic 322, 3), (20, .iload_n 0, 1), (21, .iload_n 1, 1), (22, .iload_n 2, 1), (23, .iconst 1, 1), (24, .iload 4, 2), (26, .isub, 1), (27, .iload 5, 2), (29, .invokestatic 322, 3), (32, .if_icmp .lt 32, 3), (35, .iload_n 0, 1), (36, .iload_n 1, 1), (37, .iload_n 2, 1), (38, .iload 5, 2), (40, .iload 4, 2), (42, .invokestatic 322, 3), (45, .iload_n 0, 1), (46, .iload_n 1, 1), (47, .iload_n 2, 1), (48, .iconst 1, 1), (49, .iload 5, 2), (51, .isub, 1), (52, .iload 4, 2), (54, .invokestatic 322, 3), (57, .if_icmp .lt 7, 3), (60, .iconst 1, 1), (61, .goto 4, 3), (64, .iconst 0, 1), (65, .ireturn, 1)]
theorem kX11_isRest : ckD cX11_isRest tX11_isRest = true := by decide +kernel
def tX11_gain : List (Nat × Instr × Nat) := [(0, .iload_n 3, 1), (1, .iconst 1, 1), (2, .if_icmp .ne 16, 3), (5, .iload 4, 2), (7, .iconst 1, 1), (8, .if_icmp .ne 7, 3), (11, .iload_n 0, 1), (12, .goto 5, 3), (15, .iload_n 1, 1), (16, .ineg, 1), (17, .ireturn, 1), (18, .iload 4, 2), (20, .iconst 1, 1), (21, .if_icmp .ne 7, 3), (24, .iload_n 2, 1), (25, .goto 4, 3), (28, .iconst 0, 1), (29, .ireturn, 1)]
theorem kX11_gain : ckD cX11_gain tX11_gain = true := by decide +kernel
def tX12_init : List (Nat × Instr × Nat) := [(0, .aload_n 0, 1), (1, .invokespecial 1, 3), (4, .aload_n 0, 1), (5, .sipush 1000, 3), (8, .newarray .int, 2), (10, .putfield 7, 3), (13, .aload_n 0, 1), (14, .bipush 8, 2), (16, .newarray .int, 2), (18, .putfield 13, 3), (21, .aload_n 0, 1), (22, .bipush 12, 2), (24, .newarray .long, 2), (26, .putfield 16, 3), (29, .aload_n 0, 1), (30, .bipush 12, 2), (32, .newarray .long, 2), (34, .putfield 20, 3), (37, .aload_n 0, 1), (38, .bipush 16, 2), (40, .newarray .int, 2), (42, .putfield 23, 3), (45, .aload_n 0, 1), (46, .bipush 16, 2), (48, .newarray .int, 2), (50, .putfield 26, 3), (53, .aload_n 0, 1), (54, .bipush 16, 2), (56, .newarray .int, 2), (58, .putfield 29, 3), (61, .aload_n 0, 1), (62, .bipush 12, 2), (64, .newarray .int, 2), (66, .putfield 32, 3), (69, .aload_n 0, 1), (70, .bipush 12, 2), (72, .newarray .int, 2), (74, .putfield 35, 3), (77, .aload_n 0, 1), (78, .bipush 12, 2), (80, .newarray .int, 2), (82, .putfield 38, 3), (85, .aload_n 0, 1), (86, .bipush 12, 2), (88, .newarray .int, 2), (90, .putfield 41, 3), (93, .aload_n 0, 1), (94, .iconst 2, 1), (95, .newarray .int, 2), (97, .putfield 44, 3), (100, .aload_n 0, 1), (101, .iconst 2, 1), (102, .newarray .int, 2), (104, .putfield 47, 3), (107, .aload_n 0, 1), (108, .sipush 2000, 3), (111, .newarray .int, 2), (113, .putfield 50, 3), (116, .aload_n 0, 1), (117, .bipush 7, 2), (119, .newarray .int, 2), (121, .putfield 53, 3), (124, .aload_n 0, 1), (125, .bipush 7, 2), (127, .newarray .boolean, 2), (129, .putfield 56, 3), (132, .aload_n 0, 1), (133, .bipush 7, 2), (135, .newarray .int, 2), (137, .putfield 60, 3), (140, .aload_n 0, 1), (141, .bipush 7, 2), (143, .newarray .int, 2), (145, .putfield 63, 3), (148, .aload_n 0, 1), (149, .bipush 7, 2), (151, .newarray .int, 2), (153, .putfield 66, 3), (156, .aload_n 0, 1), (157, .bipush 7, 2), (159, .newarray .int, 2), (161, .putfield 69, 3), (164, .aload_n 0, 1), (165, .bipush 7, 2), (167, .newarray .int, 2), (169, .putfield 72, 3), (172, .aload_n 0, 1), (173, .bipush 7, 2), (175, .newarray .int, 2), (177, .putfield 75, 3), (180, .aload_n 0, 1), (181, .bipush 7, 2), (183, .newarray .int, 2), (185, .putfield 78, 3), (188, .aload_n 0, 1), (189, .bipush 7, 2), (191, .newarray .int, 2), (193, .putfield 81, 3), (196, .aload_n 0, 1), (197, .bipush 7, 2), (199, .newarray .int, 2), (201, .putfield 84, 3), (204, .aload_n 0, 1), (205, .bipush 20, 2), (207, .newarray .int, 2), (209, .putfield 87, 3), (212, .aload_n 0, 1), (213, .bipush 36, 2), (215, .newarray .int, 2), (217, .putfield 90, 3), (220, .aload_n 0, 1), (221, .bipush 6, 2), (223, .newarray .int, 2), (225, .putfield 93, 3), (228, .aload_n 0, 1), (229, .sipush 240, 3), (232, .newarray .int, 2), (234, .putfield 96, 3), (237, .aload_n 0, 1), (238, .sipush 240, 3), (241, .newarray .int, 2), (243, .putfield 99, 3), (246, .aload_n 0, 1), (247, .sipush 240, 3), (250, .newarray .int, 2), (252, .putfield 102, 3), (255, .aload_n 0, 1), (256, .iconst 5, 1), (257, .newarray .int, 2), (259, .putfield 105, 3), (262, .aload_n 0, 1), (263, .bipush 30, 2), (265, .newarray .int, 2), (267, .putfield 108, 3), (270, .aload_n 0, 1), (271, .bipush 30, 2), (273, .newarray .int, 2), (275, .putfield 111, 3), (278, .aload_n 0, 1), (279, .bipush 30, 2), (281, .newarray .boolean, 2), (283, .putfield 114, 3), (286, .aload_n 0, 1), (287, .bipush 41, 2), (289, .newarray .int, 2), (291, .putfield 117, 3), (294, .aload_n 0, 1), (295, .bipush 41, 2), (297, .newarray .int, 2), (299, .putfield 120, 3), (302, .aload_n 0, 1), (303, .bipush 41, 2), (305, .newarray .int, 2), (307, .putfield 123, 3), (310, .aload_n 0, 1), (311, .sipush 164, 3), (314, .newarray .int, 2), (316, .putfield 126, 3), (319, .aload_n 0, 1), (320, .sipush 656, 3), (323, .newarray .int, 2), (325, .putfield 129, 3), (328, .aload_n 0, 1), (329, .iconst 4, 1), (330, .newarray .boolean, 2), (332, .putfield 132, 3), (335, .aload_n 0, 1), (336, .bipush 63, 2), (338, .putfield 135, 3), (341, .aload_n 0, 1), (342, .bipush 8, 2), (344, .newarray .int, 2), (346, .putfield 139, 3), (349, .aload_n 0, 1), (350, .bipush 6, 2), (352, .newarray .int, 2), (354, .putfield 142, 3), (357, .aload_n 0, 1), (358, .bipush 6, 2), (360, .newarray .int, 2), (362, .putfield 145, 3), (365, .aload_n 0, 1), (366, .bipush 6, 2), (368, .newarray .int, 2), (370, .putfield 148, 3), (373, .aload_n 0, 1), (374, .bipush 100, 2), (376, .newarray .int, 2), (378, .putfield 151, 3), (381, .aload_n 0, 1), (382, .bipush 6, 2), (384, .newarray .int, 2), (386, .putfield 154, 3), (389, .aload_n 0, 1), (390, .bipush 6, 2), (392, .newarray .int, 2), (394, .putfield 157, 3), (397, .aload_n 0, 1), (398, .sipush 1984, 3), (401, .newarray .int, 2), (403, .putfield 160, 3), (406, .aload_n 0, 1), (407, .getfield 13, 3), (410, .iconst 3, 1), (411, .iconst 3, 1), (412, .iastore, 1), (413, .aload_n 0, 1), (414, .invokevirtual 163, 3), (417, .aload_n 0, 1), (418, .invokevirtual 166, 3), (421, .return_, 1)]
theorem kX12_init : ckD cX12_init tX12_init = true := by decide +kernel
def tX12_thrown : List (Nat × Instr × Nat) := [(0, .aload_n 0, 1), (1, .getfield 169, 3), (4, .ireturn, 1)]
theorem kX12_thrown : ckD cX12_thrown tX12_thrown = true := by decide +kernel
def tX12_within : List (Nat × Instr × Nat) := [(0, .iload_n 0, 1), (1, .iload_n 1, 1), (2, .if_icmp .lt 12, 3), (5, .iload_n 0, 1), (6, .iload_n 2, 1), (7, .if_icmp .gt 7, 3), (10, .iconst 1, 1), (11, .goto 4, 3), (14, .iconst 0, 1), (15, .ireturn, 1)]
theorem kX12_within : ckD cX12_within tX12_within = true := by decide +kernel
def tX12_between : List (Nat × Instr × Nat) := [(0, .iload_n 0, 1), (1, .iload_n 1, 1), (2, .if_icmp .ge 7, 3), (5, .iload_n 1, 1), (6, .goto 13, 3), (9, .iload_n 0, 1), (10, .iload_n 2, 1), (11, .if_icmp .le 7, 3), (14, .iload_n 2, 1), (15, .goto 4, 3), (18, .iload_n 0, 1), (19, .ireturn, 1)]
theorem kX12_between : ckD cX12_between tX12_between = true := by decide +kernel
def tX12_bits : List (Nat × Instr × Nat) := [(0, .iconst 0, 1), (1, .istore_n 1, 1), (2, .iconst 0, 1), (3, .istore_n 2, 1), (4, .iload_n 2, 1), (5, .bipush 8, 2), (7, .if_icmp .ge 17, 3), (10, .iload_n 1, 1), (11, .iload_n 0, 1), (12, .iload_n 2, 1), (13, .ishr, 1), (14, .iconst 1, 1), (15, .iand, 1), (16, .iadd, 1), (17, .istore_n 1, 1), (18, .iinc 2 1, 3), (21, .goto (-17), 3), (24, .iload_n 1, 1), (25, .ireturn, 1)]
theorem kX12_bits : ckD cX12_bits tX12_bits = true := by decide +kernel
def tX12_feed : List (Nat × Instr × Nat) := [(0, .aload_n 0, 1), (1, .iconst 0, 1), (2, .putfield 169, 3), (5, .iconst 0, 1), (6, .istore 7, 2), (8, .iload 7, 2), (10, .bipush 24, 2), (12, .if_icmp .ge 108, 3), (15, .iload 7, 2), (17, .bipush 8, 2), (19, .if_icmp .ge 7, 3), (22, .lload_n 1, 1), (23, .goto 16, 3), (26, .iload 7, 2), (28, .bipush 16, 2), (30, .if_icmp .ge 7, 3), (33, .lload_n 3, 1), (34, .goto 5, 3), (37, .lload 5, 2), (39, .lstore 8, 2), (41, .lload 8, 2), (43, .bipush 56, 2), (45, .bipush 8, 2), (47, .iload 7, 2), (49, .bipush 7, 2), (51, .iand, 1), (52, .imul, 1), (53, .isub, 1), (54, .lushr, 1), (55, .ldc2_w 172, 3), (58, .land, 1), (59, .l2i, 1), (60, .istore 10, 2), (62, .aload_n 0, 1), (63, .getfield 174, 3), (66, .sipush 1000, 3), (69, .if_icmp .ge 45, 3), (72, .iload 10, 2), (74, .bipush 10, 2), (76, .if_icmp .eq 17, 3), (79, .iload 10, 2), (81, .bipush 32, 2), (83, .if_icmp .lt 31, 3), (86, .iload 10, 2), (88, .bipush 126, 2), (90, .if_icmp .gt 24, 3), (93, .aload_n 0, 1), (94, .getfield 7, 3), (97, .aload_n 0, 1), (98, .getfield 174, 3), (101, .iload 10, 2), (103, .iastore, 1), (104, .aload_n 0, 1), (105, .dup, 1), (106, .getfield 174, 3), (109, .iconst 1, 1), (110, .iadd, 1), (111, .putfield 174, 3), (114, .iinc 7 1, 3), (117, .goto (-109), 3), (120, .aload_n 0, 1), (121, .getfield 174, 3), (124, .ireturn, 1)]
theorem kX12_feed : ckD cX12_feed tX12_feed = true := by decide +kernel
def tX12_signAt : List (Nat × Instr × Nat) := [(0, .iload_n 1, 1), (1, .aload_n 0, 1), (2, .getfield 177, 3), (5, .if_icmp .ge 12, 3), (8, .aload_n 0, 1), (9, .getfield 7, 3), (12, .iload_n 1, 1), (13, .iaload, 1), (14, .goto 4, 3), (17, .iconst 0, 1), (18, .ireturn, 1)]
theorem kX12_signAt : ckD cX12_signAt tX12_signAt = true := by decide +kernel
def tX12_nextToken : List (Nat × Instr × Nat) := [(0, .aload_n 0, 1), (1, .getfield 180, 3), (4, .aload_n 0, 1), (5, .getfield 177, 3), (8, .if_icmp .ge 44, 3), (11, .aload_n 0, 1), (12, .getfield 7, 3), (15, .aload_n 0, 1), (16, .getfield 180, 3), (19, .iaload, 1), (20, .bipush 32, 2), (22, .if_icmp .eq 17, 3), (25, .aload_n 0, 1), (26, .getfield 7, 3), (29, .aload_n 0, 1), (30, .getfield 180, 3), (33, .iaload, 1), (34, .bipush 10, 2), (36, .if_icmp .ne 16, 3), (39, .aload_n 0, 1), (40, .dup, 1), (41, .getfield 180, 3), (44, .iconst 1, 1), (45, .iadd, 1), (46, .putfield 180, 3), (49, .goto (-49), 3), (52, .aload_n 0, 1), (53, .aload_n 0, 1), (54, .getfield 180, 3), (57, .putfield 183, 3), (60, .aload_n 0, 1), (61, .lconst 0, 1), (62, .putfield 186, 3), (65, .aload_n 0, 1), (66, .iconst 0, 1), (67, .putfield 190, 3), (70, .aload_n 0, 1), (71, .getfield 180, 3), (74, .aload_n 0, 1), (75, .getfield 177, 3), (78, .if_icmp .ne 9, 3), (81, .aload_n 0, 1), (82, .iconst 0, 1), (83, .putfield 193, 3), (86, .return_, 1), (87, .aload_n 0, 1), (88, .getfield 7, 3), (91, .aload_n 0, 1), (92, .getfield 180, 3), (95, .iaload, 1), (96, .istore_n 1, 1), (97, .iload_n 1, 1), (98, .bipush 97, 2), (100, .if_icmp .lt 112, 3), (103, .iload_n 1, 1), (104, .bipush 122, 2), (106, .if_icmp .gt 106, 3), (109, .aload_n 0, 1), (110, .aload_n 0, 1), (111, .getfield 180, 3), (114, .invokevirtual 196, 3), (117, .bipush 97, 2), (119, .if_icmp .lt 69, 3), (122, .aload_n 0, 1), (123, .aload_n 0, 1), (124, .getfield 180, 3), (127, .invokevirtual 196, 3), (130, .bipush 122, 2), (132, .if_icmp .gt 56, 3), (135, .aload_n 0, 1), (136, .getfield 180, 3), (139, .aload_n 0, 1), (140, .getfield 183, 3), (143, .isub, 1), (144, .bipush 8, 2), (146, .if_icmp .ge 29, 3), (149, .aload_n 0, 1), (150, .aload_n 0, 1), (151, .getfield 186, 3), (154, .ldc2_w 200, 3), (157, .lmul, 1), (158, .aload_n 0, 1), (159, .aload_n 0, 1), (160, .getfield 180, 3), (163, .invokevirtual 196, 3), (166, .i2l, 1), (167, .ladd, 1), (168, .ldc2_w 202, 3), (171, .lsub, 1), (172, .putfield 186, 3), (175, .aload_n 0, 1), (176, .dup, 1), (177, .getfield 180, 3), (180, .iconst 1, 1), (181, .iadd, 1), (182, .putfield 180, 3), (185, .goto (-76), 3), (188, .aload_n 0, 1), (189, .aload_n 0, 1), (190, .getfield 180, 3), (193, .aload_n 0, 1), (194, .getfield 183, 3), (197, .isub, 1), (198, .bipush 8, 2), (200, .if_icmp .le 7, 3), (203, .iconst 4, 1), (204, .goto 4, 3), (207, .iconst 1, 1), (208, .putfield 193, 3), (211, .return_, 1), (212, .iload_n 1, 1), (213, .bipush 48, 2), (215, .if_icmp .lt 107, 3), (218, .iload_n 1, 1), (219, .bipush 57, 2), (221, .if_icmp .gt 101, 3), (224, .aload_n 0, 1), (225, .aload_n 0, 1), (226, .getfield 180, 3), (229, .invokevirtual 196, 3), (232, .bipush 48, 2), (234, .if_icmp .lt 65, 3), (237, .aload_n 0, 1), (238, .aload_n 0, 1), (239, .getfield 180, 3), (242, .invokevirtual 196, 3), (245, .bipush 57, 2), (247, .if_icmp .gt 52, 3), (250, .aload_n 0, 1), (251, .getfield 180, 3), (254, .aload_n 0, 1), (255, .getfield 183, 3), (258, .isub, 1), (259, .iconst 4, 1), (260, .if_icmp .ge 26, 3), (263, .aload_n 0, 1), (264, .aload_n 0, 1), (265, .getfield 190, 3), (268, .bipush 10, 2), (270, .imul, 1), (271, .aload_n 0, 1), (272, .aload_n 0, 1), (273, .getfield 180, 3), (276, .invokevirtual 196, 3), (279, .iadd, 1), (280, .bipush 48, 2), (282, .isub, 1), (283, .putfield 190, 3), (286, .aload_n 0, 1), (287, .dup, 1), (288, .getfield 180, 3), (291, .iconst 1, 1), (292, .iadd, 1), (293, .putfield 180, 3), (296, .goto (-72), 3), (299, .aload_n 0, 1), (300, .aload_n 0, 1), (301, .getfield 180, 3), (304, .aload_n 0, 1), (305, .getfield 183, 3), (308, .isub, 1), (309, .iconst 4, 1), (310, .if_icmp .le 7, 3), (313, .iconst 4, 1), (314, .goto 4, 3), (317, .iconst 2, 1), (318, .putfield 193, 3), (321, .return_, 1), (322, .aload_n 0, 1), (323, .dup, 1), (324, .getfield 180, 3), (327, .iconst 1, 1), (328, .iadd, 1), (329, .putfield 180, 3), (332, .aload_n 0, 1), (333, .iload_n 1, 1), (334, .bipush 40, 2), (336, .if_icmp .lt 9, 3), (339, .iload_n 1, 1), (340, .bipush 43, 2), (342, .if_icmp .le 21, 3), (345, .iload_n 1, 1), (346, .bipush 45, 2), (348, .if_icmp .eq 15, 3), (351, .iload_n 1, 1), (352, .bipush 59, 2), (354, .if_icmp .lt 13, 3), (357, .iload_n 1, 1), (358, .bipush 61, 2), (360, .if_icmp .gt 7, 3), (363, .iconst 3, 1), (364, .goto 4, 3), (367, .iconst 4, 1), (368, .putfield 193, 3), (371, .return_, 1)]
theorem kX12_nextToken : ckD cX12_nextToken tX12_nextToken = true := by decide +kernel
def tX12_isWord : List (Nat × Instr × Nat) := [(0, .aload_n 0, 1), (1, .getfield 193, 3), (4, .iconst 1, 1), (5, .if_icmp .ne 16, 3), (8, .aload_n 0, 1), (9, .getfield 186, 3), (12, .lload_n 1, 1), (13, .lcmp, 1), (14, .ifCond .ne 7, 3), (17, .iconst 1, 1), (18, .goto 4, 3), (21, .iconst 0, 1), (22, .ireturn, 1)]
theorem kX12_isWord : ckD cX12_isWord tX12_isWord = true := by decide +kernel
def tX12_isSign : List (Nat × Instr × Nat) := [(0, .aload_n 0, 1), (1, .getfield 193, 3), (4, .iconst 3, 1), (5, .if_icmp .ne 20, 3), (8, .aload_n 0, 1), (9, .getfield 7, 3), (12, .aload_n 0, 1), (13, .getfield 183, 3), (16, .iaload, 1), (17, .iload_n 1, 1), (18, .if_icmp .ne 7, 3), (21, .iconst 1, 1), (22, .goto 4, 3), (25, .iconst 0, 1), (26, .ireturn, 1)]
theorem kX12_isSign : ckD cX12_isSign tX12_isSign = true := by decide +kernel
def tX12_fails : List (Nat × Instr × Nat) := [(0, .aload_n 0, 1), (1, .iload_n 1, 1), (2, .bipush 16, 2), (4, .aload_n 0, 1), (5, .getfield 183, 3), (8, .imul, 1), (9, .iadd, 1), (10, .putfield 204, 3), (13, .iconst 0, 1), (14, .ireturn, 1)]
theorem kX12_fails : ckD cX12_fails tX12_fails = true := by decide +kernel
def tX12_puts : List (Nat × Instr × Nat) := [(0, .aload_n 0, 1), (1, .getfield 50, 3), (4, .aload_n 0, 1), (5, .getfield 207, 3), (8, .iload_n 1, 1), (9, .iastore, 1), (10, .aload_n 0, 1), (11, .dup, 1), (12, .getfield 207, 3), (15, .iconst 1, 1), (16, .iadd, 1), (17, .putfield 207, 3), (20, .return_, 1)]
theorem kX12_puts : ckD cX12_puts tX12_puts = true := by decide +kernel
def tX12_fact : List (Nat × Instr × Nat) := [(0, .aload_n 0, 1), (1, .getfield 193, 3), (4, .iconst 1, 1), (5, .if_icmp .eq 5, 3), (8, .iconst 0, 1), (9, .ireturn, 1), (10, .aload_n 0, 1), (11, .getfield 186, 3), (14, .ldc2_w 210, 3), (17, .lcmp, 1), (18, .ifCond .ne 5, 3), (21, .iconst 1, 1), (22, .ireturn, 1), (23, .aload_n 0, 1), (24, .getfield 186, 3), (27, .ldc2_w 212, 3), (30, .lcmp, 1), (31, .ifCond .ne 5, 3), (34, .iconst 2, 1), (35, .ireturn, 1), (36, .aload_n 0, 1), (37, .getfield 186, 3), (40, .ldc2_w 214, 3), (43, .lcmp, 1), (44, .ifCond .ne 7, 3), (47, .iconst 3, 1), (48, .goto 19, 3), (51, .aload_n 0, 1), (52, .getfield 186, 3), (55, .ldc2_w 216, 3), (58, .lcmp, 1), (59, .ifCond .ne 7, 3), (62, .iconst 4, 1), (63, .goto 4, 3), (66, .iconst 0, 1), (67, .ireturn, 1)]
theorem kX12_fact : ckD cX12_fact tX12_fact = true := by decide +kernel
def tX12_reads : List (Nat × Instr × Nat) := [(0, .iconst 0, 1), (1, .istore_n 1, 1), (2, .iconst 1, 1), (3, .istore_n 2, 1), (4, .aload_n 0, 1), (5, .getfield 56, 3), (8, .iconst 0, 1), (9, .iconst 0, 1), (10, .bastore, 1), (11, .iload_n 2, 1), (12, .ifCond .eq 167, 3), (15, .aload_n 0, 1), (16, .invokevirtual 218, 3), (19, .istore_n 3, 1), (20, .aload_n 0, 1), (21, .ldc2_w 222, 3), (24, .invokevirtual 224, 3), (27, .istore 4, 2), (29, .aload_n 0, 1), (30, .bipush 40, 2), (32, .invokevirtual 228, 3), (35, .istore 5, 2), (37, .iload_n 3, 1), (38, .ifCond .ne 27, 3), (41, .iload 4, 2), (43, .ifCond .ne 22, 3), (46, .iload 5, 2), (48, .ifCond .ne 17, 3), (51, .aload_n 0, 1), (52, .getfield 193, 3), (55, .iconst 2, 1), (56, .if_icmp .eq 9, 3), (59, .aload_n 0, 1), (60, .iconst 1, 1), (61, .invokevirtual 232, 3), (64, .ireturn, 1), (65, .iload_n 1, 1), (66, .iconst 5, 1), (67, .if_icmp .ne 9, 3), (70, .aload_n 0, 1), (71, .iconst 5, 1), (72, .invokevirtual 232, 3), (75, .ireturn, 1), (76, .iload 4, 2), (78, .ifCond .ne 8, 3), (81, .iload 5, 2), (83, .ifCond .eq 48, 3), (86, .aload_n 0, 1), (87, .iload 4, 2), (89, .ifCond .eq 8, 3), (92, .bipush 30, 2), (94, .goto 5, 3), (97, .bipush 28, 2), (99, .invokevirtual 235, 3), (102, .iinc 1 1, 3), (105, .aload_n 0, 1), (106, .getfield 53, 3), (109, .iload_n 1, 1), (110, .iload 4, 2), (112, .ifCond .eq 7, 3), (115, .iconst 1, 1), (116, .goto 4, 3), (119, .iconst 2, 1), (120, .iastore, 1), (121, .aload_n 0, 1), (122, .getfield 56, 3), (125, .iload_n 1, 1), (126, .iconst 0, 1), (127, .bastore, 1), (128, .goto 44, 3), (131, .aload_n 0, 1), (132, .iload_n 3, 1), (133, .ifCond .le 7, 3), (136, .iload_n 3, 1), (137, .goto 10, 3), (140, .bipush 100, 2), (142, .aload_n 0, 1), (143, .getfield 190, 3), (146, .iadd, 1), (147, .invokevirtual 235, 3), (150, .iconst 0, 1), (151, .istore_n 2, 1), (152, .iload_n 1, 1), (153, .ifCond .le 19, 3), (156, .aload_n 0, 1), (157, .getfield 53, 3), (160, .iload_n 1, 1), (161, .iaload, 1), (162, .iconst 1, 1), (163, .if_icmp .ne 9, 3), (166, .iinc 1 (-1), 3), (169, .goto (-17), 3), (172, .aload_n 0, 1), (173, .invokevirtual 239, 3), (176, .goto (-165), 3), (179, .aload_n 0, 1), (180, .bipush 43, 2), (182, .invokevirtual 228, 3), (185, .ifCond .ne 21, 3), (188, .aload_n 0, 1), (189, .bipush 45, 2), (191, .invokevirtual 228, 3), (194, .ifCond .ne 12, 3), (197, .aload_n 0, 1), (198, .bipush 42, 2), (200, .invokevirtual 228, 3), (203, .ifCond .eq 42, 3), (206, .aload_n 0, 1), (207, .aload_n 0, 1), (208, .bipush 43, 2), (210, .invokevirtual 228, 3), (213, .ifCond .eq 8, 3), (216, .bipush 20, 2), (218, .goto 19, 3), (221, .aload_n 0, 1), (222, .bipush 45, 2), (224, .invokevirtual 228, 3), (227, .ifCond .eq 8, 3), (230, .bipush 21, 2), (232, .goto 5, 3), (235, .bipush 22, 2), (237, .invokevirtual 235, 3), (240, .iconst 1, 1), (241, .istore_n 2, 1), (242, .goto 182, 3), (245, .aload_n 0, 1), (246, .bipush 60, 2), (248, .invokevirtual 228, 3), (251, .ifCond .ne 12, 3), (254, .aload_n 0, 1), (255, .bipush 61, 2), (257, .invokevirtual 228, 3), (260, .ifCond .eq 44, 3), (263, .aload_n 0, 1), (264, .getfield 56, 3), (267, .iload_n 1, 1), (268, .baload, 1), (269, .ifCond .ne 35, 3), (272, .aload_n 0, 1), (273, .aload_n 0, 1), (274, .bipush 60, 2), (276, .invokevirtual 228, 3), (279, .ifCond .eq 8, 3), (282, .bipush 24, 2), (284, .goto 5, 3), (287, .bipush 25, 2), (289, .invokevirtual 235, 3), (292, .aload_n 0, 1), (293, .getfield 56, 3), (296, .iload_n 1, 1), (297, .iconst 1, 1), (298, .bastore, 1), (299, .iconst 1, 1), (300, .istore_n 2, 1), (301, .goto 123, 3), (304, .aload_n 0, 1), (305, .ldc2_w 242, 3), (308, .invokevirtual 224, 3), (311, .ifCond .ne 13, 3), (314, .aload_n 0, 1), (315, .ldc2_w 244, 3), (318, .invokevirtual 224, 3), (321, .ifCond .eq 36, 3), (324, .aload_n 0, 1), (325, .aload_n 0, 1), (326, .ldc2_w 242, 3), (329, .invokevirtual 224, 3), (332, .ifCond .eq 8, 3), (335, .bipush 26, 2), (337, .goto 5, 3), (340, .bipush 27, 2), (342, .invokevirtual 235, 3), (345, .aload_n 0, 1), (346, .getfield 56, 3), (349, .iload_n 1, 1), (350, .iconst 0, 1), (351, .bastore, 1), (352, .iconst 1, 1), (353, .istore_n 2, 1), (354, .goto 70, 3), (357, .aload_n 0, 1), (358, .bipush 41, 2), (360, .invokevirtual 228, 3), (363, .ifCond .eq 36, 3), (366, .iload_n 1, 1), (367, .ifCond .le 32, 3), (370, .aload_n 0, 1), (371, .bipush 29, 2), (373, .invokevirtual 235, 3), (376, .iinc 1 (-1), 3), (379, .iload_n 1, 1), (380, .ifCond .le 44, 3), (383, .aload_n 0, 1), (384, .getfield 53, 3), (387, .iload_n 1, 1), (388, .iaload, 1), (389, .iconst 1, 1), (390, .if_icmp .ne 34, 3), (393, .iinc 1 (-1), 3), (396, .goto (-17), 3), (399, .iload_n 1, 1), (400, .ifCond .ne 18, 3), (403, .aload_n 0, 1), (404, .bipush 59, 2), (406, .invokevirtual 228, 3), (409, .ifCond .eq 9, 3), (412, .aload_n 0, 1), (413, .invokevirtual 239, 3), (416, .iconst 1, 1), (417, .ireturn, 1), (418, .aload_n 0, 1), (419, .iconst 1, 1), (420, .invokevirtual 232, 3), (423, .ireturn, 1), (424, .aload_n 0, 1), (425, .invokevirtual 239, 3), (428, .goto (-417), 3)]
theorem kX12_reads : ckD cX12_reads tX12_reads = true := by decide +kernel
def tX12_opens : List (Nat × Instr × Nat) := [(0, .aload_n 0, 1), (1, .getfield 63, 3), (4, .iload_n 1, 1), (5, .iconst 0, 1), (6, .iastore, 1), (7, .aload_n 0, 1), (8, .getfield 69, 3), (11, .iload_n 1, 1), (12, .iconst 0, 1), (13, .iastore, 1), (14, .aload_n 0, 1), (15, .getfield 72, 3), (18, .iload_n 1, 1), (19, .iconst 0, 1), (20, .iastore, 1), (21, .aload_n 0, 1), (22, .getfield 75, 3), (25, .iload_n 1, 1), (26, .bipush 20, 2), (28, .iastore, 1), (29, .aload_n 0, 1), (30, .getfield 81, 3), (33, .iload_n 1, 1), (34, .iconst 0, 1), (35, .iastore, 1), (36, .return_, 1)]
theorem kX12_opens : ckD cX12_opens tX12_opens = true := by decide +kernel
def tX12_sums : List (Nat × Instr × Nat) := [(0, .aload_n 0, 1), (1, .getfield 72, 3), (4, .iload_n 1, 1), (5, .aload_n 0, 1), (6, .getfield 75, 3), (9, .iload_n 1, 1), (10, .iaload, 1), (11, .bipush 21, 2), (13, .if_icmp .ne 19, 3), (16, .aload_n 0, 1), (17, .getfield 72, 3), (20, .iload_n 1, 1), (21, .iaload, 1), (22, .aload_n 0, 1), (23, .getfield 78, 3), (26, .iload_n 1, 1), (27, .iaload, 1), (28, .isub, 1), (29, .goto 16, 3), (32, .aload_n 0, 1), (33, .getfield 72, 3), (36, .iload_n 1, 1), (37, .iaload, 1), (38, .aload_n 0, 1), (39, .getfield 78, 3), (42, .iload_n 1, 1), (43, .iaload, 1), (44, .iadd, 1), (45, .iastore, 1), (46, .aload_n 0, 1), (47, .getfield 81, 3), (50, .iload_n 1, 1), (51, .iconst 0, 1), (52, .iastore, 1), (53, .return_, 1)]
theorem kX12_sums : ckD cX12_sums tX12_sums = true := by decide +kernel
def tX12_tests : List (Nat × Instr × Nat) := [(0, .aload_n 0, 1), (1, .iload_n 1, 1), (2, .invokevirtual 246, 3), (5, .aload_n 0, 1), (6, .getfield 72, 3), (9, .iload_n 1, 1), (10, .iaload, 1), (11, .istore_n 2, 1), (12, .aload_n 0, 1), (13, .getfield 69, 3), (16, .iload_n 1, 1), (17, .iaload, 1), (18, .bipush 24, 2), (20, .if_icmp .ne 24, 3), (23, .aload_n 0, 1), (24, .getfield 66, 3), (27, .iload_n 1, 1), (28, .iaload, 1), (29, .aload_n 0, 1), (30, .getfield 72, 3), (33, .iload_n 1, 1), (34, .iaload, 1), (35, .if_icmp .ge 7, 3), (38, .iconst 1, 1), (39, .goto 4, 3), (42, .iconst 0, 1), (43, .istore_n 2, 1), (44, .aload_n 0, 1), (45, .getfield 69, 3), (48, .iload_n 1, 1), (49, .iaload, 1), (50, .bipush 25, 2), (52, .if_icmp .ne 24, 3), (55, .aload_n 0, 1), (56, .getfield 66, 3), (59, .iload_n 1, 1), (60, .iaload, 1), (61, .aload_n 0, 1), (62, .getfield 72, 3), (65, .iload_n 1, 1), (66, .iaload, 1), (67, .if_icmp .ne 7, 3), (70, .iconst 1, 1), (71, .goto 4, 3), (74, .iconst 0, 1), (75, .istore_n 2, 1), (76, .aload_n 0, 1), (77, .getfield 63, 3), (80, .iload_n 1, 1), (81, .iaload, 1), (82, .bipush 26, 2), (84, .if_icmp .ne 22, 3), (87, .aload_n 0, 1), (88, .getfield 60, 3), (91, .iload_n 1, 1), (92, .iaload, 1), (93, .ifCond .eq 11, 3), (96, .iload_n 2, 1), (97, .ifCond .eq 7, 3), (100, .iconst 1, 1), (101, .goto 4, 3), (104, .iconst 0, 1), (105, .istore_n 2, 1), (106, .aload_n 0, 1), (107, .getfield 63, 3), (110, .iload_n 1, 1), (111, .iaload, 1), (112, .bipush 27, 2), (114, .if_icmp .ne 22, 3), (117, .aload_n 0, 1), (118, .getfield 60, 3), (121, .iload_n 1, 1), (122, .iaload, 1), (123, .ifCond .ne 7, 3), (126, .iload_n 2, 1), (127, .ifCond .eq 7, 3), (130, .iconst 1, 1), (131, .goto 4, 3), (134, .iconst 0, 1), (135, .istore_n 2, 1), (136, .aload_n 0, 1), (137, .getfield 60, 3), (140, .iload_n 1, 1), (141, .iload_n 2, 1), (142, .iastore, 1), (143, .aload_n 0, 1), (144, .getfield 69, 3), (147, .iload_n 1, 1), (148, .iconst 0, 1), (149, .iastore, 1), (150, .aload_n 0, 1), (151, .getfield 72, 3), (154, .iload_n 1, 1), (155, .iconst 0, 1), (156, .iastore, 1), (157, .aload_n 0, 1), (158, .getfield 75, 3), (161, .iload_n 1, 1), (162, .bipush 20, 2), (164, .iastore, 1), (165, .return_, 1)]
theorem kX12_tests : ckD cX12_tests tX12_tests = true := by decide +kernel
def tX12_worked : List (Nat × Instr × Nat) := [(0, .iconst 0, 1), (1, .istore_n 2, 1), (2, .aload_n 0, 1), (3, .iconst 0, 1), (4, .invokevirtual 249, 3), (7, .aload_n 0, 1), (8, .getfield 44, 3), (11, .iload_n 1, 1), (12, .iaload, 1), (13, .istore_n 3, 1), (14, .iload_n 3, 1), (15, .aload_n 0, 1), (16, .getfield 47, 3), (19, .iload_n 1, 1), (20, .iaload, 1), (21, .if_icmp .ge 314, 3), (24, .aload_n 0, 1), (25, .getfield 50, 3), (28, .iload_n 3, 1), (29, .iaload, 1), (30, .istore 4, 2), (32, .iload 4, 2), (34, .bipush 28, 2), (36, .if_icmp .eq 10, 3), (39, .iload 4, 2), (41, .bipush 30, 2), (43, .if_icmp .ne 32, 3), (46, .iinc 2 1, 3), (49, .aload_n 0, 1), (50, .getfield 84, 3), (53, .iload_n 2, 1), (54, .iload 4, 2), (56, .bipush 30, 2), (58, .if_icmp .ne 7, 3), (61, .iconst 1, 1), (62, .goto 4, 3), (65, .iconst 0, 1), (66, .iastore, 1), (67, .aload_n 0, 1), (68, .iload_n 2, 1), (69, .invokevirtual 249, 3), (72, .goto 257, 3), (75, .iload 4, 2), (77, .bipush 20, 2), (79, .if_icmp .eq 10, 3), (82, .iload 4, 2), (84, .bipush 21, 2), (86, .if_icmp .ne 19, 3), (89, .aload_n 0, 1), (90, .iload_n 2, 1), (91, .invokevirtual 246, 3), (94, .aload_n 0, 1), (95, .getfield 75, 3), (98, .iload_n 2, 1), (99, .iload 4, 2), (101, .iastore, 1), (102, .goto 227, 3), (105, .iload 4, 2), (107, .bipush 22, 2), (109, .if_icmp .ne 14, 3), (112, .aload_n 0, 1), (113, .getfield 81, 3), (116, .iload_n 2, 1), (117, .iload 4, 2), (119, .iastore, 1), (120, .goto 209, 3), (123, .iload 4, 2), (125, .bipush 24, 2), (127, .if_icmp .eq 10, 3), (130, .iload 4, 2), (132, .bipush 25, 2), (134, .if_icmp .ne 46, 3), (137, .aload_n 0, 1), (138, .iload_n 2, 1), (139, .invokevirtual 246, 3), (142, .aload_n 0, 1), (143, .getfield 66, 3), (146, .iload_n 2, 1), (147, .aload_n 0, 1), (148, .getfield 72, 3), (151, .iload_n 2, 1), (152, .iaload, 1), (153, .iastore, 1), (154, .aload_n 0, 1), (155, .getfield 69, 3), (158, .iload_n 2, 1), (159, .iload 4, 2), (161, .iastore, 1), (162, .aload_n 0, 1), (163, .getfield 72, 3), (166, .iload_n 2, 1), (167, .iconst 0, 1), (168, .iastore, 1), (169, .aload_n 0, 1), (170, .getfield 75, 3), (173, .iload_n 2, 1), (174, .bipush 20, 2), (176, .iastore, 1), (177, .goto 152, 3), (180, .iload 4, 2), (182, .bipush 26, 2), (184, .if_icmp .eq 10, 3), (187, .iload 4, 2), (189, .bipush 27, 2), (191, .if_icmp .ne 19, 3), (194, .aload_n 0, 1), (195, .iload_n 2, 1), (196, .invokevirtual 252, 3), (199, .aload_n 0, 1), (200, .getfield 63, 3), (203, .iload_n 2, 1), (204, .iload 4, 2), (206, .iastore, 1), (207, .goto 122, 3), (210, .iload 4, 2), (212, .bipush 100, 2), (214, .if_icmp .lt 11, 3), (217, .iload 4, 2), (219, .bipush 100, 2), (221, .isub, 1), (222, .goto 21, 3), (225, .iload 4, 2), (227, .bipush 20, 2), (229, .if_icmp .ge 13, 3), (232, .aload_n 0, 1), (233, .getfield 87, 3), (236, .iload 4, 2), (238, .iaload, 1), (239, .goto 4, 3), (242, .iconst 0, 1), (243, .istore 5, 2), (245, .iload 4, 2), (247, .bipush 29, 2), (249, .if_icmp .ne 19, 3), (252, .aload_n 0, 1), (253, .iload_n 2, 1), (254, .invokevirtual 252, 3), (257, .aload_n 0, 1), (258, .getfield 60, 3), (261, .iload_n 2, 1), (262, .iaload, 1), (263, .istore 5, 2), (265, .iinc 2 (-1), 3), (268, .iload_n 2, 1), (269, .ifCond .le 31, 3), (272, .aload_n 0, 1), (273, .getfield 84, 3), (276, .iload_n 2, 1), (277, .iaload, 1), (278, .iconst 1, 1), (279, .if_icmp .ne 21, 3), (282, .iload 5, 2), (284, .ifCond .ne 7, 3), (287, .iconst 1, 1), (288, .goto 4, 3), (291, .iconst 0, 1), (292, .istore 5, 2), (294, .iinc 2 (-1), 3), (297, .goto (-29), 3), (300, .aload_n 0, 1), (301, .getfield 78, 3), (304, .iload_n 2, 1), (305, .aload_n 0, 1), (306, .getfield 81, 3), (309, .iload_n 2, 1), (310, .iaload, 1), (311, .ifCond .ne 8, 3), (314, .iload 5, 2), (316, .goto 12, 3), (319, .aload_n 0, 1), (320, .getfield 78, 3), (323, .iload_n 2, 1), (324, .iaload, 1), (325, .iload 5, 2), (327, .imul, 1), (328, .iastore, 1), (329, .iinc 3 1, 3), (332, .goto (-318), 3), (335, .aload_n 0, 1), (336, .iconst 0, 1), (337, .invokevirtual 252, 3), (340, .aload_n 0, 1), (341, .getfield 60, 3), (344, .iconst 0, 1), (345, .iaload, 1), (346, .ireturn, 1)]
theorem kX12_worked : ckD cX12_worked tX12_worked = true := by decide +kernel
def tX12_isKept : List (Nat × Instr × Nat) := [(0, .aload_n 0, 1), (1, .getfield 193, 3), (4, .iconst 1, 1), (5, .if_icmp .eq 5, 3), (8, .iconst 1, 1), (9, .ireturn, 1), (10, .aload_n 0, 1), (11, .getfield 186, 3), (14, .ldc2_w 255, 3), (17, .lcmp, 1), (18, .ifCond .eq 201, 3), (21, .aload_n 0, 1), (22, .getfield 186, 3), (25, .ldc2_w 257, 3), (28, .lcmp, 1), (29, .ifCond .eq 190, 3), (32, .aload_n 0, 1), (33, .getfield 186, 3), (36, .ldc2_w 259, 3), (39, .lcmp, 1), (40, .ifCond .eq 179, 3), (43, .aload_n 0, 1), (44, .getfield 186, 3), (47, .ldc2_w 261, 3), (50, .lcmp, 1), (51, .ifCond .eq 168, 3), (54, .aload_n 0, 1), (55, .getfield 186, 3), (58, .ldc2_w 263, 3), (61, .lcmp, 1), (62, .ifCond .eq 157, 3), (65, .aload_n 0, 1), (66, .getfield 186, 3), (69, .ldc2_w 265, 3), (72, .lcmp, 1), (73, .ifCond .eq 146, 3), (76, .aload_n 0, 1), (77, .getfield 186, 3), (80, .ldc2_w 267, 3), (83, .lcmp, 1), (84, .ifCond .eq 135, 3), (87, .aload_n 0, 1), (88, .getfield 186, 3), (91, .ldc2_w 269, 3), (94, .lcmp, 1), (95, .ifCond .eq 124, 3), (98, .aload_n 0, 1), (99, .getfield 186, 3), (102, .ldc2_w 271, 3), (105, .lcmp, 1), (106, .ifCond .eq 113, 3), (109, .aload_n 0, 1), (110, .getfield 186, 3), (113, .ldc2_w 273, 3), (116, .lcmp, 1), (117, .ifCond .eq 102, 3), (120, .aload_n 0, 1), (121, .getfield 186, 3), (124, .ldc2_w 275, 3), (127, .lcmp, 1), (128, .ifCond .eq 91, 3), (131, .aload_n 0, 1), (132, .getfield 186, 3), (135, .ldc2_w 277, 3), (138, .lcmp, 1), (139, .ifCond .eq 80, 3), (142, .aload_n 0, 1), (143, .getfield 186, 3), (146, .ldc2_w 279, 3), (149, .lcmp, 1), (150, .ifCond .eq 69, 3), (153, .aload_n 0, 1), (154, .getfield 186, 3), (157, .ldc2_w 281, 3), (160, .lcmp, 1), (161, .ifCond .eq 58, 3), (164, .aload_n 0, 1), (165, .getfield 186, 3), (168, .ldc2_w 283, 3), (171, .lcmp, 1), (172, .ifCond .eq 47, 3), (175, .aload_n 0, 1), (176, .getfield 186, 3), (179, .ldc2_w 285, 3), (182, .lcmp, 1), (183, .ifCond .eq 36, 3), (186, .aload_n 0, 1), (187, .getfield 186, 3), (190, .ldc2_w 222, 3), (193, .lcmp, 1), (194, .ifCond .eq 25, 3), (197, .aload_n 0, 1), (198, .getfield 186, 3), (201, .ldc2_w 242, 3), (204, .lcmp, 1), (205, .ifCond .eq 14, 3), (208, .aload_n 0, 1), (209, .getfield 186, 3), (212, .ldc2_w 244, 3), (215, .lcmp, 1), (216, .ifCond .ne 7, 3), (219, .iconst 1, 1), (220, .goto 4, 3), (223, .iconst 0, 1), (224, .ireturn, 1)]
theorem kX12_isKept : ckD cX12_isKept tX12_isKept = true := by decide +kernel
def tX12_placeNamed : List (Nat × Instr × Nat) := [(0, .bipush 6, 2), (2, .iload_n 1, 1), (3, .imul, 1), (4, .istore_n 2, 1), (5, .iload_n 2, 1), (6, .bipush 6, 2), (8, .iload_n 1, 1), (9, .imul, 1), (10, .aload_n 0, 1), (11, .getfield 13, 3), (14, .iconst 4, 1), (15, .iload_n 1, 1), (16, .imul, 1), (17, .iconst 0, 1), (18, .iadd, 1), (19, .iaload, 1), (20, .iadd, 1), (21, .if_icmp .ge 30, 3), (24, .aload_n 0, 1), (25, .getfield 16, 3), (28, .iload_n 2, 1), (29, .laload, 1), (30, .aload_n 0, 1), (31, .getfield 186, 3), (34, .lcmp, 1), (35, .ifCond .ne 10, 3), (38, .iload_n 2, 1), (39, .bipush 6, 2), (41, .iload_n 1, 1), (42, .imul, 1), (43, .isub, 1), (44, .ireturn, 1), (45, .iinc 2 1, 3), (48, .goto (-43), 3), (51, .iconst (-1), 1), (52, .ireturn, 1)]
theorem kX12_placeNamed : ckD cX12_placeNamed tX12_placeNamed = true := by decide +kernel
def tX12_walkerNamed : List (Nat × Instr × Nat) := [(0, .bipush 6, 2), (2, .iload_n 1, 1), (3, .imul, 1), (4, .istore_n 2, 1), (5, .iload_n 2, 1), (6, .bipush 6, 2), (8, .iload_n 1, 1), (9, .imul, 1), (10, .aload_n 0, 1), (11, .getfield 13, 3), (14, .iconst 4, 1), (15, .iload_n 1, 1), (16, .imul, 1), (17, .iconst 2, 1), (18, .iadd, 1), (19, .iaload, 1), (20, .iadd, 1), (21, .if_icmp .ge 30, 3), (24, .aload_n 0, 1), (25, .getfield 20, 3), (28, .iload_n 2, 1), (29, .laload, 1), (30, .aload_n 0, 1), (31, .getfield 186, 3), (34, .lcmp, 1), (35, .ifCond .ne 10, 3), (38, .iload_n 2, 1), (39, .bipush 6, 2), (41, .iload_n 1, 1), (42, .imul, 1), (43, .isub, 1), (44, .ireturn, 1), (45, .iinc 2 1, 3), (48, .goto (-43), 3), (51, .iconst (-1), 1), (52, .ireturn, 1)]
theorem kX12_walkerNamed : ckD cX12_walkerNamed tX12_walkerNamed = true := by decide +kernel
def tX12_needsNumber : List (Nat × Instr × Nat) := [(0, .aload_n 0, 1), (1, .getfield 193, 3), (4, .iconst 2, 1), (5, .if_icmp .eq 9, 3), (8, .aload_n 0, 1), (9, .iconst 1, 1), (10, .invokevirtual 232, 3), (13, .ireturn, 1), (14, .aload_n 0, 1), (15, .getfield 190, 3), (18, .iload_n 1, 1), (19, .iload_n 2, 1), (20, .invokestatic 287, 3), (23, .ifCond .ne 9, 3), (26, .aload_n 0, 1), (27, .iconst 4, 1), (28, .invokevirtual 232, 3), (31, .ireturn, 1), (32, .aload_n 0, 1), (33, .aload_n 0, 1), (34, .getfield 190, 3), (37, .putfield 291, 3), (40, .aload_n 0, 1), (41, .invokevirtual 239, 3), (44, .iconst 1, 1), (45, .ireturn, 1)]
theorem kX12_needsNumber : ckD cX12_needsNumber tX12_needsNumber = true := by decide +kernel
def tX12_needsWord : List (Nat × Instr × Nat) := [(0, .aload_n 0, 1), (1, .lload_n 1, 1), (2, .invokevirtual 224, 3), (5, .ifCond .ne 9, 3), (8, .aload_n 0, 1), (9, .iconst 1, 1), (10, .invokevirtual 232, 3), (13, .ireturn, 1), (14, .aload_n 0, 1), (15, .invokevirtual 239, 3), (18, .iconst 1, 1), (19, .ireturn, 1)]
theorem kX12_needsWord : ckD cX12_needsWord tX12_needsWord = true := by decide +kernel
def tX12_closes : List (Nat × Instr × Nat) := [(0, .aload_n 0, 1), (1, .bipush 59, 2), (3, .invokevirtual 228, 3), (6, .ifCond .ne 9, 3), (9, .aload_n 0, 1), (10, .iconst 1, 1), (11, .invokevirtual 232, 3), (14, .ireturn, 1), (15, .aload_n 0, 1), (16, .invokevirtual 239, 3), (19, .iconst 1, 1), (20, .ireturn, 1)]
theorem kX12_closes : ckD cX12_closes tX12_closes = true := by decide +kernel
def tX12_needsNew : List (Nat × Instr × Nat) := [(0, .aload_n 0, 1), (1, .invokevirtual 294, 3), (4, .ifCond .eq 9, 3), (7, .aload_n 0, 1), (8, .iconst 1, 1), (9, .invokevirtual 232, 3), (12, .ireturn, 1), (13, .aload_n 0, 1), (14, .iconst 1, 1), (15, .invokevirtual 298, 3), (18, .ifCond .ge 11, 3), (21, .aload_n 0, 1), (22, .iconst 1, 1), (23, .invokevirtual 301, 3), (26, .ifCond .lt 9, 3), (29, .aload_n 0, 1), (30, .iconst 3, 1), (31, .invokevirtual 232, 3), (34, .ireturn, 1), (35, .aload_n 0, 1), (36, .aload_n 0, 1), (37, .getfield 186, 3), (40, .putfield 304, 3), (43, .aload_n 0, 1), (44, .invokevirtual 239, 3), (47, .iconst 1, 1), (48, .ireturn, 1)]
theorem kX12_needsNew : ckD cX12_needsNew tX12_needsNew = true := by decide +kernel
def tX12_needsPlace : List (Nat × Instr × Nat) := [(0, .aload_n 0, 1), (1, .invokevirtual 294, 3), (4, .ifCond .eq 9, 3), (7, .aload_n 0, 1), (8, .iconst 1, 1), (9, .invokevirtual 232, 3), (12, .ireturn, 1), (13, .aload_n 0, 1), (14, .aload_n 0, 1), (15, .iload_n 1, 1), (16, .invokevirtual 298, 3), (19, .putfield 291, 3), (22, .aload_n 0, 1), (23, .getfield 291, 3), (26, .ifCond .ge 11, 3), (29, .aload_n 0, 1), (30, .iconst 2, 1), (31, .invokevirtual 232, 3), (34, .ifCond .eq 7, 3), (37, .iconst 1, 1), (38, .goto 4, 3), (41, .iconst 0, 1), (42, .ireturn, 1)]
theorem kX12_needsPlace : ckD cX12_needsPlace tX12_needsPlace = true := by decide +kernel
def tX12_needsTwo : List (Nat × Instr × Nat) := [(0, .aload_n 0, 1), (1, .iload_n 1, 1), (2, .invokevirtual 306, 3), (5, .ifCond .ne 5, 3), (8, .iconst 0, 1), (9, .ireturn, 1), (10, .aload_n 0, 1), (11, .aload_n 0, 1), (12, .getfield 291, 3), (15, .putfield 309, 3), (18, .aload_n 0, 1), (19, .invokevirtual 239, 3), (22, .aload_n 0, 1), (23, .iload_n 1, 1), (24, .invokevirtual 306, 3), (27, .ifCond .eq 26, 3), (30, .aload_n 0, 1), (31, .getfield 291, 3), (34, .aload_n 0, 1), (35, .getfield 309, 3), (38, .if_icmp .ne 11, 3), (41, .aload_n 0, 1), (42, .iconst 3, 1), (43, .invokevirtual 232, 3), (46, .ifCond .eq 7, 3), (49, .iconst 1, 1), (50, .goto 4, 3), (53, .iconst 0, 1), (54, .ireturn, 1)]
theorem kX12_needsTwo : ckD cX12_needsTwo tX12_needsTwo = true := by decide +kernel
def tX12_readsPlace : List (Nat × Instr × Nat) := [(0, .bipush 6, 2), (2, .aload_n 0, 1), (3, .getfield 13, 3), (6, .iconst 4, 1), (7, .iaload, 1), (8, .iadd, 1), (9, .istore_n 1, 1), (10, .iload_n 1, 1), (11, .bipush 12, 2), (13, .if_icmp .ne 9, 3), (16, .aload_n 0, 1), (17, .iconst 5, 1), (18, .invokevirtual 232, 3), (21, .ireturn, 1), (22, .aload_n 0, 1), (23, .invokevirtual 239, 3), (26, .aload_n 0, 1), (27, .invokevirtual 312, 3), (30, .ifCond .ne 5, 3), (33, .iconst 0, 1), (34, .ireturn, 1), (35, .aload_n 0, 1), (36, .getfield 16, 3), (39, .iload_n 1, 1), (40, .aload_n 0, 1), (41, .getfield 304, 3), (44, .lastore, 1), (45, .aload_n 0, 1), (46, .getfield 13, 3), (49, .iconst 4, 1), (50, .dup2, 1), (51, .iaload, 1), (52, .iconst 1, 1), (53, .iadd, 1), (54, .iastore, 1), (55, .aload_n 0, 1), (56, .invokevirtual 315, 3), (59, .ireturn, 1)]
theorem kX12_readsPlace : ckD cX12_readsPlace tX12_readsPlace = true := by decide +kernel
def tX12_laneOf : List (Nat × Instr × Nat) := [(0, .bipush 8, 2), (2, .iload_n 1, 1), (3, .imul, 1), (4, .istore 4, 2), (6, .iload 4, 2), (8, .bipush 8, 2), (10, .iload_n 1, 1), (11, .imul, 1), (12, .aload_n 0, 1), (13, .getfield 13, 3), (16, .iconst 4, 1), (17, .iload_n 1, 1), (18, .imul, 1), (19, .iconst 1, 1), (20, .iadd, 1), (21, .iaload, 1), (22, .iadd, 1), (23, .if_icmp .ge 61, 3), (26, .aload_n 0, 1), (27, .getfield 23, 3), (30, .iload 4, 2), (32, .iaload, 1), (33, .iload_n 2, 1), (34, .if_icmp .ne 14, 3), (37, .aload_n 0, 1), (38, .getfield 26, 3), (41, .iload 4, 2), (43, .iaload, 1), (44, .iload_n 3, 1), (45, .if_icmp .eq 25, 3), (48, .aload_n 0, 1), (49, .getfield 23, 3), (52, .iload 4, 2), (54, .iaload, 1), (55, .iload_n 3, 1), (56, .if_icmp .ne 22, 3), (59, .aload_n 0, 1), (60, .getfield 26, 3), (63, .iload 4, 2), (65, .iaload, 1), (66, .iload_n 2, 1), (67, .if_icmp .ne 11, 3), (70, .iload 4, 2), (72, .bipush 8, 2), (74, .iload_n 1, 1), (75, .imul, 1), (76, .isub, 1), (77, .ireturn, 1), (78, .iinc 4 1, 3), (81, .goto (-75), 3), (84, .iconst (-1), 1), (85, .ireturn, 1)]
theorem kX12_laneOf : ckD cX12_laneOf tX12_laneOf = true := by decide +kernel
def tX12_readsLane : List (Nat × Instr × Nat) := [(0, .bipush 8, 2), (2, .aload_n 0, 1), (3, .getfield 13, 3), (6, .iconst 5, 1), (7, .iaload, 1), (8, .iadd, 1), (9, .istore_n 1, 1), (10, .iload_n 1, 1), (11, .bipush 16, 2), (13, .if_icmp .ne 9, 3), (16, .aload_n 0, 1), (17, .iconst 5, 1), (18, .invokevirtual 232, 3), (21, .ireturn, 1), (22, .aload_n 0, 1), (23, .invokevirtual 239, 3), (26, .aload_n 0, 1), (27, .iconst 1, 1), (28, .invokevirtual 318, 3), (31, .ifCond .ne 5, 3), (34, .iconst 0, 1), (35, .ireturn, 1), (36, .aload_n 0, 1), (37, .iconst 1, 1), (38, .aload_n 0, 1), (39, .getfield 309, 3), (42, .aload_n 0, 1), (43, .getfield 291, 3), (46, .invokevirtual 321, 3), (49, .ifCond .lt 9, 3), (52, .aload_n 0, 1), (53, .iconst 3, 1), (54, .invokevirtual 232, 3), (57, .ireturn, 1), (58, .aload_n 0, 1), (59, .getfield 23, 3), (62, .iload_n 1, 1), (63, .aload_n 0, 1), (64, .getfield 309, 3), (67, .iastore, 1), (68, .aload_n 0, 1), (69, .getfield 26, 3), (72, .iload_n 1, 1), (73, .aload_n 0, 1), (74, .getfield 291, 3), (77, .iastore, 1), (78, .aload_n 0, 1), (79, .invokevirtual 239, 3), (82, .aload_n 0, 1), (83, .ldc2_w 259, 3), (86, .invokevirtual 325, 3), (89, .ifCond .eq 13, 3), (92, .aload_n 0, 1), (93, .iconst 0, 1), (94, .bipush 20, 2), (96, .invokevirtual 328, 3), (99, .ifCond .ne 5, 3), (102, .iconst 0, 1), (103, .ireturn, 1), (104, .aload_n 0, 1), (105, .getfield 29, 3), (108, .iload_n 1, 1), (109, .aload_n 0, 1), (110, .getfield 291, 3), (113, .iastore, 1), (114, .aload_n 0, 1), (115, .getfield 13, 3), (118, .iconst 5, 1), (119, .dup2, 1), (120, .iaload, 1), (121, .iconst 1, 1), (122, .iadd, 1), (123, .iastore, 1), (124, .aload_n 0, 1), (125, .invokevirtual 315, 3), (128, .ireturn, 1)]
theorem kX12_readsLane : ckD cX12_readsLane tX12_readsLane = true := by decide +kernel
def tX12_readsWalker : List (Nat × Instr × Nat) := [(0, .bipush 6, 2), (2, .aload_n 0, 1), (3, .getfield 13, 3), (6, .bipush 6, 2), (8, .iaload, 1), (9, .iadd, 1), (10, .istore_n 1, 1), (11, .iload_n 1, 1), (12, .bipush 12, 2), (14, .if_icmp .ne 9, 3), (17, .aload_n 0, 1), (18, .iconst 5, 1), (19, .invokevirtual 232, 3), (22, .ireturn, 1), (23, .aload_n 0, 1), (24, .invokevirtual 239, 3), (27, .aload_n 0, 1), (28, .invokevirtual 312, 3), (31, .ifCond .ne 5, 3), (34, .iconst 0, 1), (35, .ireturn, 1), (36, .aload_n 0, 1), (37, .getfield 304, 3), (40, .lstore_n 2, 1), (41, .aload_n 0, 1), (42, .getfield 32, 3), (45, .iload_n 1, 1), (46, .aload_n 0, 1), (47, .ldc2_w 279, 3), (50, .invokevirtual 224, 3), (53, .ifCond .eq 7, 3), (56, .iconst 0, 1), (57, .goto 46, 3), (60, .aload_n 0, 1), (61, .ldc2_w 281, 3), (64, .invokevirtual 224, 3), (67, .ifCond .eq 7, 3), (70, .iconst 1, 1), (71, .goto 32, 3), (74, .aload_n 0, 1), (75, .ldc2_w 283, 3), (78, .invokevirtual 224, 3), (81, .ifCond .eq 7, 3), (84, .iconst 2, 1), (85, .goto 18, 3), (88, .aload_n 0, 1), (89, .ldc2_w 285, 3), (92, .invokevirtual 224, 3), (95, .ifCond .eq 7, 3), (98, .iconst 3, 1), (99, .goto 4, 3), (102, .iconst (-1), 1), (103, .iastore, 1), (104, .aload_n 0, 1), (105, .getfield 32, 3), (108, .iload_n 1, 1), (109, .iaload, 1), (110, .ifCond .ge 9, 3), (113, .aload_n 0, 1), (114, .iconst 1, 1), (115, .invokevirtual 232, 3), (118, .ireturn, 1), (119, .aload_n 0, 1), (120, .invokevirtual 239, 3), (123, .aload_n 0, 1), (124, .ldc2_w 263, 3), (127, .invokevirtual 325, 3), (130, .ifCond .eq 11, 3), (133, .aload_n 0, 1), (134, .iconst 1, 1), (135, .invokevirtual 306, 3), (138, .ifCond .ne 5, 3), (141, .iconst 0, 1), (142, .ireturn, 1), (143, .aload_n 0, 1), (144, .getfield 35, 3), (147, .iload_n 1, 1), (148, .aload_n 0, 1), (149, .getfield 291, 3), (152, .iastore, 1), (153, .aload_n 0, 1), (154, .invokevirtual 239, 3), (157, .aload_n 0, 1), (158, .ldc2_w 265, 3), (161, .invokevirtual 325, 3), (164, .ifCond .eq 11, 3), (167, .aload_n 0, 1), (168, .iconst 1, 1), (169, .invokevirtual 306, 3), (172, .ifCond .ne 5, 3), (175, .iconst 0, 1), (176, .ireturn, 1), (177, .aload_n 0, 1), (178, .getfield 38, 3), (181, .iload_n 1, 1), (182, .aload_n 0, 1), (183, .getfield 291, 3), (186, .iastore, 1), (187, .aload_n 0, 1), (188, .invokevirtual 239, 3), (191, .aload_n 0, 1), (192, .ldc2_w 267, 3), (195, .invokevirtual 325, 3), (198, .ifCond .eq 13, 3), (201, .aload_n 0, 1), (202, .iconst 0, 1), (203, .bipush 30, 2), (205, .invokevirtual 328, 3), (208, .ifCond .ne 5, 3), (211, .iconst 0, 1), (212, .ireturn, 1), (213, .aload_n 0, 1), (214, .getfield 41, 3), (217, .iload_n 1, 1), (218, .aload_n 0, 1), (219, .getfield 291, 3), (222, .iastore, 1), (223, .aload_n 0, 1), (224, .getfield 20, 3), (227, .iload_n 1, 1), (228, .lload_n 2, 1), (229, .lastore, 1), (230, .aload_n 0, 1), (231, .getfield 13, 3), (234, .bipush 6, 2), (236, .dup2, 1), (237, .iaload, 1), (238, .iconst 1, 1), (239, .iadd, 1), (240, .iastore, 1), (241, .aload_n 0, 1), (242, .invokevirtual 315, 3), (245, .ireturn, 1)]
theorem kX12_readsWalker : ckD cX12_readsWalker tX12_readsWalker = true := by decide +kernel
def tX12_readsBoy : List (Nat × Instr × Nat) := [(0, .aload_n 0, 1), (1, .getfield 332, 3), (4, .ifCond .eq 9, 3), (7, .aload_n 0, 1), (8, .iconst 3, 1), (9, .invokevirtual 232, 3), (12, .ireturn, 1), (13, .aload_n 0, 1), (14, .iconst 1, 1), (15, .putfield 332, 3), (18, .aload_n 0, 1), (19, .invokevirtual 239, 3), (22, .aload_n 0, 1), (23, .iconst 0, 1), (24, .bipush 99, 2), (26, .invokevirtual 328, 3), (29, .ifCond .ne 5, 3), (32, .iconst 0, 1), (33, .ireturn, 1), (34, .aload_n 0, 1), (35, .getfield 13, 3), (38, .bipush 7, 2), (40, .aload_n 0, 1), (41, .getfield 291, 3), (44, .iastore, 1), (45, .aload_n 0, 1), (46, .invokevirtual 315, 3), (49, .ireturn, 1)]
theorem kX12_readsBoy : ckD cX12_readsBoy tX12_readsBoy = true := by decide +kernel
def tX12_readsBurns : List (Nat × Instr × Nat) := [(0, .aload_n 0, 1), (1, .getfield 47, 3), (4, .iconst 1, 1), (5, .iaload, 1), (6, .aload_n 0, 1), (7, .getfield 44, 3), (10, .iconst 1, 1), (11, .iaload, 1), (12, .if_icmp .le 9, 3), (15, .aload_n 0, 1), (16, .iconst 3, 1), (17, .invokevirtual 232, 3), (20, .ireturn, 1), (21, .aload_n 0, 1), (22, .invokevirtual 239, 3), (25, .aload_n 0, 1), (26, .getfield 44, 3), (29, .iconst 1, 1), (30, .aload_n 0, 1), (31, .getfield 207, 3), (34, .iastore, 1), (35, .aload_n 0, 1), (36, .invokevirtual 336, 3), (39, .ifCond .ne 5, 3), (42, .iconst 0, 1), (43, .ireturn, 1), (44, .aload_n 0, 1), (45, .getfield 47, 3), (48, .iconst 1, 1), (49, .aload_n 0, 1), (50, .getfield 207, 3), (53, .iastore, 1), (54, .iconst 1, 1), (55, .ireturn, 1)]
theorem kX12_readsBurns : ckD cX12_readsBurns tX12_readsBurns = true := by decide +kernel
def tX12_begins : List (Nat × Instr × Nat) := [(0, .aload_n 0, 1), (1, .aload_n 0, 1), (2, .getfield 174, 3), (5, .putfield 177, 3), (8, .aload_n 0, 1), (9, .iconst 0, 1), (10, .putfield 174, 3), (13, .aload_n 0, 1), (14, .iconst 0, 1), (15, .putfield 180, 3), (18, .aload_n 0, 1), (19, .invokevirtual 239, 3), (22, .return_, 1)]
theorem kX12_begins : ckD cX12_begins tX12_begins = true := by decide +kernel
def tX12_readsAll : List (Nat × Instr × Nat) := [(0, .iconst 4, 1), (1, .istore_n 1, 1), (2, .iload_n 1, 1), (3, .bipush 8, 2), (5, .if_icmp .ge 26, 3), (8, .aload_n 0, 1), (9, .getfield 13, 3), (12, .iload_n 1, 1), (13, .iload_n 1, 1), (14, .bipush 7, 2), (16, .if_icmp .ne 7, 3), (19, .iconst 3, 1), (20, .goto 4, 3), (23, .iconst 0, 1), (24, .iastore, 1), (25, .iinc 1 1, 3), (28, .goto (-26), 3), (31, .aload_n 0, 1), (32, .getfield 44, 3), (35, .iconst 1, 1), (36, .sipush 1000, 3), (39, .iastore, 1), (40, .aload_n 0, 1), (41, .getfield 47, 3), (44, .iconst 1, 1), (45, .sipush 1000, 3), (48, .iastore, 1), (49, .aload_n 0, 1), (50, .iconst 0, 1), (51, .putfield 332, 3), (54, .aload_n 0, 1), (55, .sipush 1000, 3), (58, .putfield 207, 3), (61, .aload_n 0, 1), (62, .invokevirtual 339, 3), (65, .aload_n 0, 1), (66, .getfield 193, 3), (69, .ifCond .eq 103, 3), (72, .aload_n 0, 1), (73, .ldc2_w 255, 3), (76, .invokevirtual 224, 3), (79, .ifCond .eq 10, 3), (82, .aload_n 0, 1), (83, .invokevirtual 342, 3), (86, .goto 76, 3), (89, .aload_n 0, 1), (90, .ldc2_w 257, 3), (93, .invokevirtual 224, 3), (96, .ifCond .eq 10, 3), (99, .aload_n 0, 1), (100, .invokevirtual 345, 3), (103, .goto 59, 3), (106, .aload_n 0, 1), (107, .ldc2_w 261, 3), (110, .invokevirtual 224, 3), (113, .ifCond .eq 10, 3), (116, .aload_n 0, 1), (117, .invokevirtual 348, 3), (120, .goto 42, 3), (123, .aload_n 0, 1), (124, .ldc2_w 269, 3), (127, .invokevirtual 224, 3), (130, .ifCond .eq 10, 3), (133, .aload_n 0, 1), (134, .invokevirtual 351, 3), (137, .goto 25, 3), (140, .aload_n 0, 1), (141, .ldc2_w 259, 3), (144, .invokevirtual 224, 3), (147, .ifCond .eq 10, 3), (150, .aload_n 0, 1), (151, .invokevirtual 354, 3), (154, .goto 8, 3), (157, .aload_n 0, 1), (158, .iconst 1, 1), (159, .invokevirtual 232, 3), (162, .istore_n 1, 1), (163, .iload_n 1, 1), (164, .ifCond .ne 5, 3), (167, .iconst 0, 1), (168, .ireturn, 1), (169, .goto (-104), 3), (172, .iconst 1, 1), (173, .ireturn, 1)]
theorem kX12_readsAll : ckD cX12_readsAll tX12_readsAll = true := by decide +kernel
def tX12_shifts : List (Nat × Instr × Nat) := [(0, .iconst 0, 1), (1, .istore_n 2, 1), (2, .iload_n 2, 1), (3, .iload_n 1, 1), (4, .if_icmp .ge 17, 3), (7, .aload_n 0, 1), (8, .iload_n 2, 1), (9, .aload_n 0, 1), (10, .iload_n 1, 1), (11, .iload_n 2, 1), (12, .iadd, 1), (13, .iaload, 1), (14, .iastore, 1), (15, .iinc 2 1, 3), (18, .goto (-16), 3), (21, .return_, 1)]
theorem kX12_shifts : ckD cX12_shifts tX12_shifts = true := by decide +kernel
def tX12_shiftsNames : List (Nat × Instr × Nat) := [(0, .iconst 0, 1), (1, .istore_n 2, 1), (2, .iload_n 2, 1), (3, .iload_n 1, 1), (4, .if_icmp .ge 17, 3), (7, .aload_n 0, 1), (8, .iload_n 2, 1), (9, .aload_n 0, 1), (10, .iload_n 1, 1), (11, .iload_n 2, 1), (12, .iadd, 1), (13, .laload, 1), (14, .lastore, 1), (15, .iinc 2 1, 3), (18, .goto (-16), 3), (21, .return_, 1)]
theorem kX12_shiftsNames : ckD cX12_shiftsNames tX12_shiftsNames = true := by decide +kernel
def tX12_lays : List (Nat × Instr × Nat) := [(0, .aload_n 0, 1), (1, .getfield 13, 3), (4, .iconst 4, 1), (5, .invokestatic 357, 3), (8, .aload_n 0, 1), (9, .getfield 16, 3), (12, .bipush 6, 2), (14, .invokestatic 361, 3), (17, .aload_n 0, 1), (18, .getfield 20, 3), (21, .bipush 6, 2), (23, .invokestatic 361, 3), (26, .aload_n 0, 1), (27, .getfield 23, 3), (30, .bipush 8, 2), (32, .invokestatic 357, 3), (35, .aload_n 0, 1), (36, .getfield 26, 3), (39, .bipush 8, 2), (41, .invokestatic 357, 3), (44, .aload_n 0, 1), (45, .getfield 29, 3), (48, .bipush 8, 2), (50, .invokestatic 357, 3), (53, .aload_n 0, 1), (54, .getfield 32, 3), (57, .bipush 6, 2), (59, .invokestatic 357, 3), (62, .aload_n 0, 1), (63, .getfield 35, 3), (66, .bipush 6, 2), (68, .invokestatic 357, 3), (71, .aload_n 0, 1), (72, .getfield 38, 3), (75, .bipush 6, 2), (77, .invokestatic 357, 3), (80, .aload_n 0, 1), (81, .getfield 41, 3), (84, .bipush 6, 2), (86, .invokestatic 357, 3), (89, .aload_n 0, 1), (90, .getfield 50, 3), (93, .sipush 1000, 3), (96, .invokestatic 357, 3), (99, .aload_n 0, 1), (100, .getfield 44, 3), (103, .iconst 0, 1), (104, .aload_n 0, 1), (105, .getfield 44, 3), (108, .iconst 1, 1), (109, .iaload, 1), (110, .sipush 1000, 3), (113, .isub, 1), (114, .iastore, 1), (115, .aload_n 0, 1), (116, .getfield 47, 3), (119, .iconst 0, 1), (120, .aload_n 0, 1), (121, .getfield 47, 3), (124, .iconst 1, 1), (125, .iaload, 1), (126, .sipush 1000, 3), (129, .isub, 1), (130, .iastore, 1), (131, .return_, 1)]
theorem kX12_lays : ckD cX12_lays tX12_lays = true := by decide +kernel
def tX12_lays0 : List (Nat × Instr × Nat) := [(0, .iconst 0, 1), (1, .istore_n 1, 1), (2, .iload_n 1, 1), (3, .bipush 36, 2), (5, .if_icmp .ge 52, 3), (8, .aload_n 0, 1), (9, .getfield 90, 3), (12, .iload_n 1, 1), (13, .iload_n 1, 1), (14, .bipush 6, 2), (16, .idiv, 1), (17, .iload_n 1, 1), (18, .bipush 6, 2), (20, .irem, 1), (21, .if_icmp .ne 7, 3), (24, .iconst 0, 1), (25, .goto 25, 3), (28, .aload_n 0, 1), (29, .iconst 0, 1), (30, .iload_n 1, 1), (31, .bipush 6, 2), (33, .idiv, 1), (34, .iload_n 1, 1), (35, .bipush 6, 2), (37, .irem, 1), (38, .invokevirtual 321, 3), (41, .ifCond .lt 7, 3), (44, .iconst 1, 1), (45, .goto 5, 3), (48, .bipush 99, 2), (50, .iastore, 1), (51, .iinc 1 1, 3), (54, .goto (-52), 3), (57, .iconst 0, 1), (58, .istore_n 1, 1), (59, .iload_n 1, 1), (60, .bipush 6, 2), (62, .if_icmp .ge 67, 3), (65, .iconst 0, 1), (66, .istore_n 2, 1), (67, .iload_n 2, 1), (68, .bipush 36, 2), (70, .if_icmp .ge 53, 3), (73, .aload_n 0, 1), (74, .getfield 90, 3), (77, .iload_n 2, 1), (78, .aload_n 0, 1), (79, .getfield 90, 3), (82, .iload_n 2, 1), (83, .iaload, 1), (84, .aload_n 0, 1), (85, .getfield 90, 3), (88, .bipush 6, 2), (90, .iload_n 2, 1), (91, .bipush 6, 2), (93, .idiv, 1), (94, .imul, 1), (95, .iload_n 1, 1), (96, .iadd, 1), (97, .iaload, 1), (98, .aload_n 0, 1), (99, .getfield 90, 3), (102, .bipush 6, 2), (104, .iload_n 1, 1), (105, .imul, 1), (106, .iload_n 2, 1), (107, .bipush 6, 2), (109, .irem, 1), (110, .iadd, 1), (111, .iaload, 1), (112, .iadd, 1), (113, .invokestatic 365, 3), (116, .iastore, 1), (117, .iinc 2 1, 3), (120, .goto (-53), 3), (123, .iinc 1 1, 3), (126, .goto (-67), 3), (129, .return_, 1)]
theorem kX12_lays0 : ckD cX12_lays0 tX12_lays0 = true := by decide +kernel
def tX12_nextPlace : List (Nat × Instr × Nat) := [(0, .iconst 0, 1), (1, .istore_n 3, 1), (2, .iload_n 3, 1), (3, .aload_n 0, 1), (4, .getfield 13, 3), (7, .iconst 0, 1), (8, .iaload, 1), (9, .if_icmp .ge 48, 3), (12, .aload_n 0, 1), (13, .iconst 0, 1), (14, .iload_n 1, 1), (15, .iload_n 3, 1), (16, .invokevirtual 321, 3), (19, .ifCond .lt 32, 3), (22, .aload_n 0, 1), (23, .getfield 90, 3), (26, .bipush 6, 2), (28, .iload_n 3, 1), (29, .imul, 1), (30, .iload_n 2, 1), (31, .iadd, 1), (32, .iaload, 1), (33, .aload_n 0, 1), (34, .getfield 90, 3), (37, .bipush 6, 2), (39, .iload_n 1, 1), (40, .imul, 1), (41, .iload_n 2, 1), (42, .iadd, 1), (43, .iaload, 1), (44, .iconst 1, 1), (45, .isub, 1), (46, .if_icmp .ne 5, 3), (49, .iload_n 3, 1), (50, .ireturn, 1), (51, .iinc 3 1, 3), (54, .goto (-52), 3), (57, .iconst (-1), 1), (58, .ireturn, 1)]
theorem kX12_nextPlace : ckD cX12_nextPlace tX12_nextPlace = true := by decide +kernel
def tX12_copies : List (Nat × Instr × Nat) := [(0, .iconst 0, 1), (1, .istore 4, 2), (3, .iload 4, 2), (5, .bipush 41, 2), (7, .if_icmp .ge 21, 3), (10, .aload_n 2, 1), (11, .iload_n 3, 1), (12, .iload 4, 2), (14, .iadd, 1), (15, .aload_n 0, 1), (16, .iload_n 1, 1), (17, .iload 4, 2), (19, .iadd, 1), (20, .iaload, 1), (21, .iastore, 1), (22, .iinc 4 1, 3), (25, .goto (-22), 3), (28, .return_, 1)]
theorem kX12_copies : ckD cX12_copies tX12_copies = true := by decide +kernel
def tX12_readsLine : List (Nat × Instr × Nat) := [(0, .aload_n 0, 1), (1, .ldc2_w 271, 3), (4, .invokevirtual 224, 3), (7, .ifCond .eq 7, 3), (10, .iconst 0, 1), (11, .goto 46, 3), (14, .aload_n 0, 1), (15, .ldc2_w 273, 3), (18, .invokevirtual 224, 3), (21, .ifCond .eq 7, 3), (24, .iconst 1, 1), (25, .goto 32, 3), (28, .aload_n 0, 1), (29, .ldc2_w 275, 3), (32, .invokevirtual 224, 3), (35, .ifCond .eq 7, 3), (38, .iconst 2, 1), (39, .goto 18, 3), (42, .aload_n 0, 1), (43, .ldc2_w 277, 3), (46, .invokevirtual 224, 3), (49, .ifCond .eq 7, 3), (52, .iconst 3, 1), (53, .goto 4, 3), (56, .iconst (-1), 1), (57, .istore_n 1, 1), (58, .iload_n 1, 1), (59, .ifCond .ge 9, 3), (62, .aload_n 0, 1), (63, .iconst 1, 1), (64, .invokevirtual 232, 3), (67, .ireturn, 1), (68, .aload_n 0, 1), (69, .getfield 93, 3), (72, .iconst 5, 1), (73, .iaload, 1), (74, .bipush 40, 2), (76, .if_icmp .ne 9, 3), (79, .aload_n 0, 1), (80, .iconst 5, 1), (81, .invokevirtual 232, 3), (84, .ireturn, 1), (85, .aload_n 0, 1), (86, .invokevirtual 239, 3), (89, .sipush 200, 3), (92, .aload_n 0, 1), (93, .getfield 93, 3), (96, .iconst 5, 1), (97, .iaload, 1), (98, .iadd, 1), (99, .istore_n 2, 1), (100, .aload_n 0, 1), (101, .getfield 96, 3), (104, .iload_n 2, 1), (105, .iload_n 1, 1), (106, .iastore, 1), (107, .iload_n 1, 1), (108, .iconst 1, 1), (109, .if_icmp .ne 40, 3), (112, .aload_n 0, 1), (113, .iconst 0, 1), (114, .invokevirtual 318, 3), (117, .ifCond .ne 5, 3), (120, .iconst 0, 1), (121, .ireturn, 1), (122, .aload_n 0, 1), (123, .getfield 99, 3), (126, .iload_n 2, 1), (127, .aload_n 0, 1), (128, .getfield 309, 3), (131, .iastore, 1), (132, .aload_n 0, 1), (133, .getfield 102, 3), (136, .iload_n 2, 1), (137, .aload_n 0, 1), (138, .getfield 291, 3), (141, .iastore, 1), (142, .aload_n 0, 1), (143, .invokevirtual 239, 3), (146, .goto 50, 3), (149, .iload_n 1, 1), (150, .ifCond .eq 46, 3), (153, .aload_n 0, 1), (154, .invokevirtual 294, 3), (157, .ifCond .eq 9, 3), (160, .aload_n 0, 1), (161, .iconst 1, 1), (162, .invokevirtual 232, 3), (165, .ireturn, 1), (166, .aload_n 0, 1), (167, .getfield 99, 3), (170, .iload_n 2, 1), (171, .aload_n 0, 1), (172, .iconst 0, 1), (173, .invokevirtual 301, 3), (176, .iastore, 1), (177, .aload_n 0, 1), (178, .getfield 99, 3), (181, .iload_n 2, 1), (182, .iaload, 1), (183, .ifCond .ge 9, 3), (186, .aload_n 0, 1), (187, .iconst 2, 1), (188, .invokevirtual 232, 3), (191, .ireturn, 1), (192, .aload_n 0, 1), (193, .invokevirtual 239, 3), (196, .aload_n 0, 1), (197, .getfield 93, 3), (200, .iconst 5, 1), (201, .dup2, 1), (202, .iaload, 1), (203, .iconst 1, 1), (204, .iadd, 1), (205, .iastore, 1), (206, .aload_n 0, 1), (207, .invokevirtual 315, 3), (210, .ireturn, 1)]
theorem kX12_readsLine : ckD cX12_readsLine tX12_readsLine = true := by decide +kernel
def tX12_laysLines : List (Nat × Instr × Nat) := [(0, .aload_n 0, 1), (1, .getfield 93, 3), (4, .iload_n 2, 1), (5, .aload_n 0, 1), (6, .getfield 93, 3), (9, .iload_n 1, 1), (10, .iaload, 1), (11, .iastore, 1), (12, .iconst 0, 1), (13, .istore_n 3, 1), (14, .iload_n 3, 1), (15, .bipush 40, 2), (17, .if_icmp .ge 75, 3), (20, .aload_n 0, 1), (21, .getfield 96, 3), (24, .bipush 40, 2), (26, .iload_n 2, 1), (27, .imul, 1), (28, .iload_n 3, 1), (29, .iadd, 1), (30, .aload_n 0, 1), (31, .getfield 96, 3), (34, .bipush 40, 2), (36, .iload_n 1, 1), (37, .imul, 1), (38, .iload_n 3, 1), (39, .iadd, 1), (40, .iaload, 1), (41, .iastore, 1), (42, .aload_n 0, 1), (43, .getfield 99, 3), (46, .bipush 40, 2), (48, .iload_n 2, 1), (49, .imul, 1), (50, .iload_n 3, 1), (51, .iadd, 1), (52, .aload_n 0, 1), (53, .getfield 99, 3), (56, .bipush 40, 2), (58, .iload_n 1, 1), (59, .imul, 1), (60, .iload_n 3, 1), (61, .iadd, 1), (62, .iaload, 1), (63, .iastore, 1), (64, .aload_n 0, 1), (65, .getfield 102, 3), (68, .bipush 40, 2), (70, .iload_n 2, 1), (71, .imul, 1), (72, .iload_n 3, 1), (73, .iadd, 1), (74, .aload_n 0, 1), (75, .getfield 102, 3), (78, .bipush 40, 2), (80, .iload_n 1, 1), (81, .imul, 1), (82, .iload_n 3, 1), (83, .iadd, 1), (84, .iaload, 1), (85, .iastore, 1), (86, .iinc 3 1, 3), (89, .goto (-75), 3), (92, .return_, 1)]
theorem kX12_laysLines : ckD cX12_laysLines tX12_laysLines = true := by decide +kernel
def tX12_laysWatched : List (Nat × Instr × Nat) := [(0, .aload_n 0, 1), (1, .getfield 105, 3), (4, .iload_n 2, 1), (5, .aload_n 0, 1), (6, .getfield 105, 3), (9, .iload_n 1, 1), (10, .iaload, 1), (11, .iastore, 1), (12, .iconst 0, 1), (13, .istore_n 3, 1), (14, .iload_n 3, 1), (15, .bipush 6, 2), (17, .if_icmp .ge 75, 3), (20, .aload_n 0, 1), (21, .getfield 108, 3), (24, .bipush 6, 2), (26, .iload_n 2, 1), (27, .imul, 1), (28, .iload_n 3, 1), (29, .iadd, 1), (30, .aload_n 0, 1), (31, .getfield 108, 3), (34, .bipush 6, 2), (36, .iload_n 1, 1), (37, .imul, 1), (38, .iload_n 3, 1), (39, .iadd, 1), (40, .iaload, 1), (41, .iastore, 1), (42, .aload_n 0, 1), (43, .getfield 111, 3), (46, .bipush 6, 2), (48, .iload_n 2, 1), (49, .imul, 1), (50, .iload_n 3, 1), (51, .iadd, 1), (52, .aload_n 0, 1), (53, .getfield 111, 3), (56, .bipush 6, 2), (58, .iload_n 1, 1), (59, .imul, 1), (60, .iload_n 3, 1), (61, .iadd, 1), (62, .iaload, 1), (63, .iastore, 1), (64, .aload_n 0, 1), (65, .getfield 114, 3), (68, .bipush 6, 2), (70, .iload_n 2, 1), (71, .imul, 1), (72, .iload_n 3, 1), (73, .iadd, 1), (74, .aload_n 0, 1), (75, .getfield 114, 3), (78, .bipush 6, 2), (80, .iload_n 1, 1), (81, .imul, 1), (82, .iload_n 3, 1), (83, .iadd, 1), (84, .baload, 1), (85, .bastore, 1), (86, .iinc 3 1, 3), (89, .goto (-75), 3), (92, .return_, 1)]
theorem kX12_laysWatched : ckD cX12_laysWatched tX12_laysWatched = true := by decide +kernel
def tX12_fresh : List (Nat × Instr × Nat) := [(0, .iconst 0, 1), (1, .istore_n 1, 1), (2, .iload_n 1, 1), (3, .bipush 41, 2), (5, .if_icmp .ge 16, 3), (8, .aload_n 0, 1), (9, .getfield 117, 3), (12, .iload_n 1, 1), (13, .iconst 0, 1), (14, .iastore, 1), (15, .iinc 1 1, 3), (18, .goto (-16), 3), (21, .iconst 0, 1), (22, .istore_n 1, 1), (23, .iload_n 1, 1), (24, .aload_n 0, 1), (25, .getfield 13, 3), (28, .iconst 2, 1), (29, .iaload, 1), (30, .if_icmp .ge 54, 3), (33, .aload_n 0, 1), (34, .getfield 117, 3), (37, .bipush 11, 2), (39, .iload_n 1, 1), (40, .iadd, 1), (41, .aload_n 0, 1), (42, .getfield 35, 3), (45, .iload_n 1, 1), (46, .iaload, 1), (47, .iastore, 1), (48, .aload_n 0, 1), (49, .getfield 117, 3), (52, .bipush 17, 2), (54, .iload_n 1, 1), (55, .iadd, 1), (56, .aload_n 0, 1), (57, .getfield 38, 3), (60, .iload_n 1, 1), (61, .iaload, 1), (62, .iastore, 1), (63, .aload_n 0, 1), (64, .getfield 117, 3), (67, .bipush 23, 2), (69, .iload_n 1, 1), (70, .iadd, 1), (71, .aload_n 0, 1), (72, .getfield 41, 3), (75, .iload_n 1, 1), (76, .iaload, 1), (77, .iastore, 1), (78, .iinc 1 1, 3), (81, .goto (-58), 3), (84, .return_, 1)]
theorem kX12_fresh : ckD cX12_fresh tX12_fresh = true := by decide +kernel
def tX12_town : List (Nat × Instr × Nat) := [(0, .aload_n 0, 1), (1, .iconst 0, 1), (2, .putfield 169, 3), (5, .aload_n 0, 1), (6, .invokevirtual 371, 3), (9, .ifCond .ne 8, 3), (12, .aload_n 0, 1), (13, .getfield 204, 3), (16, .ireturn, 1), (17, .aload_n 0, 1), (18, .invokevirtual 374, 3), (21, .aload_n 0, 1), (22, .invokevirtual 163, 3), (25, .aload_n 0, 1), (26, .invokevirtual 166, 3), (29, .aload_n 0, 1), (30, .getfield 93, 3), (33, .iconst 0, 1), (34, .iconst 0, 1), (35, .iastore, 1), (36, .aload_n 0, 1), (37, .getfield 105, 3), (40, .iconst 0, 1), (41, .iconst 0, 1), (42, .iastore, 1), (43, .aload_n 0, 1), (44, .iconst 0, 1), (45, .putfield 377, 3), (48, .iconst 0, 1), (49, .istore_n 1, 1), (50, .iload_n 1, 1), (51, .iconst 4, 1), (52, .if_icmp .ge 16, 3), (55, .aload_n 0, 1), (56, .getfield 132, 3), (59, .iload_n 1, 1), (60, .iconst 0, 1), (61, .bastore, 1), (62, .iinc 1 1, 3), (65, .goto (-15), 3), (68, .iconst 0, 1), (69, .ireturn, 1)]
theorem kX12_town : ckD cX12_town tX12_town = true := by decide +kernel
def tX12_evening : List (Nat × Instr × Nat) := [(0, .aload_n 0, 1), (1, .iconst 0, 1), (2, .putfield 169, 3), (5, .aload_n 0, 1), (6, .getfield 93, 3), (9, .iconst 5, 1), (10, .iconst 0, 1), (11, .iastore, 1), (12, .aload_n 0, 1), (13, .invokevirtual 339, 3), (16, .aload_n 0, 1), (17, .getfield 193, 3), (20, .ifCond .eq 15, 3), (23, .aload_n 0, 1), (24, .invokevirtual 380, 3), (27, .ifCond .ne (-11), 3), (30, .aload_n 0, 1), (31, .getfield 204, 3), (34, .ireturn, 1), (35, .aload_n 0, 1), (36, .iconst 5, 1), (37, .iconst 0, 1), (38, .invokevirtual 383, 3), (41, .iconst 0, 1), (42, .ireturn, 1)]
theorem kX12_evening : ckD cX12_evening tX12_evening = true := by decide +kernel
def tX12_isPlace : List (Nat × Instr × Nat) := [(0, .iload_n 1, 1), (1, .ifCond .lt 17, 3), (4, .iload_n 1, 1), (5, .aload_n 0, 1), (6, .getfield 13, 3), (9, .iconst 0, 1), (10, .iaload, 1), (11, .if_icmp .ge 7, 3), (14, .iconst 1, 1), (15, .goto 4, 3), (18, .iconst 0, 1), (19, .ireturn, 1)]
theorem kX12_isPlace : ckD cX12_isPlace tX12_isPlace = true := by decide +kernel
def tX12_isLane : List (Nat × Instr × Nat) := [(0, .iload_n 1, 1), (1, .ifCond .lt 17, 3), (4, .iload_n 1, 1), (5, .aload_n 0, 1), (6, .getfield 13, 3), (9, .iconst 1, 1), (10, .iaload, 1), (11, .if_icmp .ge 7, 3), (14, .iconst 1, 1), (15, .goto 4, 3), (18, .iconst 0, 1), (19, .ireturn, 1)]
theorem kX12_isLane : ckD cX12_isLane tX12_isLane = true := by decide +kernel
def tX12_isWalker : List (Nat × Instr × Nat) := [(0, .iload_n 1, 1), (1, .ifCond .lt 17, 3), (4, .iload_n 1, 1), (5, .aload_n 0, 1), (6, .getfield 13, 3), (9, .iconst 2, 1), (10, .iaload, 1), (11, .if_icmp .ge 7, 3), (14, .iconst 1, 1), (15, .goto 4, 3), (18, .iconst 0, 1), (19, .ireturn, 1)]
theorem kX12_isWalker : ckD cX12_isWalker tX12_isWalker = true := by decide +kernel
def tX12_isHome : List (Nat × Instr × Nat) := [(0, .aload_n 0, 1), (1, .getfield 135, 3), (4, .iload_n 1, 1), (5, .ishr, 1), (6, .iconst 1, 1), (7, .iand, 1), (8, .ifCond .eq 68, 3), (11, .aload_n 0, 1), (12, .getfield 117, 3), (15, .bipush 29, 2), (17, .iload_n 1, 1), (18, .iadd, 1), (19, .iaload, 1), (20, .ifCond .ne 60, 3), (23, .aload_n 0, 1), (24, .getfield 117, 3), (27, .bipush 11, 2), (29, .iload_n 1, 1), (30, .iadd, 1), (31, .iaload, 1), (32, .aload_n 0, 1), (33, .getfield 117, 3), (36, .bipush 17, 2), (38, .iload_n 1, 1), (39, .iadd, 1), (40, .iaload, 1), (41, .if_icmp .eq 35, 3), (44, .aload_n 0, 1), (45, .getfield 90, 3), (48, .bipush 6, 2), (50, .aload_n 0, 1), (51, .getfield 117, 3), (54, .bipush 11, 2), (56, .iload_n 1, 1), (57, .iadd, 1), (58, .iaload, 1), (59, .imul, 1), (60, .aload_n 0, 1), (61, .getfield 117, 3), (64, .bipush 17, 2), (66, .iload_n 1, 1), (67, .iadd, 1), (68, .iaload, 1), (69, .iadd, 1), (70, .iaload, 1), (71, .bipush 99, 2), (73, .if_icmp .lt 7, 3), (76, .iconst 1, 1), (77, .goto 4, 3), (80, .iconst 0, 1), (81, .ireturn, 1)]
theorem kX12_isHome : ckD cX12_isHome tX12_isHome = true := by decide +kernel
def tX12_isOut : List (Nat × Instr × Nat) := [(0, .aload_n 0, 1), (1, .iload_n 1, 1), (2, .invokevirtual 387, 3), (5, .ifCond .ne 25, 3), (8, .aload_n 0, 1), (9, .getfield 117, 3), (12, .iconst 0, 1), (13, .iaload, 1), (14, .aload_n 0, 1), (15, .getfield 117, 3), (18, .bipush 23, 2), (20, .iload_n 1, 1), (21, .iadd, 1), (22, .iaload, 1), (23, .if_icmp .lt 7, 3), (26, .iconst 1, 1), (27, .goto 4, 3), (30, .iconst 0, 1), (31, .ireturn, 1)]
theorem kX12_isOut : ckD cX12_isOut tX12_isOut = true := by decide +kernel
def tX12_homes : List (Nat × Instr × Nat) := [(0, .iconst 0, 1), (1, .istore_n 1, 1), (2, .iconst 0, 1), (3, .istore_n 2, 1), (4, .iload_n 2, 1), (5, .aload_n 0, 1), (6, .getfield 13, 3), (9, .iconst 2, 1), (10, .iaload, 1), (11, .if_icmp .ge 27, 3), (14, .iload_n 1, 1), (15, .aload_n 0, 1), (16, .iload_n 2, 1), (17, .invokevirtual 387, 3), (20, .ifCond .eq 9, 3), (23, .iconst 1, 1), (24, .iload_n 2, 1), (25, .ishl, 1), (26, .goto 4, 3), (29, .iconst 0, 1), (30, .ior, 1), (31, .istore_n 1, 1), (32, .iinc 2 1, 3), (35, .goto (-31), 3), (38, .iload_n 1, 1), (39, .ireturn, 1)]
theorem kX12_homes : ckD cX12_homes tX12_homes = true := by decide +kernel
def tX12_areAllHome : List (Nat × Instr × Nat) := [(0, .aload_n 0, 1), (1, .invokevirtual 390, 3), (4, .iconst 1, 1), (5, .aload_n 0, 1), (6, .getfield 13, 3), (9, .iconst 2, 1), (10, .iaload, 1), (11, .ishl, 1), (12, .iconst 1, 1), (13, .isub, 1), (14, .if_icmp .ne 7, 3), (17, .iconst 1, 1), (18, .goto 4, 3), (21, .iconst 0, 1), (22, .ireturn, 1)]
theorem kX12_areAllHome : ckD cX12_areAllHome tX12_areAllHome = true := by decide +kernel
def tX12_burning : List (Nat × Instr × Nat) := [(0, .iconst 0, 1), (1, .istore_n 1, 1), (2, .iconst 0, 1), (3, .istore_n 2, 1), (4, .iload_n 2, 1), (5, .aload_n 0, 1), (6, .getfield 13, 3), (9, .iconst 1, 1), (10, .iaload, 1), (11, .if_icmp .ge 30, 3), (14, .iload_n 1, 1), (15, .aload_n 0, 1), (16, .getfield 117, 3), (19, .iconst 3, 1), (20, .iload_n 2, 1), (21, .iadd, 1), (22, .iaload, 1), (23, .ifCond .le 9, 3), (26, .iconst 1, 1), (27, .iload_n 2, 1), (28, .ishl, 1), (29, .goto 4, 3), (32, .iconst 0, 1), (33, .ior, 1), (34, .istore_n 1, 1), (35, .iinc 2 1, 3), (38, .goto (-34), 3), (41, .iload_n 1, 1), (42, .ireturn, 1)]
theorem kX12_burning : ckD cX12_burning tX12_burning = true := by decide +kernel
def tX12_lanesAhead : List (Nat × Instr × Nat) := [(0, .aload_n 0, 1), (1, .getfield 117, 3), (4, .bipush 29, 2), (6, .iload_n 1, 1), (7, .iadd, 1), (8, .iaload, 1), (9, .ifCond .le 15, 3), (12, .aload_n 0, 1), (13, .getfield 117, 3), (16, .bipush 35, 2), (18, .iload_n 1, 1), (19, .iadd, 1), (20, .iaload, 1), (21, .goto 39, 3), (24, .aload_n 0, 1), (25, .iconst 0, 1), (26, .aload_n 0, 1), (27, .getfield 117, 3), (30, .bipush 11, 2), (32, .iload_n 1, 1), (33, .iadd, 1), (34, .iaload, 1), (35, .aload_n 0, 1), (36, .aload_n 0, 1), (37, .getfield 117, 3), (40, .bipush 11, 2), (42, .iload_n 1, 1), (43, .iadd, 1), (44, .iaload, 1), (45, .aload_n 0, 1), (46, .getfield 117, 3), (49, .bipush 17, 2), (51, .iload_n 1, 1), (52, .iadd, 1), (53, .iaload, 1), (54, .invokevirtual 393, 3), (57, .invokevirtual 321, 3), (60, .ireturn, 1)]
theorem kX12_lanesAhead : ckD cX12_lanesAhead tX12_lanesAhead = true := by decide +kernel
def tX12_burnsBy : List (Nat × Instr × Nat) := [(0, .aload_n 0, 1), (1, .getfield 29, 3), (4, .iload_n 1, 1), (5, .iaload, 1), (6, .aload_n 0, 1), (7, .getfield 396, 3), (10, .iadd, 1), (11, .istore 4, 2), (13, .aload_n 0, 1), (14, .getfield 47, 3), (17, .iconst 0, 1), (18, .iaload, 1), (19, .aload_n 0, 1), (20, .getfield 44, 3), (23, .iconst 0, 1), (24, .iaload, 1), (25, .if_icmp .le 53, 3), (28, .aload_n 0, 1), (29, .getfield 87, 3), (32, .iconst 1, 1), (33, .aload_n 0, 1), (34, .getfield 29, 3), (37, .iload_n 1, 1), (38, .iaload, 1), (39, .aload_n 0, 1), (40, .getfield 396, 3), (43, .iadd, 1), (44, .iastore, 1), (45, .aload_n 0, 1), (46, .getfield 87, 3), (49, .iconst 2, 1), (50, .iload_n 2, 1), (51, .iastore, 1), (52, .aload_n 0, 1), (53, .getfield 87, 3), (56, .iconst 3, 1), (57, .iload_n 3, 1), (58, .iastore, 1), (59, .aload_n 0, 1), (60, .getfield 87, 3), (63, .iconst 4, 1), (64, .aload_n 0, 1), (65, .getfield 117, 3), (68, .iconst 0, 1), (69, .iaload, 1), (70, .iastore, 1), (71, .aload_n 0, 1), (72, .iconst 0, 1), (73, .invokevirtual 399, 3), (76, .istore 4, 2), (78, .iload_n 2, 1), (79, .iload 4, 2), (81, .iconst 0, 1), (82, .bipush 30, 2), (84, .invokestatic 402, 3), (87, .invokestatic 405, 3), (90, .ireturn, 1)]
theorem kX12_burnsBy : ckD cX12_burnsBy tX12_burnsBy = true := by decide +kernel
def tX12_goesAlong : List (Nat × Instr × Nat) := [(0, .aload_n 0, 1), (1, .getfield 117, 3), (4, .bipush 11, 2), (6, .iload_n 1, 1), (7, .iadd, 1), (8, .aload_n 0, 1), (9, .getfield 23, 3), (12, .iload_n 2, 1), (13, .iaload, 1), (14, .aload_n 0, 1), (15, .getfield 117, 3), (18, .bipush 11, 2), (20, .iload_n 1, 1), (21, .iadd, 1), (22, .iaload, 1), (23, .if_icmp .ne 12, 3), (26, .aload_n 0, 1), (27, .getfield 26, 3), (30, .iload_n 2, 1), (31, .iaload, 1), (32, .goto 9, 3), (35, .aload_n 0, 1), (36, .getfield 23, 3), (39, .iload_n 2, 1), (40, .iaload, 1), (41, .iastore, 1), (42, .aload_n 0, 1), (43, .getfield 32, 3), (46, .iload_n 1, 1), (47, .iaload, 1), (48, .iconst 3, 1), (49, .if_icmp .eq 4, 3), (52, .return_, 1), (53, .aload_n 0, 1), (54, .getfield 117, 3), (57, .bipush 35, 2), (59, .iload_n 1, 1), (60, .iadd, 1), (61, .iload_n 2, 1), (62, .iastore, 1), (63, .aload_n 0, 1), (64, .getfield 117, 3), (67, .bipush 29, 2), (69, .iload_n 1, 1), (70, .iadd, 1), (71, .aload_n 0, 1), (72, .getfield 117, 3), (75, .bipush 29, 2), (77, .iload_n 1, 1), (78, .iadd, 1), (79, .iaload, 1), (80, .iconst 1, 1), (81, .iadd, 1), (82, .iconst 3, 1), (83, .irem, 1), (84, .iastore, 1), (85, .return_, 1)]
theorem kX12_goesAlong : ckD cX12_goesAlong tX12_goesAlong = true := by decide +kernel
def tX12_passes : List (Nat × Instr × Nat) := [(0, .iconst 0, 1), (1, .istore_n 1, 1), (2, .iconst 0, 1), (3, .istore_n 2, 1), (4, .iload_n 2, 1), (5, .bipush 8, 2), (7, .if_icmp .ge 16, 3), (10, .aload_n 0, 1), (11, .getfield 139, 3), (14, .iload_n 2, 1), (15, .iconst 0, 1), (16, .iastore, 1), (17, .iinc 2 1, 3), (20, .goto (-16), 3), (23, .iconst 0, 1), (24, .istore_n 2, 1), (25, .iload_n 2, 1), (26, .aload_n 0, 1), (27, .getfield 13, 3), (30, .iconst 2, 1), (31, .iaload, 1), (32, .if_icmp .ge 100, 3), (35, .aload_n 0, 1), (36, .getfield 142, 3), (39, .iload_n 2, 1), (40, .iconst 0, 1), (41, .iastore, 1), (42, .aload_n 0, 1), (43, .iload_n 2, 1), (44, .invokevirtual 408, 3), (47, .ifCond .ne 6, 3), (50, .goto 76, 3), (53, .aload_n 0, 1), (54, .iload_n 2, 1), (55, .invokevirtual 411, 3), (58, .istore_n 3, 1), (59, .aload_n 0, 1), (60, .getfield 139, 3), (63, .iload_n 3, 1), (64, .dup2, 1), (65, .iaload, 1), (66, .iconst 1, 1), (67, .iadd, 1), (68, .iastore, 1), (69, .aload_n 0, 1), (70, .getfield 142, 3), (73, .iload_n 2, 1), (74, .aload_n 0, 1), (75, .getfield 117, 3), (78, .iconst 3, 1), (79, .iload_n 3, 1), (80, .iadd, 1), (81, .iaload, 1), (82, .ifCond .ne 27, 3), (85, .aload_n 0, 1), (86, .getfield 32, 3), (89, .iload_n 2, 1), (90, .iaload, 1), (91, .iconst 1, 1), (92, .if_icmp .eq 17, 3), (95, .aload_n 0, 1), (96, .getfield 32, 3), (99, .iload_n 2, 1), (100, .iaload, 1), (101, .iconst 2, 1), (102, .if_icmp .eq 7, 3), (105, .iconst 1, 1), (106, .goto 4, 3), (109, .iconst 0, 1), (110, .iastore, 1), (111, .iload_n 1, 1), (112, .aload_n 0, 1), (113, .getfield 142, 3), (116, .iload_n 2, 1), (117, .iaload, 1), (118, .iadd, 1), (119, .istore_n 1, 1), (120, .aload_n 0, 1), (121, .iload_n 2, 1), (122, .iload_n 3, 1), (123, .invokevirtual 414, 3), (126, .iinc 2 1, 3), (129, .goto (-104), 3), (132, .iconst 0, 1), (133, .istore_n 2, 1), (134, .iload_n 2, 1), (135, .aload_n 0, 1), (136, .getfield 13, 3), (139, .iconst 1, 1), (140, .iaload, 1), (141, .if_icmp .ge 67, 3), (144, .aload_n 0, 1), (145, .getfield 117, 3), (148, .iconst 3, 1), (149, .iload_n 2, 1), (150, .iadd, 1), (151, .iconst 0, 1), (152, .aload_n 0, 1), (153, .getfield 117, 3), (156, .iconst 3, 1), (157, .iload_n 2, 1), (158, .iadd, 1), (159, .iaload, 1), (160, .iconst 1, 1), (161, .isub, 1), (162, .invokestatic 405, 3), (165, .iastore, 1), (166, .aload_n 0, 1), (167, .getfield 139, 3), (170, .iload_n 2, 1), (171, .iaload, 1), (172, .ifCond .le 30, 3), (175, .aload_n 0, 1), (176, .getfield 117, 3), (179, .iconst 3, 1), (180, .iload_n 2, 1), (181, .iadd, 1), (182, .aload_n 0, 1), (183, .iload_n 2, 1), (184, .aload_n 0, 1), (185, .getfield 117, 3), (188, .iconst 3, 1), (189, .iload_n 2, 1), (190, .iadd, 1), (191, .iaload, 1), (192, .aload_n 0, 1), (193, .getfield 139, 3), (196, .iload_n 2, 1), (197, .iaload, 1), (198, .invokevirtual 417, 3), (201, .iastore, 1), (202, .iinc 2 1, 3), (205, .goto (-71), 3), (208, .aload_n 0, 1), (209, .getfield 117, 3), (212, .iconst 0, 1), (213, .dup2, 1), (214, .iaload, 1), (215, .iconst 1, 1), (216, .iadd, 1), (217, .iastore, 1), (218, .aload_n 0, 1), (219, .getfield 117, 3), (222, .iconst 2, 1), (223, .dup2, 1), (224, .iaload, 1), (225, .iload_n 1, 1), (226, .iadd, 1), (227, .iastore, 1), (228, .iload_n 1, 1), (229, .ireturn, 1)]
theorem kX12_passes : ckD cX12_passes tX12_passes = true := by decide +kernel
def tX12_sends : List (Nat × Instr × Nat) := [(0, .aload_n 0, 1), (1, .getfield 117, 3), (4, .iconst 3, 1), (5, .iload_n 1, 1), (6, .iadd, 1), (7, .aload_n 0, 1), (8, .iload_n 1, 1), (9, .aload_n 0, 1), (10, .getfield 117, 3), (13, .iconst 3, 1), (14, .iload_n 1, 1), (15, .iadd, 1), (16, .iaload, 1), (17, .iconst 1, 1), (18, .invokevirtual 417, 3), (21, .iastore, 1), (22, .aload_n 0, 1), (23, .getfield 117, 3), (26, .iconst 1, 1), (27, .dup2, 1), (28, .iaload, 1), (29, .aload_n 0, 1), (30, .getfield 13, 3), (33, .iconst 3, 1), (34, .iaload, 1), (35, .iadd, 1), (36, .iastore, 1), (37, .return_, 1)]
theorem kX12_sends : ckD cX12_sends tX12_sends = true := by decide +kernel
def tX12_waitsMore : List (Nat × Instr × Nat) := [(0, .aload_n 0, 1), (1, .getfield 117, 3), (4, .bipush 23, 2), (6, .iload_n 1, 1), (7, .iadd, 1), (8, .aload_n 0, 1), (9, .getfield 117, 3), (12, .bipush 23, 2), (14, .iload_n 1, 1), (15, .iadd, 1), (16, .iaload, 1), (17, .aload_n 0, 1), (18, .getfield 117, 3), (21, .iconst 0, 1), (22, .iaload, 1), (23, .invokestatic 405, 3), (26, .iconst 1, 1), (27, .iadd, 1), (28, .iastore, 1), (29, .return_, 1)]
theorem kX12_waitsMore : ckD cX12_waitsMore tX12_waitsMore = true := by decide +kernel
def tX12_canTurn : List (Nat × Instr × Nat) := [(0, .aload_n 0, 1), (1, .iload_n 1, 1), (2, .invokevirtual 408, 3), (5, .ifCond .eq 17, 3), (8, .aload_n 0, 1), (9, .getfield 32, 3), (12, .iload_n 1, 1), (13, .iaload, 1), (14, .iconst 3, 1), (15, .if_icmp .eq 7, 3), (18, .iconst 1, 1), (19, .goto 4, 3), (22, .iconst 0, 1), (23, .ireturn, 1)]
theorem kX12_canTurn : ckD cX12_canTurn tX12_canTurn = true := by decide +kernel
def tX12_lane : List (Nat × Instr × Nat) := [(0, .aload_n 0, 1), (1, .iconst 0, 1), (2, .putfield 169, 3), (5, .aload_n 0, 1), (6, .iload_n 1, 1), (7, .invokevirtual 420, 3), (10, .ifCond .eq 12, 3), (13, .iload_n 2, 1), (14, .iconst 0, 1), (15, .iconst 3, 1), (16, .invokestatic 287, 3), (19, .ifCond .ne 5, 3), (22, .iconst (-1), 1), (23, .ireturn, 1), (24, .iload_n 2, 1), (25, .ifCond .ne 12, 3), (28, .aload_n 0, 1), (29, .getfield 23, 3), (32, .iload_n 1, 1), (33, .iaload, 1), (34, .goto 39, 3), (37, .iload_n 2, 1), (38, .iconst 1, 1), (39, .if_icmp .ne 12, 3), (42, .aload_n 0, 1), (43, .getfield 26, 3), (46, .iload_n 1, 1), (47, .iaload, 1), (48, .goto 25, 3), (51, .iload_n 2, 1), (52, .iconst 2, 1), (53, .if_icmp .ne 12, 3), (56, .aload_n 0, 1), (57, .getfield 29, 3), (60, .iload_n 1, 1), (61, .iaload, 1), (62, .goto 11, 3), (65, .aload_n 0, 1), (66, .getfield 117, 3), (69, .iconst 3, 1), (70, .iload_n 1, 1), (71, .iadd, 1), (72, .iaload, 1), (73, .ireturn, 1)]
theorem kX12_lane : ckD cX12_lane tX12_lane = true := by decide +kernel
def tX12_walker : List (Nat × Instr × Nat) := [(0, .aload_n 0, 1), (1, .iconst 0, 1), (2, .putfield 169, 3), (5, .aload_n 0, 1), (6, .iload_n 1, 1), (7, .invokevirtual 423, 3), (10, .ifCond .eq 12, 3), (13, .iload_n 2, 1), (14, .iconst 0, 1), (15, .iconst 5, 1), (16, .invokestatic 287, 3), (19, .ifCond .ne 5, 3), (22, .iconst (-1), 1), (23, .ireturn, 1), (24, .iload_n 2, 1), (25, .iconst 3, 1), (26, .if_icmp .ge 43, 3), (29, .iload_n 2, 1), (30, .ifCond .ne 12, 3), (33, .aload_n 0, 1), (34, .getfield 32, 3), (37, .iload_n 1, 1), (38, .iaload, 1), (39, .goto 29, 3), (42, .iload_n 2, 1), (43, .iconst 1, 1), (44, .if_icmp .ne 15, 3), (47, .aload_n 0, 1), (48, .getfield 117, 3), (51, .bipush 11, 2), (53, .iload_n 1, 1), (54, .iadd, 1), (55, .iaload, 1), (56, .goto 12, 3), (59, .aload_n 0, 1), (60, .getfield 117, 3), (63, .bipush 17, 2), (65, .iload_n 1, 1), (66, .iadd, 1), (67, .iaload, 1), (68, .ireturn, 1), (69, .iload_n 2, 1), (70, .iconst 3, 1), (71, .if_icmp .ne 15, 3), (74, .aload_n 0, 1), (75, .getfield 117, 3), (78, .bipush 23, 2), (80, .iload_n 1, 1), (81, .iadd, 1), (82, .iaload, 1), (83, .goto 37, 3), (86, .iload_n 2, 1), (87, .iconst 4, 1), (88, .if_icmp .ne 19, 3), (91, .aload_n 0, 1), (92, .iload_n 1, 1), (93, .invokevirtual 387, 3), (96, .ifCond .eq 7, 3), (99, .iconst 1, 1), (100, .goto 20, 3), (103, .iconst 0, 1), (104, .goto 16, 3), (107, .aload_n 0, 1), (108, .iload_n 1, 1), (109, .invokevirtual 408, 3), (112, .ifCond .eq 7, 3), (115, .iconst 1, 1), (116, .goto 4, 3), (119, .iconst 0, 1), (120, .ireturn, 1)]
theorem kX12_walker : ckD cX12_walker tX12_walker = true := by decide +kernel
def tX12_way : List (Nat × Instr × Nat) := [(0, .aload_n 0, 1), (1, .iconst 0, 1), (2, .putfield 169, 3), (5, .aload_n 0, 1), (6, .iload_n 1, 1), (7, .invokevirtual 426, 3), (10, .ifCond .eq 41, 3), (13, .aload_n 0, 1), (14, .iload_n 2, 1), (15, .invokevirtual 426, 3), (18, .ifCond .eq 33, 3), (21, .aload_n 0, 1), (22, .getfield 90, 3), (25, .bipush 6, 2), (27, .iload_n 1, 1), (28, .imul, 1), (29, .iload_n 2, 1), (30, .iadd, 1), (31, .iaload, 1), (32, .bipush 99, 2), (34, .if_icmp .ge 17, 3), (37, .aload_n 0, 1), (38, .getfield 90, 3), (41, .bipush 6, 2), (43, .iload_n 1, 1), (44, .imul, 1), (45, .iload_n 2, 1), (46, .iadd, 1), (47, .iaload, 1), (48, .goto 4, 3), (51, .iconst (-1), 1), (52, .ireturn, 1)]
theorem kX12_way : ckD cX12_way tX12_way = true := by decide +kernel
def tX12_next : List (Nat × Instr × Nat) := [(0, .aload_n 0, 1), (1, .iconst 0, 1), (2, .putfield 169, 3), (5, .aload_n 0, 1), (6, .iload_n 1, 1), (7, .invokevirtual 423, 3), (10, .ifCond .eq 19, 3), (13, .aload_n 0, 1), (14, .iload_n 1, 1), (15, .invokevirtual 408, 3), (18, .ifCond .eq 11, 3), (21, .aload_n 0, 1), (22, .iload_n 1, 1), (23, .invokevirtual 411, 3), (26, .goto 4, 3), (29, .iconst (-1), 1), (30, .ireturn, 1)]
theorem kX12_next : ckD cX12_next tX12_next = true := by decide +kernel
def tX12_keeps : List (Nat × Instr × Nat) := [(0, .aload_n 0, 1), (1, .getfield 377, 3), (4, .bipush 16, 2), (6, .if_icmp .ne 43, 3), (9, .iconst 0, 1), (10, .istore_n 1, 1), (11, .iload_n 1, 1), (12, .sipush 615, 3), (15, .if_icmp .ge 24, 3), (18, .aload_n 0, 1), (19, .getfield 129, 3), (22, .iload_n 1, 1), (23, .aload_n 0, 1), (24, .getfield 129, 3), (27, .iload_n 1, 1), (28, .bipush 41, 2), (30, .iadd, 1), (31, .iaload, 1), (32, .iastore, 1), (33, .iinc 1 1, 3), (36, .goto (-25), 3), (39, .aload_n 0, 1), (40, .dup, 1), (41, .getfield 377, 3), (44, .iconst 1, 1), (45, .isub, 1), (46, .putfield 377, 3), (49, .aload_n 0, 1), (50, .getfield 117, 3), (53, .iconst 0, 1), (54, .aload_n 0, 1), (55, .getfield 129, 3), (58, .bipush 41, 2), (60, .aload_n 0, 1), (61, .getfield 377, 3), (64, .imul, 1), (65, .invokestatic 429, 3), (68, .aload_n 0, 1), (69, .dup, 1), (70, .getfield 377, 3), (73, .iconst 1, 1), (74, .iadd, 1), (75, .putfield 377, 3), (78, .return_, 1)]
theorem kX12_keeps : ckD cX12_keeps tX12_keeps = true := by decide +kernel
def tX12_minute : List (Nat × Instr × Nat) := [(0, .aload_n 0, 1), (1, .iconst 0, 1), (2, .putfield 169, 3), (5, .aload_n 0, 1), (6, .invokevirtual 433, 3), (9, .aload_n 0, 1), (10, .invokevirtual 436, 3), (13, .ireturn, 1)]
theorem kX12_minute : ckD cX12_minute tX12_minute = true := by decide +kernel
def tX12_send : List (Nat × Instr × Nat) := [(0, .aload_n 0, 1), (1, .iconst 0, 1), (2, .putfield 169, 3), (5, .aload_n 0, 1), (6, .iload_n 1, 1), (7, .invokevirtual 426, 3), (10, .ifCond .eq 21, 3), (13, .aload_n 0, 1), (14, .iload_n 2, 1), (15, .invokevirtual 426, 3), (18, .ifCond .eq 13, 3), (21, .aload_n 0, 1), (22, .iconst 0, 1), (23, .iload_n 1, 1), (24, .iload_n 2, 1), (25, .invokevirtual 321, 3), (28, .ifCond .ge 5, 3), (31, .iconst (-1), 1), (32, .ireturn, 1), (33, .aload_n 0, 1), (34, .invokevirtual 433, 3), (37, .aload_n 0, 1), (38, .aload_n 0, 1), (39, .iconst 0, 1), (40, .iload_n 1, 1), (41, .iload_n 2, 1), (42, .invokevirtual 321, 3), (45, .invokevirtual 439, 3), (48, .aload_n 0, 1), (49, .getfield 117, 3), (52, .iconst 3, 1), (53, .aload_n 0, 1), (54, .iconst 0, 1), (55, .iload_n 1, 1), (56, .iload_n 2, 1), (57, .invokevirtual 321, 3), (60, .iadd, 1), (61, .iaload, 1), (62, .ireturn, 1)]
theorem kX12_send : ckD cX12_send tX12_send = true := by decide +kernel
def tX12_waits : List (Nat × Instr × Nat) := [(0, .aload_n 0, 1), (1, .iconst 0, 1), (2, .putfield 169, 3), (5, .aload_n 0, 1), (6, .iload_n 1, 1), (7, .invokevirtual 423, 3), (10, .ifCond .eq 11, 3), (13, .aload_n 0, 1), (14, .iload_n 1, 1), (15, .invokevirtual 387, 3), (18, .ifCond .eq 5, 3), (21, .iconst (-1), 1), (22, .ireturn, 1), (23, .aload_n 0, 1), (24, .invokevirtual 433, 3), (27, .aload_n 0, 1), (28, .iload_n 1, 1), (29, .invokevirtual 442, 3), (32, .aload_n 0, 1), (33, .getfield 117, 3), (36, .bipush 23, 2), (38, .iload_n 1, 1), (39, .iadd, 1), (40, .iaload, 1), (41, .ireturn, 1)]
theorem kX12_waits : ckD cX12_waits tX12_waits = true := by decide +kernel
def tX12_back : List (Nat × Instr × Nat) := [(0, .aload_n 0, 1), (1, .iconst 0, 1), (2, .putfield 169, 3), (5, .aload_n 0, 1), (6, .iload_n 1, 1), (7, .invokevirtual 423, 3), (10, .ifCond .eq 11, 3), (13, .aload_n 0, 1), (14, .iload_n 1, 1), (15, .invokevirtual 445, 3), (18, .ifCond .ne 5, 3), (21, .iconst 0, 1), (22, .ireturn, 1), (23, .aload_n 0, 1), (24, .invokevirtual 433, 3), (27, .aload_n 0, 1), (28, .getfield 117, 3), (31, .bipush 17, 2), (33, .iload_n 1, 1), (34, .iadd, 1), (35, .aload_n 0, 1), (36, .getfield 35, 3), (39, .iload_n 1, 1), (40, .iaload, 1), (41, .iastore, 1), (42, .iconst 1, 1), (43, .ireturn, 1)]
theorem kX12_back : ckD cX12_back tX12_back = true := by decide +kernel
def tX12_undo : List (Nat × Instr × Nat) := [(0, .aload_n 0, 1), (1, .iconst 0, 1), (2, .putfield 169, 3), (5, .aload_n 0, 1), (6, .getfield 377, 3), (9, .ifCond .ne 5, 3), (12, .iconst 0, 1), (13, .ireturn, 1), (14, .aload_n 0, 1), (15, .dup, 1), (16, .getfield 377, 3), (19, .iconst 1, 1), (20, .isub, 1), (21, .putfield 377, 3), (24, .aload_n 0, 1), (25, .getfield 129, 3), (28, .bipush 41, 2), (30, .aload_n 0, 1), (31, .getfield 377, 3), (34, .imul, 1), (35, .aload_n 0, 1), (36, .getfield 117, 3), (39, .iconst 0, 1), (40, .invokestatic 429, 3), (43, .iconst 1, 1), (44, .ireturn, 1)]
theorem kX12_undo : ckD cX12_undo tX12_undo = true := by decide +kernel
def tX12_goes : List (Nat × Instr × Nat) := [(0, .aload_n 0, 1), (1, .getfield 96, 3), (4, .iload_n 1, 1), (5, .iaload, 1), (6, .istore_n 2, 1), (7, .aload_n 0, 1), (8, .getfield 99, 3), (11, .iload_n 1, 1), (12, .iaload, 1), (13, .istore_n 3, 1), (14, .iload_n 2, 1), (15, .ifCond .ne 11, 3), (18, .aload_n 0, 1), (19, .invokevirtual 436, 3), (22, .pop, 1), (23, .goto 92, 3), (26, .iload_n 2, 1), (27, .iconst 1, 1), (28, .if_icmp .ne 39, 3), (31, .aload_n 0, 1), (32, .iconst 0, 1), (33, .iload_n 3, 1), (34, .aload_n 0, 1), (35, .getfield 102, 3), (38, .iload_n 1, 1), (39, .iaload, 1), (40, .invokevirtual 321, 3), (43, .ifCond .ge 5, 3), (46, .iconst 0, 1), (47, .ireturn, 1), (48, .aload_n 0, 1), (49, .aload_n 0, 1), (50, .iconst 0, 1), (51, .iload_n 3, 1), (52, .aload_n 0, 1), (53, .getfield 102, 3), (56, .iload_n 1, 1), (57, .iaload, 1), (58, .invokevirtual 321, 3), (61, .invokevirtual 439, 3), (64, .goto 51, 3), (67, .iload_n 2, 1), (68, .iconst 2, 1), (69, .if_icmp .ne 21, 3), (72, .aload_n 0, 1), (73, .iload_n 3, 1), (74, .invokevirtual 387, 3), (77, .ifCond .eq 5, 3), (80, .iconst 0, 1), (81, .ireturn, 1), (82, .aload_n 0, 1), (83, .iload_n 3, 1), (84, .invokevirtual 442, 3), (87, .goto 28, 3), (90, .aload_n 0, 1), (91, .iload_n 3, 1), (92, .invokevirtual 445, 3), (95, .ifCond .ne 5, 3), (98, .iconst 0, 1), (99, .ireturn, 1), (100, .aload_n 0, 1), (101, .getfield 117, 3), (104, .bipush 17, 2), (106, .iload_n 3, 1), (107, .iadd, 1), (108, .aload_n 0, 1), (109, .getfield 35, 3), (112, .iload_n 3, 1), (113, .iaload, 1), (114, .iastore, 1), (115, .iconst 1, 1), (116, .ireturn, 1)]
theorem kX12_goes : ckD cX12_goes tX12_goes = true := by decide +kernel
def tX12_judged : List (Nat × Instr × Nat) := [(0, .aload_n 0, 1), (1, .iconst 0, 1), (2, .putfield 169, 3), (5, .iload_n 1, 1), (6, .iconst 0, 1), (7, .iconst 2, 1), (8, .invokestatic 287, 3), (11, .ifCond .ne 6, 3), (14, .bipush (-2), 2), (16, .ireturn, 1), (17, .aload_n 0, 1), (18, .getfield 117, 3), (21, .iconst 0, 1), (22, .aload_n 0, 1), (23, .getfield 120, 3), (26, .iconst 0, 1), (27, .invokestatic 429, 3), (30, .aload_n 0, 1), (31, .invokevirtual 166, 3), (34, .iconst (-1), 1), (35, .istore_n 2, 1), (36, .iconst (-1), 1), (37, .istore_n 3, 1), (38, .iconst 0, 1), (39, .istore 4, 2), (41, .iload 4, 2), (43, .aload_n 0, 1), (44, .getfield 93, 3), (47, .iconst 0, 1), (48, .iaload, 1), (49, .if_icmp .ge 51, 3), (52, .aload_n 0, 1), (53, .getfield 117, 3), (56, .iconst 2, 1), (57, .iaload, 1), (58, .istore 5, 2), (60, .aload_n 0, 1), (61, .iload 4, 2), (63, .invokevirtual 448, 3), (66, .ifCond .ne 10, 3), (69, .iload_n 2, 1), (70, .ifCond .ge 6, 3), (73, .iload 4, 2), (75, .istore_n 2, 1), (76, .aload_n 0, 1), (77, .getfield 117, 3), (80, .iconst 2, 1), (81, .iaload, 1), (82, .iload 5, 2), (84, .if_icmp .le 10, 3), (87, .iload_n 3, 1), (88, .ifCond .ge 6, 3), (91, .iload 4, 2), (93, .istore_n 3, 1), (94, .iinc 4 1, 3), (97, .goto (-56), 3), (100, .aload_n 0, 1), (101, .getfield 117, 3), (104, .iconst 2, 1), (105, .iaload, 1), (106, .istore 4, 2), (108, .aload_n 0, 1), (109, .getfield 120, 3), (112, .iconst 0, 1), (113, .aload_n 0, 1), (114, .getfield 117, 3), (117, .iconst 0, 1), (118, .invokestatic 429, 3), (121, .iload_n 1, 1), (122, .ifCond .ne 7, 3), (125, .iload_n 2, 1), (126, .goto 14, 3), (129, .iload_n 1, 1), (130, .iconst 1, 1), (131, .if_icmp .ne 7, 3), (134, .iload_n 3, 1), (135, .goto 5, 3), (138, .iload 4, 2), (140, .ireturn, 1)]
theorem kX12_judged : ckD cX12_judged tX12_judged = true := by decide +kernel
def tX12_notes : List (Nat × Instr × Nat) := [(0, .aload_n 0, 1), (1, .getfield 151, 3), (4, .iload_n 1, 1), (5, .aload_n 0, 1), (6, .invokevirtual 451, 3), (9, .iastore, 1), (10, .iconst 0, 1), (11, .istore_n 2, 1), (12, .iload_n 2, 1), (13, .aload_n 0, 1), (14, .getfield 13, 3), (17, .iconst 2, 1), (18, .iaload, 1), (19, .if_icmp .ge 33, 3), (22, .aload_n 0, 1), (23, .getfield 148, 3), (26, .iload_n 2, 1), (27, .iaload, 1), (28, .ifCond .ge 18, 3), (31, .aload_n 0, 1), (32, .iload_n 2, 1), (33, .invokevirtual 387, 3), (36, .ifCond .eq 10, 3), (39, .aload_n 0, 1), (40, .getfield 148, 3), (43, .iload_n 2, 1), (44, .iload_n 1, 1), (45, .iastore, 1), (46, .iinc 2 1, 3), (49, .goto (-37), 3), (52, .return_, 1)]
theorem kX12_notes : ckD cX12_notes tX12_notes = true := by decide +kernel
def tX12_goesHome : List (Nat × Instr × Nat) := [(0, .aload_n 0, 1), (1, .iconst 0, 1), (2, .putfield 454, 3), (5, .aload_n 0, 1), (6, .iconst 0, 1), (7, .putfield 457, 3), (10, .aload_n 0, 1), (11, .iconst 0, 1), (12, .putfield 460, 3), (15, .aload_n 0, 1), (16, .iconst 0, 1), (17, .putfield 463, 3), (20, .iconst 0, 1), (21, .istore_n 1, 1), (22, .iload_n 1, 1), (23, .bipush 6, 2), (25, .if_icmp .ge 23, 3), (28, .aload_n 0, 1), (29, .getfield 145, 3), (32, .iload_n 1, 1), (33, .iconst 0, 1), (34, .iastore, 1), (35, .aload_n 0, 1), (36, .getfield 148, 3), (39, .iload_n 1, 1), (40, .iconst (-1), 1), (41, .iastore, 1), (42, .iinc 1 1, 3), (45, .goto (-23), 3), (48, .aload_n 0, 1), (49, .iconst 0, 1), (50, .invokevirtual 466, 3), (53, .aload_n 0, 1), (54, .getfield 454, 3), (57, .bipush 99, 2), (59, .if_icmp .ge 141, 3), (62, .aload_n 0, 1), (63, .invokevirtual 469, 3), (66, .ifCond .ne 134, 3), (69, .aload_n 0, 1), (70, .dup, 1), (71, .getfield 457, 3), (74, .aload_n 0, 1), (75, .invokevirtual 436, 3), (78, .iadd, 1), (79, .putfield 457, 3), (82, .iconst 0, 1), (83, .istore_n 1, 1), (84, .iload_n 1, 1), (85, .aload_n 0, 1), (86, .getfield 13, 3), (89, .iconst 2, 1), (90, .iaload, 1), (91, .if_icmp .ge 24, 3), (94, .aload_n 0, 1), (95, .getfield 145, 3), (98, .iload_n 1, 1), (99, .dup2, 1), (100, .iaload, 1), (101, .aload_n 0, 1), (102, .getfield 142, 3), (105, .iload_n 1, 1), (106, .iaload, 1), (107, .iadd, 1), (108, .iastore, 1), (109, .iinc 1 1, 3), (112, .goto (-28), 3), (115, .iconst 0, 1), (116, .istore_n 1, 1), (117, .iload_n 1, 1), (118, .aload_n 0, 1), (119, .getfield 13, 3), (122, .iconst 1, 1), (123, .iaload, 1), (124, .if_icmp .ge 34, 3), (127, .aload_n 0, 1), (128, .dup, 1), (129, .getfield 463, 3), (132, .aload_n 0, 1), (133, .getfield 139, 3), (136, .iload_n 1, 1), (137, .iaload, 1), (138, .ifCond .le 9, 3), (141, .iconst 1, 1), (142, .iload_n 1, 1), (143, .ishl, 1), (144, .goto 4, 3), (147, .iconst 0, 1), (148, .ior, 1), (149, .putfield 463, 3), (152, .iinc 1 1, 3), (155, .goto (-38), 3), (158, .aload_n 0, 1), (159, .dup, 1), (160, .getfield 454, 3), (163, .iconst 1, 1), (164, .iadd, 1), (165, .putfield 454, 3), (168, .aload_n 0, 1), (169, .aload_n 0, 1), (170, .getfield 454, 3), (173, .invokevirtual 466, 3), (176, .aload_n 0, 1), (177, .dup, 1), (178, .getfield 460, 3), (181, .aload_n 0, 1), (182, .getfield 151, 3), (185, .aload_n 0, 1), (186, .getfield 454, 3), (189, .iaload, 1), (190, .invokestatic 472, 3), (193, .iadd, 1), (194, .putfield 460, 3), (197, .goto (-144), 3), (200, .return_, 1)]
theorem kX12_goesHome : ckD cX12_goesHome tX12_goesHome = true := by decide +kernel
def tX12_tries : List (Nat × Instr × Nat) := [(0, .aload_n 0, 1), (1, .getfield 117, 3), (4, .iconst 0, 1), (5, .aload_n 0, 1), (6, .getfield 123, 3), (9, .iconst 0, 1), (10, .invokestatic 429, 3), (13, .aload_n 0, 1), (14, .invokevirtual 475, 3), (17, .aload_n 0, 1), (18, .getfield 123, 3), (21, .iconst 0, 1), (22, .aload_n 0, 1), (23, .getfield 117, 3), (26, .iconst 0, 1), (27, .invokestatic 429, 3), (30, .return_, 1)]
theorem kX12_tries : ckD cX12_tries tX12_tries = true := by decide +kernel
def tX12_darks : List (Nat × Instr × Nat) := [(0, .aload_n 0, 1), (1, .iconst 0, 1), (2, .putfield 169, 3), (5, .aload_n 0, 1), (6, .iload_n 1, 1), (7, .invokevirtual 423, 3), (10, .ifCond .ne 5, 3), (13, .iconst (-1), 1), (14, .ireturn, 1), (15, .aload_n 0, 1), (16, .invokevirtual 478, 3), (19, .aload_n 0, 1), (20, .getfield 145, 3), (23, .iload_n 1, 1), (24, .iaload, 1), (25, .ireturn, 1)]
theorem kX12_darks : ckD cX12_darks tX12_darks = true := by decide +kernel
def tX12_home : List (Nat × Instr × Nat) := [(0, .aload_n 0, 1), (1, .iconst 0, 1), (2, .putfield 169, 3), (5, .aload_n 0, 1), (6, .iload_n 1, 1), (7, .invokevirtual 423, 3), (10, .ifCond .ne 5, 3), (13, .iconst (-1), 1), (14, .ireturn, 1), (15, .aload_n 0, 1), (16, .invokevirtual 478, 3), (19, .aload_n 0, 1), (20, .getfield 148, 3), (23, .iload_n 1, 1), (24, .iaload, 1), (25, .ireturn, 1)]
theorem kX12_home : ckD cX12_home tX12_home = true := by decide +kernel
def tX12_glow : List (Nat × Instr × Nat) := [(0, .aload_n 0, 1), (1, .iconst 0, 1), (2, .putfield 169, 3), (5, .aload_n 0, 1), (6, .invokevirtual 478, 3), (9, .iconst 0, 1), (10, .istore_n 1, 1), (11, .iconst 1, 1), (12, .istore_n 2, 1), (13, .iload_n 2, 1), (14, .aload_n 0, 1), (15, .getfield 454, 3), (18, .if_icmp .gt 32, 3), (21, .aload_n 0, 1), (22, .getfield 151, 3), (25, .iload_n 2, 1), (26, .iaload, 1), (27, .invokestatic 472, 3), (30, .aload_n 0, 1), (31, .getfield 151, 3), (34, .iload_n 1, 1), (35, .iaload, 1), (36, .invokestatic 472, 3), (39, .if_icmp .le 5, 3), (42, .iload_n 2, 1), (43, .istore_n 1, 1), (44, .iinc 2 1, 3), (47, .goto (-34), 3), (50, .iload_n 1, 1), (51, .ireturn, 1)]
theorem kX12_glow : ckD cX12_glow tX12_glow = true := by decide +kernel
def tX12_burns : List (Nat × Instr × Nat) := [(0, .aload_n 0, 1), (1, .iconst 0, 1), (2, .putfield 169, 3), (5, .aload_n 0, 1), (6, .iload_n 1, 1), (7, .invokevirtual 420, 3), (10, .ifCond .eq 13, 3), (13, .iload_n 2, 1), (14, .iconst 0, 1), (15, .bipush 99, 2), (17, .invokestatic 287, 3), (20, .ifCond .ne 5, 3), (23, .iconst (-1), 1), (24, .ireturn, 1), (25, .aload_n 0, 1), (26, .getfield 117, 3), (29, .iconst 0, 1), (30, .aload_n 0, 1), (31, .getfield 123, 3), (34, .iconst 0, 1), (35, .invokestatic 429, 3), (38, .iconst 0, 1), (39, .istore_n 3, 1), (40, .iload_n 3, 1), (41, .iload_n 2, 1), (42, .if_icmp .ge 14, 3), (45, .aload_n 0, 1), (46, .invokevirtual 436, 3), (49, .pop, 1), (50, .iinc 3 1, 3), (53, .goto (-13), 3), (56, .aload_n 0, 1), (57, .getfield 117, 3), (60, .iconst 3, 1), (61, .iload_n 1, 1), (62, .iadd, 1), (63, .iaload, 1), (64, .istore_n 3, 1), (65, .aload_n 0, 1), (66, .getfield 123, 3), (69, .iconst 0, 1), (70, .aload_n 0, 1), (71, .getfield 117, 3), (74, .iconst 0, 1), (75, .invokestatic 429, 3), (78, .iload_n 3, 1), (79, .ireturn, 1)]
theorem kX12_burns : ckD cX12_burns tX12_burns = true := by decide +kernel
def tX12_delays : List (Nat × Instr × Nat) := [(0, .iload_n 1, 1), (1, .aload_n 0, 1), (2, .getfield 13, 3), (5, .iconst 2, 1), (6, .iaload, 1), (7, .if_icmp .ne 85, 3), (10, .aload_n 0, 1), (11, .invokevirtual 478, 3), (14, .aload_n 0, 1), (15, .getfield 481, 3), (18, .ifCond .lt 34, 3), (21, .aload_n 0, 1), (22, .getfield 457, 3), (25, .aload_n 0, 1), (26, .getfield 481, 3), (29, .if_icmp .gt 22, 3), (32, .aload_n 0, 1), (33, .getfield 457, 3), (36, .aload_n 0, 1), (37, .getfield 481, 3), (40, .if_icmp .ne 12, 3), (43, .iload_n 2, 1), (44, .aload_n 0, 1), (45, .getfield 484, 3), (48, .if_icmp .lt 4, 3), (51, .return_, 1), (52, .aload_n 0, 1), (53, .aload_n 0, 1), (54, .getfield 457, 3), (57, .putfield 481, 3), (60, .aload_n 0, 1), (61, .iload_n 2, 1), (62, .putfield 484, 3), (65, .iconst 0, 1), (66, .istore_n 3, 1), (67, .iload_n 3, 1), (68, .bipush 6, 2), (70, .if_icmp .ge 21, 3), (73, .aload_n 0, 1), (74, .getfield 157, 3), (77, .iload_n 3, 1), (78, .aload_n 0, 1), (79, .getfield 154, 3), (82, .iload_n 3, 1), (83, .iaload, 1), (84, .iastore, 1), (85, .iinc 3 1, 3), (88, .goto (-21), 3), (91, .return_, 1), (92, .aload_n 0, 1), (93, .getfield 117, 3), (96, .bipush 23, 2), (98, .iload_n 1, 1), (99, .iadd, 1), (100, .iaload, 1), (101, .istore_n 3, 1), (102, .iconst 0, 1), (103, .istore 4, 2), (105, .iload 4, 2), (107, .iconst 3, 1), (108, .if_icmp .ge 54, 3), (111, .iload 4, 2), (113, .ifCond .eq 11, 3), (116, .aload_n 0, 1), (117, .iload_n 1, 1), (118, .invokevirtual 387, 3), (121, .ifCond .ne 41, 3), (124, .aload_n 0, 1), (125, .getfield 154, 3), (128, .iload_n 1, 1), (129, .iload 4, 2), (131, .iastore, 1), (132, .aload_n 0, 1), (133, .iload_n 1, 1), (134, .iconst 1, 1), (135, .iadd, 1), (136, .iload_n 2, 1), (137, .iload 4, 2), (139, .iadd, 1), (140, .invokevirtual 487, 3), (143, .aload_n 0, 1), (144, .iload_n 1, 1), (145, .invokevirtual 387, 3), (148, .ifCond .ne 8, 3), (151, .aload_n 0, 1), (152, .iload_n 1, 1), (153, .invokevirtual 442, 3), (156, .iinc 4 1, 3), (159, .goto (-54), 3), (162, .aload_n 0, 1), (163, .getfield 117, 3), (166, .bipush 23, 2), (168, .iload_n 1, 1), (169, .iadd, 1), (170, .iload_n 3, 1), (171, .iastore, 1), (172, .return_, 1)]
theorem kX12_delays : ckD cX12_delays tX12_delays = true := by decide +kernel
def tX12_delay : List (Nat × Instr × Nat) := [(0, .aload_n 0, 1), (1, .iconst 0, 1), (2, .putfield 169, 3), (5, .iload_n 1, 1), (6, .iconst (-1), 1), (7, .if_icmp .eq 14, 3), (10, .aload_n 0, 1), (11, .iload_n 1, 1), (12, .invokevirtual 423, 3), (15, .ifCond .ne 6, 3), (18, .bipush (-2), 2), (20, .ireturn, 1), (21, .aload_n 0, 1), (22, .iconst (-1), 1), (23, .putfield 481, 3), (26, .aload_n 0, 1), (27, .iconst 0, 1), (28, .putfield 484, 3), (31, .aload_n 0, 1), (32, .iconst 0, 1), (33, .iconst 0, 1), (34, .invokevirtual 487, 3), (37, .iload_n 1, 1), (38, .iconst (-1), 1), (39, .if_icmp .ne 10, 3), (42, .aload_n 0, 1), (43, .getfield 481, 3), (46, .goto 9, 3), (49, .aload_n 0, 1), (50, .getfield 157, 3), (53, .iload_n 1, 1), (54, .iaload, 1), (55, .ireturn, 1)]
theorem kX12_delay : ckD cX12_delay tX12_delay = true := by decide +kernel
def tX12_isLightBy : List (Nat × Instr × Nat) := [(0, .aload_n 0, 1), (1, .getfield 117, 3), (4, .iconst 0, 1), (5, .aload_n 0, 1), (6, .getfield 120, 3), (9, .iconst 0, 1), (10, .invokestatic 429, 3), (13, .iconst 0, 1), (14, .istore_n 2, 1), (15, .iload_n 2, 1), (16, .aload_n 0, 1), (17, .getfield 13, 3), (20, .iconst 1, 1), (21, .iaload, 1), (22, .if_icmp .ge 23, 3), (25, .iload_n 1, 1), (26, .iload_n 2, 1), (27, .ishr, 1), (28, .iconst 1, 1), (29, .iand, 1), (30, .iconst 1, 1), (31, .if_icmp .ne 8, 3), (34, .aload_n 0, 1), (35, .iload_n 2, 1), (36, .invokevirtual 439, 3), (39, .iinc 2 1, 3), (42, .goto (-27), 3), (45, .aload_n 0, 1), (46, .invokevirtual 478, 3), (49, .aload_n 0, 1), (50, .getfield 120, 3), (53, .iconst 0, 1), (54, .aload_n 0, 1), (55, .getfield 117, 3), (58, .iconst 0, 1), (59, .invokestatic 429, 3), (62, .aload_n 0, 1), (63, .getfield 457, 3), (66, .ifCond .ne 7, 3), (69, .iconst 1, 1), (70, .goto 4, 3), (73, .iconst 0, 1), (74, .ireturn, 1)]
theorem kX12_isLightBy : ckD cX12_isLightBy tX12_isLightBy = true := by decide +kernel
def tX12_boys : List (Nat × Instr × Nat) := [(0, .aload_n 0, 1), (1, .iconst 0, 1), (2, .putfield 169, 3), (5, .iconst (-1), 1), (6, .istore_n 1, 1), (7, .iconst 0, 1), (8, .istore_n 2, 1), (9, .iload_n 2, 1), (10, .iconst 1, 1), (11, .aload_n 0, 1), (12, .getfield 13, 3), (15, .iconst 1, 1), (16, .iaload, 1), (17, .ishl, 1), (18, .if_icmp .ge 34, 3), (21, .iload_n 1, 1), (22, .ifCond .lt 14, 3), (25, .iload_n 2, 1), (26, .invokestatic 472, 3), (29, .iload_n 1, 1), (30, .invokestatic 472, 3), (33, .if_icmp .ge 13, 3), (36, .aload_n 0, 1), (37, .iload_n 2, 1), (38, .invokevirtual 490, 3), (41, .ifCond .eq 5, 3), (44, .iload_n 2, 1), (45, .istore_n 1, 1), (46, .iinc 2 1, 3), (49, .goto (-40), 3), (52, .iload_n 1, 1), (53, .ireturn, 1)]
theorem kX12_boys : ckD cX12_boys tX12_boys = true := by decide +kernel
def tX12_alarm : List (Nat × Instr × Nat) := [(0, .aload_n 0, 1), (1, .iconst 0, 1), (2, .putfield 169, 3), (5, .aload_n 0, 1), (6, .invokevirtual 451, 3), (9, .istore_n 1, 1), (10, .iconst 0, 1), (11, .istore_n 2, 1), (12, .iload_n 2, 1), (13, .aload_n 0, 1), (14, .getfield 13, 3), (17, .iconst 2, 1), (18, .iaload, 1), (19, .if_icmp .ge 29, 3), (22, .aload_n 0, 1), (23, .iload_n 2, 1), (24, .invokevirtual 408, 3), (27, .ifCond .eq 15, 3), (30, .iload_n 1, 1), (31, .iconst 1, 1), (32, .aload_n 0, 1), (33, .iload_n 2, 1), (34, .invokevirtual 411, 3), (37, .ishl, 1), (38, .iconst (-1), 1), (39, .ixor, 1), (40, .iand, 1), (41, .istore_n 1, 1), (42, .iinc 2 1, 3), (45, .goto (-33), 3), (48, .iload_n 1, 1), (49, .ireturn, 1)]
theorem kX12_alarm : ckD cX12_alarm tX12_alarm = true := by decide +kernel
def tX12_blind : List (Nat × Instr × Nat) := [(0, .aload_n 0, 1), (1, .iconst 0, 1), (2, .putfield 169, 3), (5, .aload_n 0, 1), (6, .invokevirtual 478, 3), (9, .iconst 1, 1), (10, .aload_n 0, 1), (11, .getfield 13, 3), (14, .iconst 1, 1), (15, .iaload, 1), (16, .ishl, 1), (17, .iconst 1, 1), (18, .isub, 1), (19, .aload_n 0, 1), (20, .getfield 463, 3), (23, .iconst (-1), 1), (24, .ixor, 1), (25, .iand, 1), (26, .ireturn, 1)]
theorem kX12_blind : ckD cX12_blind tX12_blind = true := by decide +kernel
def tX12_meet : List (Nat × Instr × Nat) := [(0, .aload_n 0, 1), (1, .iconst 0, 1), (2, .putfield 169, 3), (5, .aload_n 0, 1), (6, .iload_n 1, 1), (7, .invokevirtual 423, 3), (10, .ifCond .eq 16, 3), (13, .aload_n 0, 1), (14, .iload_n 2, 1), (15, .invokevirtual 423, 3), (18, .ifCond .eq 8, 3), (21, .iload_n 1, 1), (22, .iload_n 2, 1), (23, .if_icmp .ne 5, 3), (26, .iconst (-1), 1), (27, .ireturn, 1), (28, .aload_n 0, 1), (29, .getfield 117, 3), (32, .iconst 0, 1), (33, .aload_n 0, 1), (34, .getfield 123, 3), (37, .iconst 0, 1), (38, .invokestatic 429, 3), (41, .iconst (-1), 1), (42, .istore_n 3, 1), (43, .iconst 0, 1), (44, .istore 4, 2), (46, .iload 4, 2), (48, .bipush 99, 2), (50, .if_icmp .gt 58, 3), (53, .iload_n 3, 1), (54, .ifCond .ge 54, 3), (57, .aload_n 0, 1), (58, .iload_n 1, 1), (59, .invokevirtual 408, 3), (62, .ifCond .eq 35, 3), (65, .aload_n 0, 1), (66, .iload_n 2, 1), (67, .invokevirtual 408, 3), (70, .ifCond .eq 27, 3), (73, .aload_n 0, 1), (74, .getfield 117, 3), (77, .bipush 11, 2), (79, .iload_n 1, 1), (80, .iadd, 1), (81, .iaload, 1), (82, .aload_n 0, 1), (83, .getfield 117, 3), (86, .bipush 11, 2), (88, .iload_n 2, 1), (89, .iadd, 1), (90, .iaload, 1), (91, .if_icmp .ne 6, 3), (94, .iload 4, 2), (96, .istore_n 3, 1), (97, .aload_n 0, 1), (98, .invokevirtual 436, 3), (101, .pop, 1), (102, .iinc 4 1, 3), (105, .goto (-59), 3), (108, .aload_n 0, 1), (109, .getfield 123, 3), (112, .iconst 0, 1), (113, .aload_n 0, 1), (114, .getfield 117, 3), (117, .iconst 0, 1), (118, .invokestatic 429, 3), (121, .iload_n 3, 1), (122, .ireturn, 1)]
theorem kX12_meet : ckD cX12_meet tX12_meet = true := by decide +kernel
def tX12_thief : List (Nat × Instr × Nat) := [(0, .aload_n 0, 1), (1, .iconst 0, 1), (2, .putfield 169, 3), (5, .aload_n 0, 1), (6, .invokevirtual 478, 3), (9, .iconst (-1), 1), (10, .istore_n 1, 1), (11, .iconst (-1), 1), (12, .istore_n 2, 1), (13, .iconst 0, 1), (14, .istore_n 3, 1), (15, .iload_n 3, 1), (16, .aload_n 0, 1), (17, .getfield 13, 3), (20, .iconst 2, 1), (21, .iaload, 1), (22, .if_icmp .ge 56, 3), (25, .aload_n 0, 1), (26, .getfield 148, 3), (29, .iload_n 3, 1), (30, .iaload, 1), (31, .ifCond .le 41, 3), (34, .aload_n 0, 1), (35, .getfield 151, 3), (38, .aload_n 0, 1), (39, .getfield 148, 3), (42, .iload_n 3, 1), (43, .iaload, 1), (44, .iaload, 1), (45, .invokestatic 472, 3), (48, .iload_n 2, 1), (49, .if_icmp .gt 6, 3), (52, .goto 20, 3), (55, .iload_n 3, 1), (56, .istore_n 1, 1), (57, .aload_n 0, 1), (58, .getfield 151, 3), (61, .aload_n 0, 1), (62, .getfield 148, 3), (65, .iload_n 3, 1), (66, .iaload, 1), (67, .iaload, 1), (68, .invokestatic 472, 3), (71, .istore_n 2, 1), (72, .iinc 3 1, 3), (75, .goto (-60), 3), (78, .iload_n 1, 1), (79, .ireturn, 1)]
theorem kX12_thief : ckD cX12_thief tX12_thief = true := by decide +kernel
def tX12_laysLit : List (Nat × Instr × Nat) := [(0, .iconst 1, 1), (1, .aload_n 0, 1), (2, .getfield 13, 3), (5, .iconst 2, 1), (6, .iaload, 1), (7, .ishl, 1), (8, .iconst 1, 1), (9, .isub, 1), (10, .aload_n 0, 1), (11, .invokevirtual 390, 3), (14, .iconst (-1), 1), (15, .ixor, 1), (16, .iand, 1), (17, .istore_n 1, 1), (18, .iconst 0, 1), (19, .istore_n 2, 1), (20, .iload_n 2, 1), (21, .iload_n 1, 1), (22, .if_icmp .gt 91, 3), (25, .iload_n 2, 1), (26, .iload_n 1, 1), (27, .iconst (-1), 1), (28, .ixor, 1), (29, .iand, 1), (30, .ifCond .eq 6, 3), (33, .goto 74, 3), (36, .aload_n 0, 1), (37, .getfield 117, 3), (40, .iconst 0, 1), (41, .aload_n 0, 1), (42, .getfield 123, 3), (45, .iconst 0, 1), (46, .invokestatic 429, 3), (49, .aload_n 0, 1), (50, .iload_n 2, 1), (51, .putfield 135, 3), (54, .iconst 0, 1), (55, .istore_n 3, 1), (56, .iload_n 3, 1), (57, .bipush 31, 2), (59, .if_icmp .ge 29, 3), (62, .aload_n 0, 1), (63, .getfield 160, 3), (66, .bipush 31, 2), (68, .iload_n 2, 1), (69, .imul, 1), (70, .iload_n 3, 1), (71, .iadd, 1), (72, .aload_n 0, 1), (73, .invokevirtual 451, 3), (76, .iastore, 1), (77, .aload_n 0, 1), (78, .invokevirtual 436, 3), (81, .pop, 1), (82, .iinc 3 1, 3), (85, .goto (-29), 3), (88, .aload_n 0, 1), (89, .bipush 63, 2), (91, .putfield 135, 3), (94, .aload_n 0, 1), (95, .getfield 123, 3), (98, .iconst 0, 1), (99, .aload_n 0, 1), (100, .getfield 117, 3), (103, .iconst 0, 1), (104, .invokestatic 429, 3), (107, .iinc 2 1, 3), (110, .goto (-90), 3), (113, .return_, 1)]
theorem kX12_laysLit : ckD cX12_laysLit tX12_laysLit = true := by decide +kernel
def tX12_watch : List (Nat × Instr × Nat) := [(0, .aload_n 0, 1), (1, .iconst 0, 1), (2, .putfield 169, 3), (5, .aload_n 0, 1), (6, .iload_n 1, 1), (7, .invokevirtual 420, 3), (10, .ifCond .eq 24, 3), (13, .iload_n 2, 1), (14, .iconst 0, 1), (15, .bipush 30, 2), (17, .invokestatic 287, 3), (20, .ifCond .eq 14, 3), (23, .aload_n 0, 1), (24, .getfield 105, 3), (27, .iconst 0, 1), (28, .iaload, 1), (29, .bipush 6, 2), (31, .if_icmp .ne 5, 3), (34, .iconst 0, 1), (35, .ireturn, 1), (36, .aload_n 0, 1), (37, .getfield 108, 3), (40, .aload_n 0, 1), (41, .getfield 105, 3), (44, .iconst 0, 1), (45, .iaload, 1), (46, .iload_n 1, 1), (47, .iastore, 1), (48, .aload_n 0, 1), (49, .getfield 111, 3), (52, .aload_n 0, 1), (53, .getfield 105, 3), (56, .iconst 0, 1), (57, .iaload, 1), (58, .iload_n 2, 1), (59, .iastore, 1), (60, .aload_n 0, 1), (61, .getfield 114, 3), (64, .aload_n 0, 1), (65, .getfield 105, 3), (68, .iconst 0, 1), (69, .iaload, 1), (70, .iload_n 3, 1), (71, .bastore, 1), (72, .aload_n 0, 1), (73, .getfield 105, 3), (76, .iconst 0, 1), (77, .dup2, 1), (78, .iaload, 1), (79, .iconst 1, 1), (80, .iadd, 1), (81, .iastore, 1), (82, .iconst 1, 1), (83, .ireturn, 1)]
theorem kX12_watch : ckD cX12_watch tX12_watch = true := by decide +kernel
def tX12_isAsWatched : List (Nat × Instr × Nat) := [(0, .iconst 0, 1), (1, .istore_n 2, 1), (2, .iload_n 2, 1), (3, .aload_n 0, 1), (4, .getfield 105, 3), (7, .iconst 0, 1), (8, .iaload, 1), (9, .if_icmp .ge 54, 3), (12, .aload_n 0, 1), (13, .getfield 160, 3), (16, .bipush 31, 2), (18, .iload_n 1, 1), (19, .imul, 1), (20, .aload_n 0, 1), (21, .getfield 111, 3), (24, .iload_n 2, 1), (25, .iaload, 1), (26, .iadd, 1), (27, .iaload, 1), (28, .aload_n 0, 1), (29, .getfield 108, 3), (32, .iload_n 2, 1), (33, .iaload, 1), (34, .ishr, 1), (35, .iconst 1, 1), (36, .iand, 1), (37, .iconst 1, 1), (38, .if_icmp .ne 7, 3), (41, .iconst 1, 1), (42, .goto 4, 3), (45, .iconst 0, 1), (46, .aload_n 0, 1), (47, .getfield 114, 3), (50, .iload_n 2, 1), (51, .baload, 1), (52, .if_icmp .eq 5, 3), (55, .iconst 0, 1), (56, .ireturn, 1), (57, .iinc 2 1, 3), (60, .goto (-58), 3), (63, .iconst 1, 1), (64, .ireturn, 1)]
theorem kX12_isAsWatched : ckD cX12_isAsWatched tX12_isAsWatched = true := by decide +kernel
def tX12_sets : List (Nat × Instr × Nat) := [(0, .aload_n 0, 1), (1, .iconst 0, 1), (2, .putfield 169, 3), (5, .iload_n 1, 1), (6, .iconst 0, 1), (7, .iconst 2, 1), (8, .invokestatic 287, 3), (11, .ifCond .ne 5, 3), (14, .iconst (-1), 1), (15, .ireturn, 1), (16, .iconst 1, 1), (17, .aload_n 0, 1), (18, .getfield 13, 3), (21, .iconst 2, 1), (22, .iaload, 1), (23, .ishl, 1), (24, .iconst 1, 1), (25, .isub, 1), (26, .aload_n 0, 1), (27, .invokevirtual 390, 3), (30, .iconst (-1), 1), (31, .ixor, 1), (32, .iand, 1), (33, .istore_n 2, 1), (34, .aload_n 0, 1), (35, .invokevirtual 493, 3), (38, .iconst 0, 1), (39, .istore_n 3, 1), (40, .iload_n 2, 1), (41, .istore 4, 2), (43, .iconst 0, 1), (44, .istore 5, 2), (46, .iconst 0, 1), (47, .istore 6, 2), (49, .iload 6, 2), (51, .iload_n 2, 1), (52, .if_icmp .gt 47, 3), (55, .iload 6, 2), (57, .iload_n 2, 1), (58, .iconst (-1), 1), (59, .ixor, 1), (60, .iand, 1), (61, .ifCond .ne 32, 3), (64, .aload_n 0, 1), (65, .iload 6, 2), (67, .invokevirtual 496, 3), (70, .ifCond .ne 6, 3), (73, .goto 20, 3), (76, .iinc 3 1, 3), (79, .iload 4, 2), (81, .iload 6, 2), (83, .iand, 1), (84, .istore 4, 2), (86, .iload 5, 2), (88, .iload 6, 2), (90, .ior, 1), (91, .istore 5, 2), (93, .iinc 6 1, 3), (96, .goto (-47), 3), (99, .iload_n 3, 1), (100, .ifCond .eq 7, 3), (103, .iload_n 1, 1), (104, .ifCond .ne 13, 3), (107, .iload_n 1, 1), (108, .ifCond .ne 7, 3), (111, .iload_n 3, 1), (112, .goto 4, 3), (115, .iconst (-1), 1), (116, .ireturn, 1), (117, .iload_n 1, 1), (118, .iconst 1, 1), (119, .if_icmp .ne 8, 3), (122, .iload 4, 2), (124, .goto 5, 3), (127, .iload 5, 2), (129, .ireturn, 1)]
theorem kX12_sets : ckD cX12_sets tX12_sets = true := by decide +kernel
def tX12_look : List (Nat × Instr × Nat) := [(0, .aload_n 0, 1), (1, .iconst 0, 1), (2, .putfield 169, 3), (5, .iload_n 1, 1), (6, .iconst 0, 1), (7, .bipush 30, 2), (9, .invokestatic 287, 3), (12, .ifCond .ne 5, 3), (15, .iconst (-1), 1), (16, .ireturn, 1), (17, .iconst 1, 1), (18, .aload_n 0, 1), (19, .getfield 13, 3), (22, .iconst 2, 1), (23, .iaload, 1), (24, .ishl, 1), (25, .iconst 1, 1), (26, .isub, 1), (27, .aload_n 0, 1), (28, .invokevirtual 390, 3), (31, .iconst (-1), 1), (32, .ixor, 1), (33, .iand, 1), (34, .istore_n 2, 1), (35, .aload_n 0, 1), (36, .iconst 0, 1), (37, .invokevirtual 499, 3), (40, .istore_n 3, 1), (41, .iload_n 3, 1), (42, .istore 4, 2), (44, .iconst (-1), 1), (45, .istore 5, 2), (47, .iconst 0, 1), (48, .istore 6, 2), (50, .iload 6, 2), (52, .aload_n 0, 1), (53, .getfield 13, 3), (56, .iconst 1, 1), (57, .iaload, 1), (58, .if_icmp .ge 105, 3), (61, .iconst 0, 1), (62, .istore 7, 2), (64, .iconst 0, 1), (65, .istore 8, 2), (67, .iload 8, 2), (69, .iload_n 2, 1), (70, .if_icmp .gt 58, 3), (73, .iload 7, 2), (75, .iload 8, 2), (77, .iload_n 2, 1), (78, .iconst (-1), 1), (79, .ixor, 1), (80, .iand, 1), (81, .ifCond .ne 37, 3), (84, .aload_n 0, 1), (85, .iload 8, 2), (87, .invokevirtual 496, 3), (90, .ifCond .eq 28, 3), (93, .aload_n 0, 1), (94, .getfield 160, 3), (97, .bipush 31, 2), (99, .iload 8, 2), (101, .imul, 1), (102, .iload_n 1, 1), (103, .iadd, 1), (104, .iaload, 1), (105, .iload 6, 2), (107, .ishr, 1), (108, .iconst 1, 1), (109, .iand, 1), (110, .iconst 1, 1), (111, .if_icmp .ne 7, 3), (114, .iconst 1, 1), (115, .goto 4, 3), (118, .iconst 0, 1), (119, .iadd, 1), (120, .istore 7, 2), (122, .iinc 8 1, 3), (125, .goto (-58), 3), (128, .iload 7, 2), (130, .iload_n 3, 1), (131, .iload 7, 2), (133, .isub, 1), (134, .invokestatic 405, 3), (137, .istore 7, 2), (139, .iload 7, 2), (141, .iload 4, 2), (143, .if_icmp .lt 6, 3), (146, .goto 11, 3), (149, .iload 7, 2), (151, .istore 4, 2), (153, .iload 6, 2), (155, .istore 5, 2), (157, .iinc 6 1, 3), (160, .goto (-110), 3), (163, .iload 5, 2), (165, .ireturn, 1)]
theorem kX12_look : ckD cX12_look tX12_look = true := by decide +kernel
def tX12_oil : List (Nat × Instr × Nat) := [(0, .aload_n 0, 1), (1, .iconst 0, 1), (2, .putfield 169, 3), (5, .aload_n 0, 1), (6, .invokevirtual 478, 3), (9, .aload_n 0, 1), (10, .getfield 460, 3), (13, .ireturn, 1)]
theorem kX12_oil : ckD cX12_oil tX12_oil = true := by decide +kernel
def tX12_share : List (Nat × Instr × Nat) := [(0, .aload_n 0, 1), (1, .aload_n 0, 1), (2, .iload_n 1, 1), (3, .invokevirtual 423, 3), (6, .ifCond .eq 7, 3), (9, .iconst 0, 1), (10, .goto 4, 3), (13, .iconst 1, 1), (14, .putfield 169, 3), (17, .aload_n 0, 1), (18, .getfield 169, 3), (21, .iconst 1, 1), (22, .if_icmp .ne 5, 3), (25, .iconst 0, 1), (26, .ireturn, 1), (27, .aload_n 0, 1), (28, .invokevirtual 478, 3), (31, .aload_n 0, 1), (32, .getfield 460, 3), (35, .istore_n 2, 1), (36, .aload_n 0, 1), (37, .bipush 63, 2), (39, .iconst 1, 1), (40, .iload_n 1, 1), (41, .ishl, 1), (42, .iconst (-1), 1), (43, .ixor, 1), (44, .iand, 1), (45, .putfield 135, 3), (48, .aload_n 0, 1), (49, .invokevirtual 478, 3), (52, .aload_n 0, 1), (53, .bipush 63, 2), (55, .putfield 135, 3), (58, .iload_n 2, 1), (59, .aload_n 0, 1), (60, .getfield 460, 3), (63, .isub, 1), (64, .ireturn, 1)]
theorem kX12_share : ckD cX12_share tX12_share = true := by decide +kernel
def tX12_longer : List (Nat × Instr × Nat) := [(0, .aload_n 0, 1), (1, .iconst 0, 1), (2, .putfield 169, 3), (5, .iload_n 1, 1), (6, .iconst 0, 1), (7, .bipush 9, 2), (9, .invokestatic 287, 3), (12, .ifCond .ne 5, 3), (15, .iconst (-1), 1), (16, .ireturn, 1), (17, .aload_n 0, 1), (18, .iload_n 1, 1), (19, .putfield 396, 3), (22, .aload_n 0, 1), (23, .invokevirtual 478, 3), (26, .aload_n 0, 1), (27, .iconst 0, 1), (28, .putfield 396, 3), (31, .aload_n 0, 1), (32, .getfield 457, 3), (35, .ireturn, 1)]
theorem kX12_longer : ckD cX12_longer tX12_longer = true := by decide +kernel
def tX12_getsBy : List (Nat × Instr × Nat) := [(0, .iload_n 3, 1), (1, .iconst 1, 1), (2, .if_icmp .ne 18, 3), (5, .iload 4, 2), (7, .iconst 1, 1), (8, .if_icmp .ne 7, 3), (11, .iload_n 0, 1), (12, .goto 19, 3), (15, .iload_n 1, 1), (16, .ineg, 1), (17, .goto 14, 3), (20, .iload 4, 2), (22, .iconst 1, 1), (23, .if_icmp .ne 7, 3), (26, .iload_n 2, 1), (27, .goto 4, 3), (30, .iconst 0, 1), (31, .ireturn, 1)]
theorem kX12_getsBy : ckD cX12_getsBy tX12_getsBy = true := by decide +kernel
def tX12_rests : List (Nat × Instr × Nat) := [(0, .aload_n 0, 1), (1, .iload_n 1, 1), (2, .iconst 0, 1), (3, .bipush 9, 2), (5, .invokestatic 287, 3), (8, .ifCond .eq 33, 3), (11, .iload_n 2, 1), (12, .iconst 0, 1), (13, .bipush 9, 2), (15, .invokestatic 287, 3), (18, .ifCond .eq 23, 3), (21, .iload_n 3, 1), (22, .iconst 0, 1), (23, .bipush 9, 2), (25, .invokestatic 287, 3), (28, .ifCond .eq 13, 3), (31, .iload 4, 2), (33, .iconst (-1), 1), (34, .if_icmp .lt 7, 3), (37, .iconst 0, 1), (38, .goto 4, 3), (41, .iconst 1, 1), (42, .putfield 169, 3), (45, .aload_n 0, 1), (46, .getfield 169, 3), (49, .iconst 1, 1), (50, .if_icmp .ne 5, 3), (53, .iconst 0, 1), (54, .ireturn, 1), (55, .iconst 0, 1), (56, .istore 5, 2), (58, .iconst 0, 1), (59, .istore 6, 2), (61, .iload 6, 2), (63, .iconst 4, 1), (64, .if_icmp .ge 87, 3), (67, .iload 6, 2), (69, .iconst 2, 1), (70, .idiv, 1), (71, .istore 7, 2), (73, .iload 6, 2), (75, .iconst 2, 1), (76, .irem, 1), (77, .istore 8, 2), (79, .iload_n 1, 1), (80, .iload_n 2, 1), (81, .iload_n 3, 1), (82, .iconst 1, 1), (83, .iload 7, 2), (85, .isub, 1), (86, .iload 8, 2), (88, .invokestatic 502, 3), (91, .iload_n 1, 1), (92, .iload_n 2, 1), (93, .iload_n 3, 1), (94, .iload 7, 2), (96, .iload 8, 2), (98, .invokestatic 502, 3), (101, .if_icmp .gt 44, 3), (104, .iload_n 1, 1), (105, .iload_n 2, 1), (106, .iload_n 3, 1), (107, .iconst 1, 1), (108, .iload 8, 2), (110, .isub, 1), (111, .iload 7, 2), (113, .invokestatic 502, 3), (116, .iload_n 1, 1), (117, .iload_n 2, 1), (118, .iload_n 3, 1), (119, .iload 8, 2), (121, .iload 7, 2), (123, .invokestatic 502, 3), (126, .if_icmp .le 6, 3), (129, .goto 16, 3), (132, .iload 5, 2), (134, .iload 4, 2), (136, .if_icmp .ne 6, 3), (139, .iload 6, 2), (141, .ireturn, 1), (142, .iinc 5 1, 3), (145, .iinc 6 1, 3), (148, .goto (-87), 3), (151, .aload_n 0, 1), (152, .iload 4, 2), (154, .iconst (-1), 1), (155, .if_icmp .ne 7, 3), (158, .iconst 0, 1), (159, .goto 4, 3), (162, .iconst 1, 1), (163, .putfield 169, 3), (166, .iload 4, 2), (168, .iconst (-1), 1), (169, .if_icmp .ne 8, 3), (172, .iload 5, 2), (174, .goto 4, 3), (177, .iconst 0, 1), (178, .ireturn, 1)]
theorem kX12_rests : ckD cX12_rests tX12_rests = true := by decide +kernel
def tX12_draws : List (Nat × Instr × Nat) := [(0, .aload_n 0, 1), (1, .aload_n 0, 1), (2, .getfield 506, 3), (5, .ldc2_w 509, 3), (8, .lmul, 1), (9, .ldc2_w 511, 3), (12, .ladd, 1), (13, .ldc2_w 513, 3), (16, .lrem, 1), (17, .putfield 506, 3), (20, .aload_n 0, 1), (21, .getfield 506, 3), (24, .ldc2_w 515, 3), (27, .ldiv, 1), (28, .iload_n 1, 1), (29, .i2l, 1), (30, .lrem, 1), (31, .l2i, 1), (32, .ireturn, 1)]
theorem kX12_draws : ckD cX12_draws tX12_draws = true := by decide +kernel
def tX12_nights : List (Nat × Instr × Nat) := [(0, .aload_n 0, 1), (1, .iconst 0, 1), (2, .putfield 169, 3), (5, .iload_n 1, 1), (6, .iconst 0, 1), (7, .sipush 9999, 3), (10, .invokestatic 287, 3), (13, .ifCond .eq 22, 3), (16, .iload_n 2, 1), (17, .iconst 1, 1), (18, .bipush 20, 2), (20, .invokestatic 287, 3), (23, .ifCond .eq 12, 3), (26, .iload_n 3, 1), (27, .iconst 0, 1), (28, .iconst 2, 1), (29, .invokestatic 287, 3), (32, .ifCond .ne 5, 3), (35, .iconst (-1), 1), (36, .ireturn, 1), (37, .aload_n 0, 1), (38, .iload_n 1, 1), (39, .i2l, 1), (40, .putfield 506, 3), (43, .aload_n 0, 1), (44, .getfield 117, 3), (47, .iconst 0, 1), (48, .aload_n 0, 1), (49, .getfield 120, 3), (52, .iconst 0, 1), (53, .invokestatic 429, 3), (56, .iconst 0, 1), (57, .istore 4, 2), (59, .iconst 0, 1), (60, .istore 5, 2), (62, .iconst 0, 1), (63, .istore 6, 2), (65, .iconst 0, 1), (66, .istore 7, 2), (68, .iload 7, 2), (70, .iload_n 2, 1), (71, .if_icmp .ge 82, 3), (74, .aload_n 0, 1), (75, .invokevirtual 166, 3), (78, .iconst 0, 1), (79, .istore 8, 2), (81, .iload 8, 2), (83, .aload_n 0, 1), (84, .getfield 13, 3), (87, .iconst 2, 1), (88, .iaload, 1), (89, .if_icmp .ge 25, 3), (92, .aload_n 0, 1), (93, .getfield 117, 3), (96, .bipush 23, 2), (98, .iload 8, 2), (100, .iadd, 1), (101, .aload_n 0, 1), (102, .bipush 31, 2), (104, .invokevirtual 517, 3), (107, .iastore, 1), (108, .iinc 8 1, 3), (111, .goto (-30), 3), (114, .aload_n 0, 1), (115, .invokevirtual 475, 3), (118, .iload 4, 2), (120, .aload_n 0, 1), (121, .getfield 457, 3), (124, .iadd, 1), (125, .istore 4, 2), (127, .iload 5, 2), (129, .aload_n 0, 1), (130, .getfield 457, 3), (133, .invokestatic 405, 3), (136, .istore 5, 2), (138, .iload 6, 2), (140, .aload_n 0, 1), (141, .getfield 460, 3), (144, .iadd, 1), (145, .istore 6, 2), (147, .iinc 7 1, 3), (150, .goto (-82), 3), (153, .aload_n 0, 1), (154, .getfield 120, 3), (157, .iconst 0, 1), (158, .aload_n 0, 1), (159, .getfield 117, 3), (162, .iconst 0, 1), (163, .invokestatic 429, 3), (166, .iload_n 3, 1), (167, .ifCond .ne 8, 3), (170, .iload 4, 2), (172, .goto 15, 3), (175, .iload_n 3, 1), (176, .iconst 1, 1), (177, .if_icmp .ne 8, 3), (180, .iload 5, 2), (182, .goto 5, 3), (185, .iload 6, 2), (187, .ireturn, 1)]
theorem kX12_nights : ckD cX12_nights tX12_nights = true := by decide +kernel
def tX12_mark : List (Nat × Instr × Nat) := [(0, .aload_n 0, 1), (1, .iconst 0, 1), (2, .putfield 169, 3), (5, .iload_n 1, 1), (6, .iconst 0, 1), (7, .iconst 3, 1), (8, .invokestatic 287, 3), (11, .ifCond .eq 16, 3), (14, .iload_n 2, 1), (15, .ifCond .eq 14, 3), (18, .aload_n 0, 1), (19, .getfield 132, 3), (22, .iload_n 1, 1), (23, .baload, 1), (24, .ifCond .ne 5, 3), (27, .iconst 0, 1), (28, .ireturn, 1), (29, .aload_n 0, 1), (30, .getfield 132, 3), (33, .iload_n 1, 1), (34, .iconst 1, 1), (35, .bastore, 1), (36, .iload_n 2, 1), (37, .ifCond .eq 9, 3), (40, .iconst 1, 1), (41, .iload_n 1, 1), (42, .iadd, 1), (43, .goto 4, 3), (46, .iconst 0, 1), (47, .istore_n 3, 1), (48, .iload_n 2, 1), (49, .ifCond .eq 7, 3), (52, .iconst 0, 1), (53, .goto 6, 3), (56, .iconst 1, 1), (57, .iload_n 1, 1), (58, .iadd, 1), (59, .istore 4, 2), (61, .aload_n 0, 1), (62, .iload_n 3, 1), (63, .iload 4, 2), (65, .invokevirtual 383, 3), (68, .aload_n 0, 1), (69, .iload_n 3, 1), (70, .iload 4, 2), (72, .invokevirtual 520, 3), (75, .iload_n 2, 1), (76, .ifCond .eq 27, 3), (79, .aload_n 0, 1), (80, .getfield 126, 3), (83, .bipush 41, 2), (85, .iload_n 1, 1), (86, .imul, 1), (87, .aload_n 0, 1), (88, .getfield 117, 3), (91, .iconst 0, 1), (92, .invokestatic 429, 3), (95, .aload_n 0, 1), (96, .iconst 0, 1), (97, .putfield 377, 3), (100, .goto 19, 3), (103, .aload_n 0, 1), (104, .getfield 117, 3), (107, .iconst 0, 1), (108, .aload_n 0, 1), (109, .getfield 126, 3), (112, .bipush 41, 2), (114, .iload_n 1, 1), (115, .imul, 1), (116, .invokestatic 429, 3), (119, .iconst 1, 1), (120, .ireturn, 1)]
theorem kX12_mark : ckD cX12_mark tX12_mark = true := by decide +kernel
def tX12_count : List (Nat × Instr × Nat) := [(0, .aload_n 0, 1), (1, .iconst 0, 1), (2, .putfield 169, 3), (5, .iload_n 1, 1), (6, .iconst 0, 1), (7, .bipush 11, 2), (9, .invokestatic 287, 3), (12, .ifCond .ne 5, 3), (15, .iconst (-1), 1), (16, .ireturn, 1), (17, .iload_n 1, 1), (18, .iconst 3, 1), (19, .if_icmp .ge 10, 3), (22, .aload_n 0, 1), (23, .getfield 13, 3), (26, .iload_n 1, 1), (27, .iaload, 1), (28, .ireturn, 1), (29, .iload_n 1, 1), (30, .bipush 6, 2), (32, .if_icmp .ge 34, 3), (35, .iload_n 1, 1), (36, .iconst 3, 1), (37, .if_icmp .ne 12, 3), (40, .aload_n 0, 1), (41, .getfield 117, 3), (44, .iconst 0, 1), (45, .iaload, 1), (46, .goto 19, 3), (49, .iload_n 1, 1), (50, .iconst 4, 1), (51, .if_icmp .ne 10, 3), (54, .aload_n 0, 1), (55, .invokevirtual 390, 3), (58, .goto 7, 3), (61, .aload_n 0, 1), (62, .invokevirtual 451, 3), (65, .ireturn, 1), (66, .iload_n 1, 1), (67, .bipush 8, 2), (69, .if_icmp .ge 25, 3), (72, .iload_n 1, 1), (73, .bipush 6, 2), (75, .if_icmp .ne 12, 3), (78, .aload_n 0, 1), (79, .getfield 117, 3), (82, .iconst 1, 1), (83, .iaload, 1), (84, .goto 9, 3), (87, .aload_n 0, 1), (88, .getfield 117, 3), (91, .iconst 2, 1), (92, .iaload, 1), (93, .ireturn, 1), (94, .iload_n 1, 1), (95, .bipush 10, 2), (97, .if_icmp .ge 25, 3), (100, .iload_n 1, 1), (101, .bipush 8, 2), (103, .if_icmp .ne 12, 3), (106, .aload_n 0, 1), (107, .getfield 93, 3), (110, .iconst 0, 1), (111, .iaload, 1), (112, .goto 9, 3), (115, .aload_n 0, 1), (116, .getfield 105, 3), (119, .iconst 0, 1), (120, .iaload, 1), (121, .ireturn, 1), (122, .iload_n 1, 1), (123, .bipush 10, 2), (125, .if_icmp .ne 10, 3), (128, .aload_n 0, 1), (129, .getfield 377, 3), (132, .goto 7, 3), (135, .aload_n 0, 1), (136, .getfield 174, 3), (139, .ireturn, 1)]
theorem kX12_count : ckD cX12_count tX12_count = true := by decide +kernel
def tJ6_bitCount_0f7a4 : List (Nat × Instr × Nat) := [(0, .iload_n 0, 1), (1, .iload_n 0, 1), (2, .iconst 1, 1), (3, .iushr, 1), (4, .ldc_w 265, 3), (7, .iand, 1), (8, .isub, 1), (9, .istore_n 0, 1), (10, .iload_n 0, 1), (11, .ldc_w 266, 3), (14, .iand, 1), (15, .iload_n 0, 1), (16, .iconst 2, 1), (17, .iushr, 1), (18, .ldc_w 266, 3), (21, .iand, 1), (22, .iadd, 1), (23, .istore_n 0, 1), (24, .iload_n 0, 1), (25, .iload_n 0, 1), (26, .iconst 4, 1), (27, .iushr, 1), (28, .iadd, 1), (29, .ldc_w 267, 3), (32, .iand, 1), (33, .istore_n 0, 1), (34, .iload_n 0, 1), (35, .iload_n 0, 1), (36, .bipush 8, 2), (38, .iushr, 1), (39, .iadd, 1), (40, .istore_n 0, 1), (41, .iload_n 0, 1), (42, .iload_n 0, 1), (43, .bipush 16, 2), (45, .iushr, 1), (46, .iadd, 1), (47, .istore_n 0, 1), (48, .iload_n 0, 1), (49, .bipush 63, 2), (51, .iand, 1), (52, .ireturn, 1)]
theorem kJ6_bitCount_0f7a4 : ckD cJ6_bitCount_0f7a4 tJ6_bitCount_0f7a4 = true := by decide +kernel
def tL_share : List (Nat × Instr × Nat) := [(0, .aload_n 2, 1), (1, .iconst 0, 1), (2, .aload_n 0, 1), (3, .iload_n 1, 1), (4, .invokevirtual 7, 3), (7, .i2l, 1), (8, .lastore, 1), (9, .goto 6, 3), (12, .astore_n 3, 1), (13, .iconst 1, 1), (14, .ireturn, 1), (15, .iconst 0, 1), (16, .ireturn, 1)]
theorem kL_share : ckD cL_share tL_share = true := by decide +kernel
def tL_rests : List (Nat × Instr × Nat) := [(0, .aload 5, 2), (2, .iconst 0, 1), (3, .aload_n 0, 1), (4, .iload_n 1, 1), (5, .iload_n 2, 1), (6, .iload_n 3, 1), (7, .iload 4, 2), (9, .invokevirtual 15, 3), (12, .i2l, 1), (13, .lastore, 1), (14, .goto 7, 3), (17, .astore 6, 2), (19, .iconst 1, 1), (20, .ireturn, 1), (21, .iconst 0, 1), (22, .ireturn, 1)]
theorem kL_rests : ckD cL_rests tL_rests = true := by decide +kernel
def tL_law_p0 : List (Nat × Instr × Nat) := [(0, .new 8, 3), (3, .dup, 1), (4, .invokespecial 19, 3), (7, .astore_n 1, 1), (8, .new 20, 3), (11, .dup, 1), (12, .invokespecial 22, 3), (15, .astore_n 2, 1), (16, .iconst 1, 1), (17, .newarray .long, 2), (19, .astore_n 3, 1), (20, .iconst 0, 1), (21, .istore 4, 2), (23, .iload 4, 2), (25, .aload_n 0, 1), (26, .arraylength, 1), (27, .bipush 7, 2), (29, .isub, 1), (30, .if_icmp .gt 1253, 3), (33, .aload_n 0, 1), (34, .iload 4, 2), (36, .iaload, 1), (37, .bipush 63, 2), (39, .iand, 1), (40, .tableswitch 1237 0 32 #[148, 295, 308, 321, 358, 395, 432, 457, 470, 507, 532, 557, 570, 595, 620, 645, 658, 695, 720, 733, 746, 759, 796, 809, 874, 899, 924, 937, 993, 1018, 1110, 1159, 1212], 148), (188, .aload_n 1, 1), (189, .aload_n 0, 1), (190, .iload 4, 2), (192, .iconst 1, 1), (193, .iadd, 1), (194, .iaload, 1), (195, .i2l, 1), (196, .bipush 32, 2), (198, .lshl, 1), (199, .aload_n 0, 1), (200, .iload 4, 2), (202, .iconst 2, 1), (203, .iadd, 1), (204, .iaload, 1), (205, .i2l, 1), (206, .ldc2_w 23, 3), (209, .land, 1), (210, .lor, 1), (211, .aload_n 0, 1), (212, .iload 4, 2), (214, .iconst 3, 1), (215, .iadd, 1), (216, .iaload, 1), (217, .i2l, 1), (218, .bipush 32, 2), (220, .lshl, 1), (221, .aload_n 0, 1), (222, .iload 4, 2), (224, .iconst 4, 1), (225, .iadd, 1), (226, .iaload, 1), (227, .i2l, 1), (228, .ldc2_w 23, 3), (231, .land, 1), (232, .lor, 1), (233, .aload_n 0, 1), (234, .iload 4, 2), (236, .iconst 5, 1), (237, .iadd, 1), (238, .iaload, 1), (239, .i2l, 1), (240, .bipush 32, 2), (242, .lshl, 1), (243, .aload_n 0, 1), (244, .iload 4, 2), (246, .bipush 6, 2), (248, .iadd, 1), (249, .iaload, 1), (250, .i2l, 1), (251, .ldc2_w 23, 3), (254, .land, 1), (255, .lor, 1), (256, .invokevirtual 25, 3), (259, .aload_n 2, 1), (260, .aload_n 0, 1), (261, .iload 4, 2), (263, .iconst 1, 1), (264, .iadd, 1), (265, .iaload, 1), (266, .i2l, 1), (267, .bipush 32, 2), (269, .lshl, 1), (270, .aload_n 0, 1), (271, .iload 4, 2), (273, .iconst 2, 1), (274, .iadd, 1), (275, .iaload, 1), (276, .i2l, 1), (277, .ldc2_w 23, 3), (280, .land, 1), (281, .lor, 1), (282, .aload_n 0, 1), (283, .iload 4, 2), (285, .iconst 3, 1), (286, .iadd, 1), (287, .iaload, 1), (288, .i2l, 1), (289, .bipush 32, 2), (291, .lshl, 1), (292, .aload_n 0, 1), (293, .iload 4, 2), (295, .iconst 4, 1), (296, .iadd, 1), (297, .iaload, 1), (298, .i2l, 1), (299, .ldc2_w 23, 3), (302, .land, 1), (303, .lor, 1), (304, .aload_n 0, 1), (305, .iload 4, 2), (307, .iconst 5, 1), (308, .iadd, 1), (309, .iaload, 1), (310, .i2l, 1), (311, .bipush 32, 2), (313, .lshl, 1), (314, .aload_n 0, 1), (315, .iload 4, 2), (317, .bipush 6, 2), (319, .iadd, 1), (320, .iaload, 1), (321, .i2l, 1), (322, .ldc2_w 23, 3), (325, .land, 1), (326, .lor, 1), (327, .invokevirtual 29, 3), (330, .if_icmp .eq 947, 3), (333, .iconst 0, 1), (334, .ireturn, 1), (335, .aload_n 1, 1), (336, .invokevirtual 30, 3), (339, .aload_n 2, 1), (340, .invokevirtual 34, 3), (343, .if_icmp .eq 934, 3), (346, .iconst 0, 1), (347, .ireturn, 1), (348, .aload_n 1, 1), (349, .invokevirtual 35, 3), (352, .aload_n 2, 1), (353, .invokevirtual 38, 3), (356, .if_icmp .eq 921, 3), (359, .iconst 0, 1), (360, .ireturn, 1), (361, .aload_n 1, 1), (362, .aload_n 0, 1)]
theorem kL_law_p0 : ckD cL_law tL_law_p0 = true := by decide +kernel
def tL_law_p1 : List (Nat × Instr × Nat) := [(363, .iload 4, 2), (365, .iconst 1, 1), (366, .iadd, 1), (367, .iaload, 1), (368, .aload_n 0, 1), (369, .iload 4, 2), (371, .iconst 2, 1), (372, .iadd, 1), (373, .iaload, 1), (374, .invokevirtual 39, 3), (377, .aload_n 2, 1), (378, .aload_n 0, 1), (379, .iload 4, 2), (381, .iconst 1, 1), (382, .iadd, 1), (383, .iaload, 1), (384, .aload_n 0, 1), (385, .iload 4, 2), (387, .iconst 2, 1), (388, .iadd, 1), (389, .iaload, 1), (390, .invokevirtual 43, 3), (393, .if_icmp .eq 884, 3), (396, .iconst 0, 1), (397, .ireturn, 1), (398, .aload_n 1, 1), (399, .aload_n 0, 1), (400, .iload 4, 2), (402, .iconst 1, 1), (403, .iadd, 1), (404, .iaload, 1), (405, .aload_n 0, 1), (406, .iload 4, 2), (408, .iconst 2, 1), (409, .iadd, 1), (410, .iaload, 1), (411, .invokevirtual 44, 3), (414, .aload_n 2, 1), (415, .aload_n 0, 1), (416, .iload 4, 2), (418, .iconst 1, 1), (419, .iadd, 1), (420, .iaload, 1), (421, .aload_n 0, 1), (422, .iload 4, 2), (424, .iconst 2, 1), (425, .iadd, 1), (426, .iaload, 1), (427, .invokevirtual 47, 3), (430, .if_icmp .eq 847, 3), (433, .iconst 0, 1), (434, .ireturn, 1), (435, .aload_n 1, 1), (436, .aload_n 0, 1), (437, .iload 4, 2), (439, .iconst 1, 1), (440, .iadd, 1), (441, .iaload, 1), (442, .aload_n 0, 1), (443, .iload 4, 2), (445, .iconst 2, 1), (446, .iadd, 1), (447, .iaload, 1), (448, .invokevirtual 48, 3), (451, .aload_n 2, 1), (452, .aload_n 0, 1), (453, .iload 4, 2), (455, .iconst 1, 1), (456, .iadd, 1), (457, .iaload, 1), (458, .aload_n 0, 1), (459, .iload 4, 2), (461, .iconst 2, 1), (462, .iadd, 1), (463, .iaload, 1), (464, .invokevirtual 51, 3), (467, .if_icmp .eq 810, 3), (470, .iconst 0, 1), (471, .ireturn, 1), (472, .aload_n 1, 1), (473, .aload_n 0, 1), (474, .iload 4, 2), (476, .iconst 1, 1), (477, .iadd, 1), (478, .iaload, 1), (479, .invokevirtual 52, 3), (482, .aload_n 2, 1), (483, .aload_n 0, 1), (484, .iload 4, 2), (486, .iconst 1, 1), (487, .iadd, 1), (488, .iaload, 1), (489, .invokevirtual 55, 3), (492, .if_icmp .eq 785, 3), (495, .iconst 0, 1), (496, .ireturn, 1), (497, .aload_n 1, 1), (498, .invokevirtual 56, 3), (501, .aload_n 2, 1), (502, .invokevirtual 59, 3), (505, .if_icmp .eq 772, 3), (508, .iconst 0, 1), (509, .ireturn, 1), (510, .aload_n 1, 1), (511, .aload_n 0, 1), (512, .iload 4, 2), (514, .iconst 1, 1), (515, .iadd, 1), (516, .iaload, 1), (517, .aload_n 0, 1), (518, .iload 4, 2), (520, .iconst 2, 1), (521, .iadd, 1), (522, .iaload, 1), (523, .invokevirtual 60, 3), (526, .aload_n 2, 1), (527, .aload_n 0, 1), (528, .iload 4, 2), (530, .iconst 1, 1), (531, .iadd, 1), (532, .iaload, 1), (533, .aload_n 0, 1), (534, .iload 4, 2), (536, .iconst 2, 1), (537, .iadd, 1), (538, .iaload, 1), (539, .invokevirtual 63, 3), (542, .if_icmp .eq 735, 3), (545, .iconst 0, 1), (546, .ireturn, 1), (547, .aload_n 1, 1), (548, .aload_n 0, 1), (549, .iload 4, 2), (551, .iconst 1, 1), (552, .iadd, 1), (553, .iaload, 1), (554, .invokevirtual 64, 3), (557, .aload_n 2, 1), (558, .aload_n 0, 1), (559, .iload 4, 2), (561, .iconst 1, 1), (562, .iadd, 1), (563, .iaload, 1), (564, .invokevirtual 67, 3), (567, .if_icmp .eq 710, 3), (570, .iconst 0, 1), (571, .ireturn, 1), (572, .aload_n 1, 1), (573, .aload_n 0, 1), (574, .iload 4, 2)]
theorem kL_law_p1 : ckD cL_law tL_law_p1 = true := by decide +kernel
def tL_law_p2 : List (Nat × Instr × Nat) := [(576, .iconst 1, 1), (577, .iadd, 1), (578, .iaload, 1), (579, .invokevirtual 68, 3), (582, .aload_n 2, 1), (583, .aload_n 0, 1), (584, .iload 4, 2), (586, .iconst 1, 1), (587, .iadd, 1), (588, .iaload, 1), (589, .invokevirtual 72, 3), (592, .if_icmp .eq 685, 3), (595, .iconst 0, 1), (596, .ireturn, 1), (597, .aload_n 1, 1), (598, .invokevirtual 73, 3), (601, .aload_n 2, 1), (602, .invokevirtual 77, 3), (605, .if_icmp .eq 672, 3), (608, .iconst 0, 1), (609, .ireturn, 1), (610, .aload_n 1, 1), (611, .aload_n 0, 1), (612, .iload 4, 2), (614, .iconst 1, 1), (615, .iadd, 1), (616, .iaload, 1), (617, .invokevirtual 78, 3), (620, .aload_n 2, 1), (621, .aload_n 0, 1), (622, .iload 4, 2), (624, .iconst 1, 1), (625, .iadd, 1), (626, .iaload, 1), (627, .invokevirtual 81, 3), (630, .if_icmp .eq 647, 3), (633, .iconst 0, 1), (634, .ireturn, 1), (635, .aload_n 1, 1), (636, .aload_n 0, 1), (637, .iload 4, 2), (639, .iconst 1, 1), (640, .iadd, 1), (641, .iaload, 1), (642, .invokevirtual 82, 3), (645, .aload_n 2, 1), (646, .aload_n 0, 1), (647, .iload 4, 2), (649, .iconst 1, 1), (650, .iadd, 1), (651, .iaload, 1), (652, .invokevirtual 85, 3), (655, .if_icmp .eq 622, 3), (658, .iconst 0, 1), (659, .ireturn, 1), (660, .aload_n 1, 1), (661, .aload_n 0, 1), (662, .iload 4, 2), (664, .iconst 1, 1), (665, .iadd, 1), (666, .iaload, 1), (667, .invokevirtual 86, 3), (670, .aload_n 2, 1), (671, .aload_n 0, 1), (672, .iload 4, 2), (674, .iconst 1, 1), (675, .iadd, 1), (676, .iaload, 1), (677, .invokevirtual 89, 3), (680, .if_icmp .eq 597, 3), (683, .iconst 0, 1), (684, .ireturn, 1), (685, .aload_n 1, 1), (686, .invokevirtual 90, 3), (689, .aload_n 2, 1), (690, .invokevirtual 93, 3), (693, .if_icmp .eq 584, 3), (696, .iconst 0, 1), (697, .ireturn, 1), (698, .aload_n 1, 1), (699, .aload_n 0, 1), (700, .iload 4, 2), (702, .iconst 1, 1), (703, .iadd, 1), (704, .iaload, 1), (705, .aload_n 0, 1), (706, .iload 4, 2), (708, .iconst 2, 1), (709, .iadd, 1), (710, .iaload, 1), (711, .invokevirtual 94, 3), (714, .aload_n 2, 1), (715, .aload_n 0, 1), (716, .iload 4, 2), (718, .iconst 1, 1), (719, .iadd, 1), (720, .iaload, 1), (721, .aload_n 0, 1), (722, .iload 4, 2), (724, .iconst 2, 1), (725, .iadd, 1), (726, .iaload, 1), (727, .invokevirtual 97, 3), (730, .if_icmp .eq 547, 3), (733, .iconst 0, 1), (734, .ireturn, 1), (735, .aload_n 1, 1), (736, .aload_n 0, 1), (737, .iload 4, 2), (739, .iconst 1, 1), (740, .iadd, 1), (741, .iaload, 1), (742, .invokevirtual 98, 3), (745, .aload_n 2, 1), (746, .aload_n 0, 1), (747, .iload 4, 2), (749, .iconst 1, 1), (750, .iadd, 1), (751, .iaload, 1), (752, .invokevirtual 101, 3), (755, .if_icmp .eq 522, 3), (758, .iconst 0, 1), (759, .ireturn, 1), (760, .aload_n 1, 1), (761, .invokevirtual 102, 3), (764, .aload_n 2, 1), (765, .invokevirtual 105, 3), (768, .if_icmp .eq 509, 3), (771, .iconst 0, 1), (772, .ireturn, 1), (773, .aload_n 1, 1), (774, .invokevirtual 106, 3), (777, .aload_n 2, 1), (778, .invokevirtual 109, 3), (781, .if_icmp .eq 496, 3), (784, .iconst 0, 1), (785, .ireturn, 1), (786, .aload_n 1, 1), (787, .invokevirtual 110, 3), (790, .aload_n 2, 1), (791, .invokevirtual 113, 3), (794, .if_icmp .eq 483, 3), (797, .iconst 0, 1), (798, .ireturn, 1), (799, .aload_n 1, 1), (800, .aload_n 0, 1), (801, .iload 4, 2), (803, .iconst 1, 1), (804, .iadd, 1), (805, .iaload, 1)]
theorem kL_law_p2 : ckD cL_law tL_law_p2 = true := by decide +kernel
def tL_law_p3 : List (Nat × Instr × Nat) := [(806, .aload_n 0, 1), (807, .iload 4, 2), (809, .iconst 2, 1), (810, .iadd, 1), (811, .iaload, 1), (812, .invokevirtual 114, 3), (815, .aload_n 2, 1), (816, .aload_n 0, 1), (817, .iload 4, 2), (819, .iconst 1, 1), (820, .iadd, 1), (821, .iaload, 1), (822, .aload_n 0, 1), (823, .iload 4, 2), (825, .iconst 2, 1), (826, .iadd, 1), (827, .iaload, 1), (828, .invokevirtual 117, 3), (831, .if_icmp .eq 446, 3), (834, .iconst 0, 1), (835, .ireturn, 1), (836, .aload_n 1, 1), (837, .invokevirtual 118, 3), (840, .aload_n 2, 1), (841, .invokevirtual 121, 3), (844, .if_icmp .eq 433, 3), (847, .iconst 0, 1), (848, .ireturn, 1), (849, .aload_n 1, 1), (850, .aload_n 0, 1), (851, .iload 4, 2), (853, .iconst 1, 1), (854, .iadd, 1), (855, .iaload, 1), (856, .aload_n 0, 1), (857, .iload 4, 2), (859, .iconst 2, 1), (860, .iadd, 1), (861, .iaload, 1), (862, .aload_n 0, 1), (863, .iload 4, 2), (865, .iconst 3, 1), (866, .iadd, 1), (867, .iaload, 1), (868, .ifCond .eq 7, 3), (871, .iconst 1, 1), (872, .goto 4, 3), (875, .iconst 0, 1), (876, .invokevirtual 122, 3), (879, .aload_n 2, 1), (880, .aload_n 0, 1), (881, .iload 4, 2), (883, .iconst 1, 1), (884, .iadd, 1), (885, .iaload, 1), (886, .aload_n 0, 1), (887, .iload 4, 2), (889, .iconst 2, 1), (890, .iadd, 1), (891, .iaload, 1), (892, .aload_n 0, 1), (893, .iload 4, 2), (895, .iconst 3, 1), (896, .iadd, 1), (897, .iaload, 1), (898, .ifCond .eq 7, 3), (901, .iconst 1, 1), (902, .goto 4, 3), (905, .iconst 0, 1), (906, .invokevirtual 126, 3), (909, .if_icmp .eq 368, 3), (912, .iconst 0, 1), (913, .ireturn, 1), (914, .aload_n 1, 1), (915, .aload_n 0, 1), (916, .iload 4, 2), (918, .iconst 1, 1), (919, .iadd, 1), (920, .iaload, 1), (921, .invokevirtual 127, 3), (924, .aload_n 2, 1), (925, .aload_n 0, 1), (926, .iload 4, 2), (928, .iconst 1, 1), (929, .iadd, 1), (930, .iaload, 1), (931, .invokevirtual 130, 3), (934, .if_icmp .eq 343, 3), (937, .iconst 0, 1), (938, .ireturn, 1), (939, .aload_n 1, 1), (940, .aload_n 0, 1), (941, .iload 4, 2), (943, .iconst 1, 1), (944, .iadd, 1), (945, .iaload, 1), (946, .invokevirtual 131, 3), (949, .aload_n 2, 1), (950, .aload_n 0, 1), (951, .iload 4, 2), (953, .iconst 1, 1), (954, .iadd, 1), (955, .iaload, 1), (956, .invokevirtual 134, 3), (959, .if_icmp .eq 318, 3), (962, .iconst 0, 1), (963, .ireturn, 1), (964, .aload_n 1, 1), (965, .invokevirtual 135, 3), (968, .aload_n 2, 1), (969, .invokevirtual 138, 3), (972, .if_icmp .eq 305, 3), (975, .iconst 0, 1), (976, .ireturn, 1), (977, .aload_n 1, 1), (978, .aload_n 0, 1), (979, .iload 4, 2), (981, .iconst 1, 1), (982, .iadd, 1), (983, .iaload, 1), (984, .aload_n 3, 1), (985, .invokestatic 139, 3), (988, .istore 5, 2), (990, .aload_n 2, 1), (991, .aload_n 0, 1), (992, .iload 4, 2), (994, .iconst 1, 1), (995, .iadd, 1), (996, .iaload, 1), (997, .invokevirtual 144, 3), (1000, .istore 6, 2), (1002, .aload_n 2, 1), (1003, .invokevirtual 145, 3), (1006, .iload 5, 2), (1008, .if_icmp .eq 5, 3), (1011, .iconst 0, 1), (1012, .ireturn, 1), (1013, .iload 5, 2), (1015, .ifCond .ne 15, 3), (1018, .aload_n 3, 1), (1019, .iconst 0, 1), (1020, .laload, 1), (1021, .iload 6, 2), (1023, .i2l, 1), (1024, .lcmp, 1), (1025, .ifCond .eq 5, 3), (1028, .iconst 0, 1), (1029, .ireturn, 1), (1030, .goto 247, 3), (1033, .aload_n 1, 1)]
theorem kL_law_p3 : ckD cL_law tL_law_p3 = true := by decide +kernel
def tL_law_p4 : List (Nat × Instr × Nat) := [(1034, .aload_n 0, 1), (1035, .iload 4, 2), (1037, .iconst 1, 1), (1038, .iadd, 1), (1039, .iaload, 1), (1040, .invokevirtual 148, 3), (1043, .aload_n 2, 1), (1044, .aload_n 0, 1), (1045, .iload 4, 2), (1047, .iconst 1, 1), (1048, .iadd, 1), (1049, .iaload, 1), (1050, .invokevirtual 151, 3), (1053, .if_icmp .eq 224, 3), (1056, .iconst 0, 1), (1057, .ireturn, 1), (1058, .aload_n 1, 1), (1059, .aload_n 0, 1), (1060, .iload 4, 2), (1062, .iconst 1, 1), (1063, .iadd, 1), (1064, .iaload, 1), (1065, .aload_n 0, 1), (1066, .iload 4, 2), (1068, .iconst 2, 1), (1069, .iadd, 1), (1070, .iaload, 1), (1071, .aload_n 0, 1), (1072, .iload 4, 2), (1074, .iconst 3, 1), (1075, .iadd, 1), (1076, .iaload, 1), (1077, .aload_n 0, 1), (1078, .iload 4, 2), (1080, .iconst 4, 1), (1081, .iadd, 1), (1082, .iaload, 1), (1083, .aload_n 3, 1), (1084, .invokestatic 152, 3), (1087, .istore 5, 2), (1089, .aload_n 2, 1), (1090, .aload_n 0, 1), (1091, .iload 4, 2), (1093, .iconst 1, 1), (1094, .iadd, 1), (1095, .iaload, 1), (1096, .aload_n 0, 1), (1097, .iload 4, 2), (1099, .iconst 2, 1), (1100, .iadd, 1), (1101, .iaload, 1), (1102, .aload_n 0, 1), (1103, .iload 4, 2), (1105, .iconst 3, 1), (1106, .iadd, 1), (1107, .iaload, 1), (1108, .aload_n 0, 1), (1109, .iload 4, 2), (1111, .iconst 4, 1), (1112, .iadd, 1), (1113, .iaload, 1), (1114, .invokevirtual 155, 3), (1117, .istore 6, 2), (1119, .aload_n 2, 1), (1120, .invokevirtual 145, 3), (1123, .iload 5, 2), (1125, .if_icmp .eq 5, 3), (1128, .iconst 0, 1), (1129, .ireturn, 1), (1130, .iload 5, 2), (1132, .ifCond .ne 15, 3), (1135, .aload_n 3, 1), (1136, .iconst 0, 1), (1137, .laload, 1), (1138, .iload 6, 2), (1140, .i2l, 1), (1141, .lcmp, 1), (1142, .ifCond .eq 5, 3), (1145, .iconst 0, 1), (1146, .ireturn, 1), (1147, .goto 130, 3), (1150, .aload_n 1, 1), (1151, .aload_n 0, 1), (1152, .iload 4, 2), (1154, .iconst 1, 1), (1155, .iadd, 1), (1156, .iaload, 1), (1157, .aload_n 0, 1), (1158, .iload 4, 2), (1160, .iconst 2, 1), (1161, .iadd, 1), (1162, .iaload, 1), (1163, .aload_n 0, 1), (1164, .iload 4, 2), (1166, .iconst 3, 1), (1167, .iadd, 1), (1168, .iaload, 1), (1169, .invokevirtual 156, 3), (1172, .aload_n 2, 1), (1173, .aload_n 0, 1), (1174, .iload 4, 2), (1176, .iconst 1, 1), (1177, .iadd, 1), (1178, .iaload, 1), (1179, .aload_n 0, 1), (1180, .iload 4, 2), (1182, .iconst 2, 1), (1183, .iadd, 1), (1184, .iaload, 1), (1185, .aload_n 0, 1), (1186, .iload 4, 2), (1188, .iconst 3, 1), (1189, .iadd, 1), (1190, .iaload, 1), (1191, .invokevirtual 160, 3), (1194, .if_icmp .eq 83, 3), (1197, .iconst 0, 1), (1198, .ireturn, 1), (1199, .aload_n 1, 1), (1200, .aload_n 0, 1), (1201, .iload 4, 2), (1203, .iconst 1, 1), (1204, .iadd, 1), (1205, .iaload, 1), (1206, .aload_n 0, 1), (1207, .iload 4, 2), (1209, .iconst 2, 1), (1210, .iadd, 1), (1211, .iaload, 1), (1212, .ifCond .eq 7, 3), (1215, .iconst 1, 1), (1216, .goto 4, 3), (1219, .iconst 0, 1), (1220, .invokevirtual 161, 3), (1223, .aload_n 2, 1), (1224, .aload_n 0, 1), (1225, .iload 4, 2), (1227, .iconst 1, 1), (1228, .iadd, 1), (1229, .iaload, 1), (1230, .aload_n 0, 1), (1231, .iload 4, 2), (1233, .iconst 2, 1), (1234, .iadd, 1), (1235, .iaload, 1), (1236, .ifCond .eq 7, 3), (1239, .iconst 1, 1), (1240, .goto 4, 3), (1243, .iconst 0, 1), (1244, .invokevirtual 165, 3)]
theorem kL_law_p4 : ckD cL_law tL_law_p4 = true := by decide +kernel
def tL_law_p5 : List (Nat × Instr × Nat) := [(1247, .if_icmp .eq 30, 3), (1250, .iconst 0, 1), (1251, .ireturn, 1), (1252, .aload_n 1, 1), (1253, .aload_n 0, 1), (1254, .iload 4, 2), (1256, .iconst 1, 1), (1257, .iadd, 1), (1258, .iaload, 1), (1259, .invokevirtual 166, 3), (1262, .aload_n 2, 1), (1263, .aload_n 0, 1), (1264, .iload 4, 2), (1266, .iconst 1, 1), (1267, .iadd, 1), (1268, .iaload, 1), (1269, .invokevirtual 169, 3), (1272, .if_icmp .eq 5, 3), (1275, .iconst 0, 1), (1276, .ireturn, 1), (1277, .iinc 4 7, 3), (1280, .goto (-1257), 3), (1283, .iconst 1, 1), (1284, .ireturn, 1)]
theorem kL_law_p5 : ckD cL_law tL_law_p5 = true := by decide +kernel
end
section
/-- the words of the tables that a call may take along -/
def nl_ok (w : Cond) : Bool := (w.onTables && w.keeps) || (match w with | .arrayClass _ => true | _ => false)
def GT : List Cond := lw_tbl.filter nl_ok
theorem gt_t {w : Cond} (i : Nat) (h : tables_1[i]? = some w) (ok : nl_ok w = true) : w ∈ GT := List.mem_filter.mpr ⟨List.mem_append_right _ (List.mem_of_getElem? h), ok⟩
theorem gt_p {w : Cond} (i : Nat) (h : (k2_sels lw_privs)[i]? = some w) (ok : nl_ok w = true) : w ∈ GT := List.mem_filter.mpr ⟨List.mem_append_left _ (List.mem_of_getElem? h), ok⟩
theorem gt_good {w : Cond} (h : w ∈ GT) : (w.onTables && w.keeps) = true ∨ ∃ ty, w = .arrayClass ty := by
  have h2 := (List.mem_filter.mp h).2
  unfold nl_ok at h2
  rcases (Bool.or_eq_true _ _).mp h2 with h3 | h3
  · exact Or.inl h3
  · right
    split at h3
    · exact ⟨_, rfl⟩
    · cases h3
theorem gt_in {y : MethodName} {cc : ByteArray} {nL : Nat} {ret : Option FieldType} (h : Cond.code y cc nL ret ∈ GT) : GoodIn GT (Cond.code y cc nL ret :: GT) := by
  intro w hw
  rcases List.mem_cons.mp hw with e | e
  · subst e; exact ⟨h, gt_good h⟩
  · exact ⟨e, gt_good e⟩
theorem gt_tbl {w : Cond} (h : w ∈ GT) : w ∈ lw_tbl := (List.mem_filter.mp h).1
/-- memory: ints, longs, references, by address and place -/
abbrev Mm : Type := (Nat → Nat → Int32) × (Nat → Nat → Int64) × (Nat → Nat → Nat)
def gI (σ : Mm) (a k : Nat) : Int32 := σ.1 a k
def gL (σ : Mm) (a k : Nat) : Int64 := σ.2.1 a k
def gR (σ : Mm) (a k : Nat) : Nat := σ.2.2 a k
def pI (σ : Mm) (a k : Nat) (v : Int32) : Mm := (fun b => if b = a then upd (σ.1 a) k v else σ.1 b, σ.2)
def pL (σ : Mm) (a k : Nat) (v : Int64) : Mm := (σ.1, fun b => if b = a then vp_updL (σ.2.1 a) k v else σ.2.1 b, σ.2.2)
def pR (σ : Mm) (a k : Nat) (v : Nat) : Mm := (σ.1, σ.2.1, fun b => if b = a then (fun j => if j = k then v else σ.2.2 a j) else σ.2.2 b)
def pC (σ : Mm) (src sp dst dp n : Nat) : Mm := (fun b => if b = dst then va_cpy (σ.1 src) (σ.1 dst) sp dp n else σ.1 b, σ.2)
/-- shapes: an array (type, length, its fixed references), an object (its number, its fields: 0 int, 1 long, 2 reference, 3 fixed reference) -/
abbrev Fq : Type := Nat × Nat
abbrev Sh : Type := (FieldType × Nat × (Nat → Nat)) ⊕ (Nat × List Fq)
def fdV (ρ : Nat → Nat) (σ : Mm) (a k : Nat) (d : Fq) : Value := match d.1 with
  | 0 => .int (σ.1 a k)
  | 1 => .long (σ.2.1 a k)
  | 2 => .ref (ρ (σ.2.2 a k))
  | _ => .ref (ρ d.2)
def arE (ρ : Nat → Nat) (σ : Mm) (a : Nat) (ty : FieldType) (n : Nat) (r : Nat → Nat) : vp_A := match ty with
  | .long => (n, .inr (.inl (σ.2.1 a)))
  | .object _ => (n, .inr (.inr (.inr (.inr fun j => some (ρ (r j))))))
  | _ => (n, .inl (σ.1 a))
def shE (κ : FieldType → ClassId) (ρ : Nat → Nat) (σ : Mm) (a : Nat) (sh : Sh) : va_E := match sh with
  | .inl q => .inl (κ q.1, arE ρ σ a q.1 q.2.1 q.2.2)
  | .inr q => .inr (q.1, q.2.mapIdx (fdV ρ σ a))
def wsOf (S : List Sh) (κ : FieldType → ClassId) (ρ : Nat → Nat) (σ : Mm) : va_W := S.mapIdx (fun a sh => (ρ a, shE κ ρ σ a sh))
theorem ws_get {S : List Sh} {κ : FieldType → ClassId} {ρ : Nat → Nat} {σ : Mm} {a : Nat} {sh : Sh} (h : S[a]? = some sh) : (wsOf S κ ρ σ)[a]? = some (ρ a, shE κ ρ σ a sh) := by
  simp [wsOf, h]
theorem fdV_congr {ρ : Nat → Nat} {σ τ : Mm} {a : Nat} (h1 : σ.1 a = τ.1 a) (h2 : σ.2.1 a = τ.2.1 a) (h3 : σ.2.2 a = τ.2.2 a) : fdV ρ σ a = fdV ρ τ a := by
  funext k d
  simp only [fdV, h1, h2, h3]
theorem shE_congr {κ : FieldType → ClassId} {ρ : Nat → Nat} {σ τ : Mm} {a : Nat} {sh : Sh} (h1 : σ.1 a = τ.1 a) (h2 : σ.2.1 a = τ.2.1 a) (h3 : σ.2.2 a = τ.2.2 a) : shE κ ρ σ a sh = shE κ ρ τ a sh := by
  rcases sh with ⟨ty, n, r⟩ | ⟨ci, fds⟩
  · cases ty <;> simp [shE, arE, h1, h2]
  · simp only [shE, fdV_congr h1 h2 h3]
theorem ws_set {S : List Sh} {κ : FieldType → ClassId} {ρ : Nat → Nat} {σ τ : Mm} {a : Nat} {sh : Sh} (h : S[a]? = some sh) (h1 : ∀ i, i ≠ a → τ.1 i = σ.1 i) (h2 : ∀ i, i ≠ a → τ.2.1 i = σ.2.1 i) (h3 : ∀ i, i ≠ a → τ.2.2 i = σ.2.2 i) : wsOf S κ ρ τ = (wsOf S κ ρ σ).set a (ρ a, shE κ ρ τ a sh) := by
  have hlt : a < S.length := (List.getElem?_eq_some_iff.mp h).1
  apply List.ext_getElem?
  intro i
  rw [List.getElem?_set]
  by_cases e : a = i
  · subst e
    obtain ⟨q1, q2⟩ := List.getElem?_eq_some_iff.mp h
    simp [wsOf, hlt, q2]
  · rw [if_neg e]
    simp only [wsOf, List.getElem?_mapIdx]
    cases hs : S[i]? with
    | none => rfl
    | some q => simp only [Option.map_some]; rw [shE_congr (h1 i (Ne.symm e)) (h2 i (Ne.symm e)) (h3 i (Ne.symm e))]
theorem mapIdx_set {α β : Type} {l : List α} {f g : Nat → α → β} {k : Nat} {d : α} {v : β} (h : l[k]? = some d) (hv : g k d = v) (hg : ∀ i x, i ≠ k → g i x = f i x) : l.mapIdx g = (l.mapIdx f).set k v := by
  have hlt : k < l.length := (List.getElem?_eq_some_iff.mp h).1
  apply List.ext_getElem?
  intro i
  rw [List.getElem?_set]
  by_cases e : k = i
  · subst e
    obtain ⟨h1, h2⟩ := List.getElem?_eq_some_iff.mp h
    simp [hlt, h2, hv]
  · rw [if_neg e]
    simp only [List.getElem?_mapIdx]
    cases hs : l[i]? with
    | none => rfl
    | some q => simp only [Option.map_some]; rw [hg i q (Ne.symm e)]
section PW
variable {S : List Sh} {κ : FieldType → ClassId} {ρ : Nat → Nat} {σ : Mm} {a k ci z n : Nat} {fds : List Fq} {r : Nat → Nat}
theorem ws_pIo {v : Int32} (h : S[a]? = some (.inr (ci, fds))) (hf : fds[k]? = some (0, z)) : wsOf S κ ρ (pI σ a k v) = (wsOf S κ ρ σ).set a (ρ a, .inr (ci, (fds.mapIdx (fdV ρ σ a)).set k (.int v))) := by
  rw [ws_set (σ := σ) (τ := pI σ a k v) h (fun i hi => by simp [pI, hi]) (fun i hi => rfl) (fun i hi => rfl)]
  have : fds.mapIdx (fdV ρ (pI σ a k v) a) = (fds.mapIdx (fdV ρ σ a)).set k (.int v) := mapIdx_set hf (by simp [fdV, pI, upd]) (fun i x hi => by simp [fdV, pI, upd, hi])
  simp only [shE, this]
theorem ws_pLo {v : Int64} (h : S[a]? = some (.inr (ci, fds))) (hf : fds[k]? = some (1, z)) : wsOf S κ ρ (pL σ a k v) = (wsOf S κ ρ σ).set a (ρ a, .inr (ci, (fds.mapIdx (fdV ρ σ a)).set k (.long v))) := by
  rw [ws_set (σ := σ) (τ := pL σ a k v) h (fun i hi => rfl) (fun i hi => by simp [pL, hi]) (fun i hi => rfl)]
  have : fds.mapIdx (fdV ρ (pL σ a k v) a) = (fds.mapIdx (fdV ρ σ a)).set k (.long v) := mapIdx_set hf (by simp [fdV, pL, vp_updL]) (fun i x hi => by simp [fdV, pL, vp_updL, hi])
  simp only [shE, this]
theorem ws_pRo {v : Nat} (h : S[a]? = some (.inr (ci, fds))) (hf : fds[k]? = some (2, z)) : wsOf S κ ρ (pR σ a k v) = (wsOf S κ ρ σ).set a (ρ a, .inr (ci, (fds.mapIdx (fdV ρ σ a)).set k (.ref (ρ v)))) := by
  rw [ws_set (σ := σ) (τ := pR σ a k v) h (fun i hi => rfl) (fun i hi => rfl) (fun i hi => by simp [pR, hi])]
  have : fds.mapIdx (fdV ρ (pR σ a k v) a) = (fds.mapIdx (fdV ρ σ a)).set k (.ref (ρ v)) := mapIdx_set hf (by simp [fdV, pR]) (fun i x hi => by simp [fdV, pR, hi])
  simp only [shE, this]
/-- the types whose elements are ints -/
def nl_il (ty : FieldType) : Bool := match ty with
  | .int | .byte | .short | .boolean => true
  | _ => false
theorem arE_i {ty : FieldType} (ht : nl_il ty = true) : arE ρ σ a ty n r = (n, .inl (σ.1 a)) := by
  cases ty <;> first | rfl | (simp [nl_il] at ht)
theorem ws_pIa {ty : FieldType} {v : Int32} (ht : nl_il ty = true) (h : S[a]? = some (.inl (ty, n, r))) : wsOf S κ ρ (pI σ a k v) = (wsOf S κ ρ σ).set a (ρ a, .inl (κ ty, n, .inl (upd (σ.1 a) k v))) := by
  rw [ws_set (σ := σ) (τ := pI σ a k v) h (fun i hi => by simp [pI, hi]) (fun i hi => rfl) (fun i hi => rfl)]
  simp [shE, arE_i ht, pI]
theorem ws_pCa {ty : FieldType} {b sp dp m : Nat} (ht : nl_il ty = true) (h : S[a]? = some (.inl (ty, n, r))) : wsOf S κ ρ (pC σ b sp a dp m) = (wsOf S κ ρ σ).set a (ρ a, .inl (κ ty, n, .inl (va_cpy (σ.1 b) (σ.1 a) sp dp m))) := by
  rw [ws_set (σ := σ) (τ := pC σ b sp a dp m) h (fun i hi => by simp [pC, hi]) (fun i hi => rfl) (fun i hi => rfl)]
  simp [shE, arE_i ht, pC]
theorem ws_pLa {v : Int64} (h : S[a]? = some (.inl (.long, n, r))) : wsOf S κ ρ (pL σ a k v) = (wsOf S κ ρ σ).set a (ρ a, .inl (κ .long, n, .inr (.inl (vp_updL (σ.2.1 a) k v)))) := by
  rw [ws_set (σ := σ) (τ := pL σ a k v) h (fun i hi => rfl) (fun i hi => by simp [pL, hi]) (fun i hi => rfl)]
  simp [shE, arE, pL]
end PW
/-- the pieces of an image -/
def bn {α β : Type} (v : α) (f : α → β) : β := f v
def ck {β : Type} (b : Bool) (E : Option β) : Option β := match b with
  | true => E
  | false => none
def cl {β γ : Type} (o : Option (Int32 × γ)) (k : Int32 → γ → Option β) : Option β := match o with
  | none => none
  | some q => k q.1 q.2
def jn {α β : Type} (K : α) (B : α → β) : β := B K
def inb (i : Int32) (n : Nat) : Bool := decide (¬ (i < 0 ∨ n ≤ i.toNatClampNeg))
theorem inb_in {i : Int32} {n : Nat} (h : inb i n = true) : vp_in i n := by simpa [inb, vp_in] using h
def lq1 {α ω : Type} (F : (α → Option ω) → α → Option ω) : Nat → α → Option ω
  | 0 => fun _ => none
  | n + 1 => F (lq1 F n)
def lq2 {α β ω : Type} (F : (α → β → Option ω) → α → β → Option ω) : Nat → α → β → Option ω
  | 0 => fun _ _ => none
  | n + 1 => F (lq2 F n)
def lq3 {α β γ ω : Type} (F : (α → β → γ → Option ω) → α → β → γ → Option ω) : Nat → α → β → γ → Option ω
  | 0 => fun _ _ _ => none
  | n + 1 => F (lq3 F n)
def lq4 {α β γ δ ω : Type} (F : (α → β → γ → δ → Option ω) → α → β → γ → δ → Option ω) : Nat → α → β → γ → δ → Option ω
  | 0 => fun _ _ _ _ => none
  | n + 1 => F (lq4 F n)
def lq5 {α β γ δ ε ω : Type} (F : (α → β → γ → δ → ε → Option ω) → α → β → γ → δ → ε → Option ω) : Nat → α → β → γ → δ → ε → Option ω
  | 0 => fun _ _ _ _ _ => none
  | n + 1 => F (lq5 F n)
def lq6 {α β γ δ ε ζ ω : Type} (F : (α → β → γ → δ → ε → ζ → Option ω) → α → β → γ → δ → ε → ζ → Option ω) : Nat → α → β → γ → δ → ε → ζ → Option ω
  | 0 => fun _ _ _ _ _ _ => none
  | n + 1 => F (lq6 F n)
theorem lq1_ind {α ω : Type} {F : (α → Option ω) → α → Option ω} (P : α → Option ω → Prop) (h0 : ∀ a, P a none) (hs : ∀ rec, (∀ a, P a (rec a)) → ∀ a, P a (F rec a)) : ∀ n a, P a (lq1 F n a)
  | 0, a => h0 a
  | n + 1, a => hs _ (lq1_ind P h0 hs n) a
theorem lq2_ind {α β ω : Type} {F : (α → β → Option ω) → α → β → Option ω} (P : α → β → Option ω → Prop) (h0 : ∀ a b, P a b none) (hs : ∀ rec, (∀ a b, P a b (rec a b)) → ∀ a b, P a b (F rec a b)) : ∀ n a b, P a b (lq2 F n a b)
  | 0, a, b => h0 a b
  | n + 1, a, b => hs _ (lq2_ind P h0 hs n) a b
theorem lq3_ind {α β γ ω : Type} {F : (α → β → γ → Option ω) → α → β → γ → Option ω} (P : α → β → γ → Option ω → Prop) (h0 : ∀ a b c, P a b c none) (hs : ∀ rec, (∀ a b c, P a b c (rec a b c)) → ∀ a b c, P a b c (F rec a b c)) : ∀ n a b c, P a b c (lq3 F n a b c)
  | 0, a, b, c => h0 a b c
  | n + 1, a, b, c => hs _ (lq3_ind P h0 hs n) a b c
theorem lq4_ind {α β γ δ ω : Type} {F : (α → β → γ → δ → Option ω) → α → β → γ → δ → Option ω} (P : α → β → γ → δ → Option ω → Prop) (h0 : ∀ a b c d, P a b c d none) (hs : ∀ rec, (∀ a b c d, P a b c d (rec a b c d)) → ∀ a b c d, P a b c d (F rec a b c d)) : ∀ n a b c d, P a b c d (lq4 F n a b c d)
  | 0, a, b, c, d => h0 a b c d
  | n + 1, a, b, c, d => hs _ (lq4_ind P h0 hs n) a b c d
theorem lq5_ind {α β γ δ ε ω : Type} {F : (α → β → γ → δ → ε → Option ω) → α → β → γ → δ → ε → Option ω} (P : α → β → γ → δ → ε → Option ω → Prop) (h0 : ∀ a b c d e, P a b c d e none) (hs : ∀ rec, (∀ a b c d e, P a b c d e (rec a b c d e)) → ∀ a b c d e, P a b c d e (F rec a b c d e)) : ∀ n a b c d e, P a b c d e (lq5 F n a b c d e)
  | 0, a, b, c, d, e => h0 a b c d e
  | n + 1, a, b, c, d, e => hs _ (lq5_ind P h0 hs n) a b c d e
theorem lq6_ind {α β γ δ ε ζ ω : Type} {F : (α → β → γ → δ → ε → ζ → Option ω) → α → β → γ → δ → ε → ζ → Option ω} (P : α → β → γ → δ → ε → ζ → Option ω → Prop) (h0 : ∀ a b c d e f, P a b c d e f none) (hs : ∀ rec, (∀ a b c d e f, P a b c d e f (rec a b c d e f)) → ∀ a b c d e f, P a b c d e f (F rec a b c d e f)) : ∀ n a b c d e f, P a b c d e f (lq6 F n a b c d e f)
  | 0, a, b, c, d, e, f => h0 a b c d e f
  | n + 1, a, b, c, d, e, f => hs _ (lq6_ind P h0 hs n) a b c d e f
end
section
/-- references by the map of addresses -/
def tr (ρ : Nat → Nat) (v : Value) : Value := match v with
  | .ref q => .ref (ρ q)
  | .int x => .int x
  | .long x => .long x
  | w => w
def trL (ρ : Nat → Nat) (q : Nat × Value) : Nat × Value := (q.1, tr ρ q.2)
theorem tr_cat (ρ : Nat → Nat) (v : Value) : (tr ρ v).category = v.category := by cases v <;> rfl
theorem tr_sum (ρ : Nat → Nat) (st : List Value) : ((st.map (tr ρ)).map fun v => v.category).sum = (st.map fun v => v.category).sum := by
  rw [List.map_map]
  congr 1
  apply List.map_congr_left
  intro v _
  exact tr_cat ρ v
theorem mw_0 : Cond.initialized "java/lang/Math" ∈ GT := gt_t 18 (by decide +kernel) (by decide)
theorem mw_max_1 : Cond.static Lib.Math.max.name ∈ GT := gt_t 517 (by decide +kernel) (by decide)
theorem mw_max_2 : Cond.code Lib.Math.max.name Lib.Math.max.code 2 (some .int) ∈ GT := gt_t 518 (by decide +kernel) (by decide)
theorem mw_min_1 : Cond.static Lib.Math.min.name ∈ GT := gt_t 520 (by decide +kernel) (by decide)
theorem mw_min_2 : Cond.code Lib.Math.min.name Lib.Math.min.code 2 (some .int) ∈ GT := gt_t 521 (by decide +kernel) (by decide)
theorem trL_at {ρ : Nat → Nat} {L : List (Nat × Value)} {j i : Nat} {v : Value} (h : L[j]? = some (i, v)) : (L.map (trL ρ))[j]? = some (i, tr ρ v) := by
  simp [h, trL]
theorem trL_filter {ρ : Nat → Nat} (f : Nat → Nat → Bool) (L : List (Nat × Value)) : (L.map (trL ρ)).filter (fun q => f q.1 q.2.category) = (L.filter (fun q => f q.1 q.2.category)).map (trL ρ) := by
  induction L with
  | nil => rfl
  | cons q t ih =>
    simp only [List.map_cons, List.filter_cons, trL, tr_cat]
    split
    · simp only [List.map_cons, trL]; rw [← ih]
    · exact ih
/-- the array types of the worlds -/
def tysOf (κ : FieldType → ClassId) : List (ClassId × FieldType) := [(κ .int, .int), (κ .long, .long), (κ .byte, .byte), (κ .short, .short), (κ .boolean, .boolean), (κ (.object RX4), .object RX4), (κ (.object RX3), .object RX3)]
/-- the machine's side of a method's frame -/
def Cx (own : String) (cc : ByteArray) (nL : Nat) (ret : Option FieldType) (d : Nat) (D : va_G) (κ : FieldType → ClassId) (A : Nat → Prop) (p : Program) (R : Room) (s : State) (m : MethodId) (args : Array Value) (meth : Method) (c : Code) : Prop :=
  p.tables.exec = Jvm.exec ∧ c.code = cc ∧ meth.sig.returnType = ret ∧ c.maxLocals = nL ∧ s.vm.findClass own = some m.cls ∧ (∀ w ∈ GT, w.before args s = true) ∧ meth.locks = false ∧ d ≤ R.frames ∧ 48 * d ≤ R.locals ∧ va_K D vwCl (tysOf κ) s ∧ (∀ q, s.heap.size ≤ q → A q)
/-- the heap holds the world -/
def Rp {T : Type} (wf : (FieldType → ClassId) → (Nat → Nat) → T → va_W) (D : va_G) (κ : FieldType → ClassId) (ρ : Nat → Nat) (A : Nat → Prop) (s : State) (σ : T) (H : Heap) (locs : List Loc) : Prop :=
  va_P D vwCl (wf κ ρ σ) H ∧ va_D A (wf κ ρ σ) ∧ va_S A s.heap H locs
/-- what the end of the method owes -/
def Rt {T : Type} (wf : (FieldType → ClassId) → (Nat → Nat) → T → va_W) (cc : ByteArray) (ret : Option FieldType) (D : va_G) (κ : FieldType → ClassId) (ρ : Nat → Nat) (A : Nat → Prop) (p : Program) (l : Launch) (e : Env) (R : Room) (s : State) (m : MethodId) (args : Array Value) (below : List Frame) (meth : Method) (c : Code) (Z : State → Prop) (r : Int32) (τ : T) : Prop :=
  ∀ (H : Heap) (locs : List Loc) (cells slots pc : Nat) (ls : Array Slot), cells ≤ R.cells ∧ slots ≤ R.slots → Rp wf D κ ρ A s τ H locs → match ret with
    | none => decode cc pc = .ok (.return_, 1) → W p l e R s m args below meth c H locs cells slots Z (F0 m pc ls [])
    | some ty => narrow ty (.int r) = .int r → decode cc pc = .ok (.ireturn, 1) → W p l e R s m args below meth c H locs cells slots Z (F0 m pc ls [.int r])
/-- from the frame at pc, with locals L, stack st and memory σ, the method comes to the end that E tells; g: how many things may still be made -/
def X {T : Type} (wf : (FieldType → ClassId) → (Nat → Nat) → T → va_W) (own : String) (cc : ByteArray) (nL : Nat) (ret : Option FieldType) (d g : Nat) (pc : Nat) (L : List (Nat × Value)) (st : List Value) (σ : T) (E : Option (Int32 × T)) : Prop :=
  ∀ (D : va_G) (κ : FieldType → ClassId) (ρ : Nat → Nat) (A : Nat → Prop) (p : Program) (l : Launch) (e : Env) (R : Room) (s : State) (m : MethodId) (args : Array Value) (below : List Frame) (meth : Method) (c : Code), Cx own cc nL ret d D κ A p R s m args meth c →
  ∀ (H : Heap) (locs : List Loc) (cells slots : Nat) (Z : State → Prop) (ls : Array Slot) (r : Int32) (τ : T), cells + g ≤ R.cells ∧ slots + 16 * g ≤ R.slots → Rp wf D κ ρ A s σ H locs → lv_has ls nL (L.map (trL ρ)) → E = some (r, τ) → Rt wf cc ret D κ ρ A p l e R s m args below meth c Z r τ →
  W p l e R s m args below meth c H locs cells slots Z (F0 m pc ls (st.map (tr ρ)))
section XR
variable {T : Type} {wf : (FieldType → ClassId) → (Nat → Nat) → T → va_W} {own : String} {cc : ByteArray} {nL : Nat} {ret : Option FieldType} {d g : Nat} {pc : Nat} {L L' : List (Nat × Value)} {st : List Value} {σ : T} {E : Option (Int32 × T)}
theorem X_none : X wf own cc nL ret d g pc L st σ none := by
  intro D κ ρ A p l e R s m args below meth c hC H locs cells slots Z ls r τ hcs hR hl hE
  cases hE
theorem X_sub (ks : List Nat) (hL : lv_pick L ks = L') (k : X wf own cc nL ret d g pc L' st σ E) : X wf own cc nL ret d g pc L st σ E := by
  intro D κ ρ A p l e R s m args below meth c hC H locs cells slots Z ls r τ hcs hR hl hE hZ
  refine k D κ ρ A p l e R s m args below meth c hC H locs cells slots Z ls r τ hcs hR (lv_sub hl ks ?_) hE hZ
  rw [← hL]
  simp only [lv_pick, List.getElem?_map]
  rw [List.map_filterMap]
theorem X_ck {b : Bool} (k : b = true → X wf own cc nL ret d g pc L st σ E) : X wf own cc nL ret d g pc L st σ (ck b E) := by
  cases b with
  | true => exact k rfl
  | false => exact X_none
theorem X_bn {α : Type} {v : α} {F : α → Option (Int32 × T)} (k : X wf own cc nL ret d g pc L st σ (F v)) : X wf own cc nL ret d g pc L st σ (bn v F) := k
theorem X_bi {v : Int32} {F : Int32 → Option (Int32 × T)} (k : ∀ x, X wf own cc nL ret d g pc L (.int x :: st) σ (F x)) : X wf own cc nL ret d g pc L (.int v :: st) σ (bn v F) := k v
theorem X_bl {v : Int64} {F : Int64 → Option (Int32 × T)} (k : ∀ x, X wf own cc nL ret d g pc L (.long x :: st) σ (F x)) : X wf own cc nL ret d g pc L (.long v :: st) σ (bn v F) := k v
theorem X_jn {α : Type} {K : α} {B : α → Option (Int32 × T)} (P : α → Prop) (h : P K) (k : ∀ K, P K → X wf own cc nL ret d g pc L st σ (B K)) : X wf own cc nL ret d g pc L st σ (jn K B) := k K h
theorem X_less {g' : Nat} (h : g' ≤ g) (k : X wf own cc nL ret d g' pc L st σ E) : X wf own cc nL ret d g pc L st σ E := by
  intro D κ ρ A p l e R s m args below meth c hC H locs cells slots Z ls r τ hcs hR hl hE hZ
  exact k D κ ρ A p l e R s m args below meth c hC H locs cells slots Z ls r τ ⟨by omega, by omega⟩ hR hl hE hZ

theorem X_iconst {n : Int} {v : Int32} (hd : decode cc pc = .ok (.iconst n, 1)) (hv : Int32.ofInt n = v) (k : X wf own cc nL ret d g (pc + 1) L (.int v :: st) σ E) : X wf own cc nL ret d g pc L st σ E := by
  intro D κ ρ A p l e R s m args below meth c hC H locs cells slots Z ls r τ hcs hR hl hE hZ
  exact lv_iconst hC.1 hC.2.1 hd hv (k D κ ρ A p l e R s m args below meth c hC H locs cells slots Z ls r τ hcs hR hl hE hZ)
theorem X_bipush {n : Int} {v : Int32} (hd : decode cc pc = .ok (.bipush n, 2)) (hv : (Int8.ofInt n).toInt32 = v) (k : X wf own cc nL ret d g (pc + 2) L (.int v :: st) σ E) : X wf own cc nL ret d g pc L st σ E := by
  intro D κ ρ A p l e R s m args below meth c hC H locs cells slots Z ls r τ hcs hR hl hE hZ
  exact lv_bipush hC.1 hC.2.1 hd hv (k D κ ρ A p l e R s m args below meth c hC H locs cells slots Z ls r τ hcs hR hl hE hZ)
theorem X_sipush {n : Int} {v : Int32} (hd : decode cc pc = .ok (.sipush n, 3)) (hv : (Int16.ofInt n).toInt32 = v) (k : X wf own cc nL ret d g (pc + 3) L (.int v :: st) σ E) : X wf own cc nL ret d g pc L st σ E := by
  intro D κ ρ A p l e R s m args below meth c hC H locs cells slots Z ls r τ hcs hR hl hE hZ
  exact lv_sipush hC.1 hC.2.1 hd hv (k D κ ρ A p l e R s m args below meth c hC H locs cells slots Z ls r τ hcs hR hl hE hZ)
theorem X_lconst {n : Fin 2} {v : Int64} (hd : decode cc pc = .ok (.lconst n, 1)) (hv : Int64.ofNat (n : Nat) = v) (k : X wf own cc nL ret d g (pc + 1) L (.long v :: st) σ E) : X wf own cc nL ret d g pc L st σ E := by
  intro D κ ρ A p l e R s m args below meth c hC H locs cells slots Z ls r τ hcs hR hl hE hZ
  exact lv_lconst hC.1 hC.2.1 hd hv (k D κ ρ A p l e R s m args below meth c hC H locs cells slots Z ls r τ hcs hR hl hE hZ)
theorem X_ldc {index : Nat} {v : Int32} (hd : decode cc pc = .ok (.ldc index, 2)) (hw : Cond.constant own index v ∈ GT) (k : X wf own cc nL ret d g (pc + 2) L (.int v :: st) σ E) : X wf own cc nL ret d g pc L st σ E := by
  intro D κ ρ A p l e R s m args below meth c hC H locs cells slots Z ls r τ hcs hR hl hE hZ
  exact lv_ldc hC.1 hC.2.1 hC.2.2.2.2.1 (hC.2.2.2.2.2.1 _ hw) hd (k D κ ρ A p l e R s m args below meth c hC H locs cells slots Z ls r τ hcs hR hl hE hZ)
theorem X_ldcw {index : Nat} {v : Int32} (hd : decode cc pc = .ok (.ldc_w index, 3)) (hw : Cond.constant own index v ∈ GT) (k : X wf own cc nL ret d g (pc + 3) L (.int v :: st) σ E) : X wf own cc nL ret d g pc L st σ E := by
  intro D κ ρ A p l e R s m args below meth c hC H locs cells slots Z ls r τ hcs hR hl hE hZ
  exact lv_ldcw hC.1 hC.2.1 hC.2.2.2.2.1 (hC.2.2.2.2.2.1 _ hw) hd (k D κ ρ A p l e R s m args below meth c hC H locs cells slots Z ls r τ hcs hR hl hE hZ)
theorem X_ldc2 {index : Nat} {v : Int64} (hd : decode cc pc = .ok (.ldc2_w index, 3)) (hw : Cond.constantLong own index v ∈ GT) (k : X wf own cc nL ret d g (pc + 3) L (.long v :: st) σ E) : X wf own cc nL ret d g pc L st σ E := by
  intro D κ ρ A p l e R s m args below meth c hC H locs cells slots Z ls r τ hcs hR hl hE hZ
  exact lv_ldc2 hC.1 hC.2.1 hC.2.2.2.2.1 (hC.2.2.2.2.2.1 _ hw) hd (k D κ ρ A p l e R s m args below meth c hC H locs cells slots Z ls r τ hcs hR hl hE hZ)
theorem X_iload_n {q : Fin 4} {i : Nat} {x : Int32} (hd : decode cc pc = .ok (.iload_n q, 1)) (hi : (q : Nat) = i) (j : Nat) (hj : L[j]? = some (i, .int x)) (k : X wf own cc nL ret d g (pc + 1) L (.int x :: st) σ E) : X wf own cc nL ret d g pc L st σ E := by
  intro D κ ρ A p l e R s m args below meth c hC H locs cells slots Z ls r τ hcs hR hl hE hZ
  exact lv_iload_n hC.1 hC.2.1 hd hi (lv_at hl j (trL_at hj)) (k D κ ρ A p l e R s m args below meth c hC H locs cells slots Z ls r τ hcs hR hl hE hZ)
theorem X_iload {i : Nat} {x : Int32} (hd : decode cc pc = .ok (.iload i, 2)) (j : Nat) (hj : L[j]? = some (i, .int x)) (k : X wf own cc nL ret d g (pc + 2) L (.int x :: st) σ E) : X wf own cc nL ret d g pc L st σ E := by
  intro D κ ρ A p l e R s m args below meth c hC H locs cells slots Z ls r τ hcs hR hl hE hZ
  exact lv_iload hC.1 hC.2.1 hd (lv_at hl j (trL_at hj)) (k D κ ρ A p l e R s m args below meth c hC H locs cells slots Z ls r τ hcs hR hl hE hZ)
theorem X_lload_n {q : Fin 4} {i : Nat} {x : Int64} (hd : decode cc pc = .ok (.lload_n q, 1)) (hi : (q : Nat) = i) (j : Nat) (hj : L[j]? = some (i, .long x)) (k : X wf own cc nL ret d g (pc + 1) L (.long x :: st) σ E) : X wf own cc nL ret d g pc L st σ E := by
  intro D κ ρ A p l e R s m args below meth c hC H locs cells slots Z ls r τ hcs hR hl hE hZ
  exact lv_lload_n hC.1 hC.2.1 hd hi (lv_at hl j (trL_at hj)) (k D κ ρ A p l e R s m args below meth c hC H locs cells slots Z ls r τ hcs hR hl hE hZ)
theorem X_lload {i : Nat} {x : Int64} (hd : decode cc pc = .ok (.lload i, 2)) (j : Nat) (hj : L[j]? = some (i, .long x)) (k : X wf own cc nL ret d g (pc + 2) L (.long x :: st) σ E) : X wf own cc nL ret d g pc L st σ E := by
  intro D κ ρ A p l e R s m args below meth c hC H locs cells slots Z ls r τ hcs hR hl hE hZ
  exact lv_lload hC.1 hC.2.1 hd (lv_at hl j (trL_at hj)) (k D κ ρ A p l e R s m args below meth c hC H locs cells slots Z ls r τ hcs hR hl hE hZ)
theorem X_aload_n {q : Fin 4} {i : Nat} {x : Nat} (hd : decode cc pc = .ok (.aload_n q, 1)) (hi : (q : Nat) = i) (j : Nat) (hj : L[j]? = some (i, .ref x)) (k : X wf own cc nL ret d g (pc + 1) L (.ref x :: st) σ E) : X wf own cc nL ret d g pc L st σ E := by
  intro D κ ρ A p l e R s m args below meth c hC H locs cells slots Z ls r τ hcs hR hl hE hZ
  exact lv_aload_n hC.1 hC.2.1 hd hi (lv_at hl j (trL_at hj)) (k D κ ρ A p l e R s m args below meth c hC H locs cells slots Z ls r τ hcs hR hl hE hZ)
theorem X_aload {i : Nat} {x : Nat} (hd : decode cc pc = .ok (.aload i, 2)) (j : Nat) (hj : L[j]? = some (i, .ref x)) (k : X wf own cc nL ret d g (pc + 2) L (.ref x :: st) σ E) : X wf own cc nL ret d g pc L st σ E := by
  intro D κ ρ A p l e R s m args below meth c hC H locs cells slots Z ls r τ hcs hR hl hE hZ
  exact lv_aload hC.1 hC.2.1 hd (lv_at hl j (trL_at hj)) (k D κ ρ A p l e R s m args below meth c hC H locs cells slots Z ls r τ hcs hR hl hE hZ)
theorem X_istore_n {q : Fin 4} {i : Nat} {x : Int32} (hd : decode cc pc = .ok (.istore_n q, 1)) (hi : (q : Nat) = i) (hn : i < nL) (hL : (i, Value.int x) :: L.filter (fun q => !(q.1 == i) && !(q.1 + 1 == i && q.2.category == 2)) = L') (k : X wf own cc nL ret d g (pc + 1) L' st σ E) : X wf own cc nL ret d g pc L (.int x :: st) σ E := by
  intro D κ ρ A p l e R s m args below meth c hC H locs cells slots Z ls r τ hcs hR hl hE hZ
  refine lv_istore_n (lv' := L'.map (trL ρ)) hC.1 hC.2.1 hd hi hl hn ?_ (fun ls hl => k D κ ρ A p l e R s m args below meth c hC H locs cells slots Z ls r τ hcs hR hl hE hZ)
  rw [← hL, List.map_cons, ← trL_filter (fun a b => !(a == i) && !(a + 1 == i && b == 2))]
  rfl
theorem X_istore {i : Nat} {x : Int32} (hd : decode cc pc = .ok (.istore i, 2)) (hn : i < nL) (hL : (i, Value.int x) :: L.filter (fun q => !(q.1 == i) && !(q.1 + 1 == i && q.2.category == 2)) = L') (k : X wf own cc nL ret d g (pc + 2) L' st σ E) : X wf own cc nL ret d g pc L (.int x :: st) σ E := by
  intro D κ ρ A p l e R s m args below meth c hC H locs cells slots Z ls r τ hcs hR hl hE hZ
  refine lv_istore (lv' := L'.map (trL ρ)) hC.1 hC.2.1 hd hl hn ?_ (fun ls hl => k D κ ρ A p l e R s m args below meth c hC H locs cells slots Z ls r τ hcs hR hl hE hZ)
  rw [← hL, List.map_cons, ← trL_filter (fun a b => !(a == i) && !(a + 1 == i && b == 2))]
  rfl
theorem X_lstore_n {q : Fin 4} {i : Nat} {x : Int64} (hd : decode cc pc = .ok (.lstore_n q, 1)) (hi : (q : Nat) = i) (hn : i + 1 < nL) (hL : (i, Value.long x) :: L.filter (fun q => !(q.1 == i) && (!(q.1 == i + 1) && !(q.1 + 1 == i && q.2.category == 2))) = L') (k : X wf own cc nL ret d g (pc + 1) L' st σ E) : X wf own cc nL ret d g pc L (.long x :: st) σ E := by
  intro D κ ρ A p l e R s m args below meth c hC H locs cells slots Z ls r τ hcs hR hl hE hZ
  refine lv_lstore_n (lv' := L'.map (trL ρ)) hC.1 hC.2.1 hd hi hl hn ?_ (fun ls hl => k D κ ρ A p l e R s m args below meth c hC H locs cells slots Z ls r τ hcs hR hl hE hZ)
  rw [← hL, List.map_cons, ← trL_filter (fun a b => !(a == i) && (!(a == i + 1) && !(a + 1 == i && b == 2)))]
  rfl
theorem X_lstore {i : Nat} {x : Int64} (hd : decode cc pc = .ok (.lstore i, 2)) (hn : i + 1 < nL) (hL : (i, Value.long x) :: L.filter (fun q => !(q.1 == i) && (!(q.1 == i + 1) && !(q.1 + 1 == i && q.2.category == 2))) = L') (k : X wf own cc nL ret d g (pc + 2) L' st σ E) : X wf own cc nL ret d g pc L (.long x :: st) σ E := by
  intro D κ ρ A p l e R s m args below meth c hC H locs cells slots Z ls r τ hcs hR hl hE hZ
  refine lv_lstore (lv' := L'.map (trL ρ)) hC.1 hC.2.1 hd hl hn ?_ (fun ls hl => k D κ ρ A p l e R s m args below meth c hC H locs cells slots Z ls r τ hcs hR hl hE hZ)
  rw [← hL, List.map_cons, ← trL_filter (fun a b => !(a == i) && (!(a == i + 1) && !(a + 1 == i && b == 2)))]
  rfl
theorem X_astore_n {q : Fin 4} {i : Nat} {x : Nat} (hd : decode cc pc = .ok (.astore_n q, 1)) (hi : (q : Nat) = i) (hn : i < nL) (hL : (i, Value.ref x) :: L.filter (fun q => !(q.1 == i) && !(q.1 + 1 == i && q.2.category == 2)) = L') (k : X wf own cc nL ret d g (pc + 1) L' st σ E) : X wf own cc nL ret d g pc L (.ref x :: st) σ E := by
  intro D κ ρ A p l e R s m args below meth c hC H locs cells slots Z ls r τ hcs hR hl hE hZ
  refine lv_astore_n (lv' := L'.map (trL ρ)) hC.1 hC.2.1 hd hi hl hn ?_ (fun ls hl => k D κ ρ A p l e R s m args below meth c hC H locs cells slots Z ls r τ hcs hR hl hE hZ)
  rw [← hL, List.map_cons, ← trL_filter (fun a b => !(a == i) && !(a + 1 == i && b == 2))]
  rfl
theorem X_astore {i : Nat} {x : Nat} (hd : decode cc pc = .ok (.astore i, 2)) (hn : i < nL) (hL : (i, Value.ref x) :: L.filter (fun q => !(q.1 == i) && !(q.1 + 1 == i && q.2.category == 2)) = L') (k : X wf own cc nL ret d g (pc + 2) L' st σ E) : X wf own cc nL ret d g pc L (.ref x :: st) σ E := by
  intro D κ ρ A p l e R s m args below meth c hC H locs cells slots Z ls r τ hcs hR hl hE hZ
  refine lv_astore (lv' := L'.map (trL ρ)) hC.1 hC.2.1 hd hl hn ?_ (fun ls hl => k D κ ρ A p l e R s m args below meth c hC H locs cells slots Z ls r τ hcs hR hl hE hZ)
  rw [← hL, List.map_cons, ← trL_filter (fun a b => !(a == i) && !(a + 1 == i && b == 2))]
  rfl
theorem X_iinc {i : Nat} {n : Int} {x v : Int32} (hd : decode cc pc = .ok (.iinc i n, 3)) (j : Nat) (hj : L[j]? = some (i, .int x)) (hv : x + Int32.ofInt n = v) (hn : i < nL) (hL : (i, Value.int v) :: L.filter (fun q => !(q.1 == i) && !(q.1 + 1 == i && q.2.category == 2)) = L') (k : X wf own cc nL ret d g (pc + 3) L' st σ E) : X wf own cc nL ret d g pc L st σ E := by
  intro D κ ρ A p l e R s m args below meth c hC H locs cells slots Z ls r τ hcs hR hl hE hZ
  refine lv_iinc (lv' := L'.map (trL ρ)) hC.1 hC.2.1 hd hl (k := j) (trL_at hj) hv hn ?_ (fun ls hl => k D κ ρ A p l e R s m args below meth c hC H locs cells slots Z ls r τ hcs hR hl hE hZ)
  rw [← hL, List.map_cons, ← trL_filter (fun a b => !(a == i) && !(a + 1 == i && b == 2))]
  rfl
theorem X_iadd {x y : Int32} (hd : decode cc pc = .ok (.iadd, 1)) (k : X wf own cc nL ret d g (pc + 1) L (.int (x + y) :: st) σ E) : X wf own cc nL ret d g pc L (.int y :: .int x :: st) σ E := by
  intro D κ ρ A p l e R s m args below meth c hC H locs cells slots Z ls r τ hcs hR hl hE hZ
  exact lv_iadd hC.1 hC.2.1 hd (k D κ ρ A p l e R s m args below meth c hC H locs cells slots Z ls r τ hcs hR hl hE hZ)
theorem X_isub {x y : Int32} (hd : decode cc pc = .ok (.isub, 1)) (k : X wf own cc nL ret d g (pc + 1) L (.int (x - y) :: st) σ E) : X wf own cc nL ret d g pc L (.int y :: .int x :: st) σ E := by
  intro D κ ρ A p l e R s m args below meth c hC H locs cells slots Z ls r τ hcs hR hl hE hZ
  exact lv_isub hC.1 hC.2.1 hd (k D κ ρ A p l e R s m args below meth c hC H locs cells slots Z ls r τ hcs hR hl hE hZ)
theorem X_imul {x y : Int32} (hd : decode cc pc = .ok (.imul, 1)) (k : X wf own cc nL ret d g (pc + 1) L (.int (x * y) :: st) σ E) : X wf own cc nL ret d g pc L (.int y :: .int x :: st) σ E := by
  intro D κ ρ A p l e R s m args below meth c hC H locs cells slots Z ls r τ hcs hR hl hE hZ
  exact lv_imul hC.1 hC.2.1 hd (k D κ ρ A p l e R s m args below meth c hC H locs cells slots Z ls r τ hcs hR hl hE hZ)
theorem X_iand {x y : Int32} (hd : decode cc pc = .ok (.iand, 1)) (k : X wf own cc nL ret d g (pc + 1) L (.int (x &&& y) :: st) σ E) : X wf own cc nL ret d g pc L (.int y :: .int x :: st) σ E := by
  intro D κ ρ A p l e R s m args below meth c hC H locs cells slots Z ls r τ hcs hR hl hE hZ
  exact lv_iand hC.1 hC.2.1 hd (k D κ ρ A p l e R s m args below meth c hC H locs cells slots Z ls r τ hcs hR hl hE hZ)
theorem X_ior {x y : Int32} (hd : decode cc pc = .ok (.ior, 1)) (k : X wf own cc nL ret d g (pc + 1) L (.int (x ||| y) :: st) σ E) : X wf own cc nL ret d g pc L (.int y :: .int x :: st) σ E := by
  intro D κ ρ A p l e R s m args below meth c hC H locs cells slots Z ls r τ hcs hR hl hE hZ
  exact lv_ior hC.1 hC.2.1 hd (k D κ ρ A p l e R s m args below meth c hC H locs cells slots Z ls r τ hcs hR hl hE hZ)
theorem X_ixor {x y : Int32} (hd : decode cc pc = .ok (.ixor, 1)) (k : X wf own cc nL ret d g (pc + 1) L (.int (x ^^^ y) :: st) σ E) : X wf own cc nL ret d g pc L (.int y :: .int x :: st) σ E := by
  intro D κ ρ A p l e R s m args below meth c hC H locs cells slots Z ls r τ hcs hR hl hE hZ
  exact lv_ixor hC.1 hC.2.1 hd (k D κ ρ A p l e R s m args below meth c hC H locs cells slots Z ls r τ hcs hR hl hE hZ)
theorem X_ishl {x y : Int32} (hd : decode cc pc = .ok (.ishl, 1)) (k : X wf own cc nL ret d g (pc + 1) L (.int (x <<< (y &&& 31)) :: st) σ E) : X wf own cc nL ret d g pc L (.int y :: .int x :: st) σ E := by
  intro D κ ρ A p l e R s m args below meth c hC H locs cells slots Z ls r τ hcs hR hl hE hZ
  exact lv_ishl hC.1 hC.2.1 hd (k D κ ρ A p l e R s m args below meth c hC H locs cells slots Z ls r τ hcs hR hl hE hZ)
theorem X_ishr {x y : Int32} (hd : decode cc pc = .ok (.ishr, 1)) (k : X wf own cc nL ret d g (pc + 1) L (.int (x >>> (y &&& 31)) :: st) σ E) : X wf own cc nL ret d g pc L (.int y :: .int x :: st) σ E := by
  intro D κ ρ A p l e R s m args below meth c hC H locs cells slots Z ls r τ hcs hR hl hE hZ
  exact lv_ishr hC.1 hC.2.1 hd (k D κ ρ A p l e R s m args below meth c hC H locs cells slots Z ls r τ hcs hR hl hE hZ)
theorem X_idiv {x y : Int32} (hd : decode cc pc = .ok (.idiv, 1)) (hne : ¬ y = 0) (k : X wf own cc nL ret d g (pc + 1) L (.int (x / y) :: st) σ E) : X wf own cc nL ret d g pc L (.int y :: .int x :: st) σ E := by
  intro D κ ρ A p l e R s m args below meth c hC H locs cells slots Z ls r τ hcs hR hl hE hZ
  exact lv_idiv hC.1 hC.2.1 hd hne (k D κ ρ A p l e R s m args below meth c hC H locs cells slots Z ls r τ hcs hR hl hE hZ)
theorem X_irem {x y : Int32} (hd : decode cc pc = .ok (.irem, 1)) (hne : ¬ y = 0) (k : X wf own cc nL ret d g (pc + 1) L (.int (x - x / y * y) :: st) σ E) : X wf own cc nL ret d g pc L (.int y :: .int x :: st) σ E := by
  intro D κ ρ A p l e R s m args below meth c hC H locs cells slots Z ls r τ hcs hR hl hE hZ
  exact lv_irem hC.1 hC.2.1 hd hne (k D κ ρ A p l e R s m args below meth c hC H locs cells slots Z ls r τ hcs hR hl hE hZ)
theorem X_ladd {x y : Int64} (hd : decode cc pc = .ok (.ladd, 1)) (k : X wf own cc nL ret d g (pc + 1) L (.long (x + y) :: st) σ E) : X wf own cc nL ret d g pc L (.long y :: .long x :: st) σ E := by
  intro D κ ρ A p l e R s m args below meth c hC H locs cells slots Z ls r τ hcs hR hl hE hZ
  exact lv_ladd hC.1 hC.2.1 hd (k D κ ρ A p l e R s m args below meth c hC H locs cells slots Z ls r τ hcs hR hl hE hZ)
theorem X_lsub {x y : Int64} (hd : decode cc pc = .ok (.lsub, 1)) (k : X wf own cc nL ret d g (pc + 1) L (.long (x - y) :: st) σ E) : X wf own cc nL ret d g pc L (.long y :: .long x :: st) σ E := by
  intro D κ ρ A p l e R s m args below meth c hC H locs cells slots Z ls r τ hcs hR hl hE hZ
  exact lv_lsub hC.1 hC.2.1 hd (k D κ ρ A p l e R s m args below meth c hC H locs cells slots Z ls r τ hcs hR hl hE hZ)
theorem X_lmul {x y : Int64} (hd : decode cc pc = .ok (.lmul, 1)) (k : X wf own cc nL ret d g (pc + 1) L (.long (x * y) :: st) σ E) : X wf own cc nL ret d g pc L (.long y :: .long x :: st) σ E := by
  intro D κ ρ A p l e R s m args below meth c hC H locs cells slots Z ls r τ hcs hR hl hE hZ
  exact lv_lmul hC.1 hC.2.1 hd (k D κ ρ A p l e R s m args below meth c hC H locs cells slots Z ls r τ hcs hR hl hE hZ)
theorem X_land {x y : Int64} (hd : decode cc pc = .ok (.land, 1)) (k : X wf own cc nL ret d g (pc + 1) L (.long (x &&& y) :: st) σ E) : X wf own cc nL ret d g pc L (.long y :: .long x :: st) σ E := by
  intro D κ ρ A p l e R s m args below meth c hC H locs cells slots Z ls r τ hcs hR hl hE hZ
  exact lv_land hC.1 hC.2.1 hd (k D κ ρ A p l e R s m args below meth c hC H locs cells slots Z ls r τ hcs hR hl hE hZ)
theorem X_lor {x y : Int64} (hd : decode cc pc = .ok (.lor, 1)) (k : X wf own cc nL ret d g (pc + 1) L (.long (x ||| y) :: st) σ E) : X wf own cc nL ret d g pc L (.long y :: .long x :: st) σ E := by
  intro D κ ρ A p l e R s m args below meth c hC H locs cells slots Z ls r τ hcs hR hl hE hZ
  exact lv_lor hC.1 hC.2.1 hd (k D κ ρ A p l e R s m args below meth c hC H locs cells slots Z ls r τ hcs hR hl hE hZ)
theorem X_ldiv {x y : Int64} (hd : decode cc pc = .ok (.ldiv, 1)) (hne : ¬ y = 0) (k : X wf own cc nL ret d g (pc + 1) L (.long (x / y) :: st) σ E) : X wf own cc nL ret d g pc L (.long y :: .long x :: st) σ E := by
  intro D κ ρ A p l e R s m args below meth c hC H locs cells slots Z ls r τ hcs hR hl hE hZ
  exact lv_ldiv hC.1 hC.2.1 hd hne (k D κ ρ A p l e R s m args below meth c hC H locs cells slots Z ls r τ hcs hR hl hE hZ)
theorem X_lrem {x y : Int64} (hd : decode cc pc = .ok (.lrem, 1)) (hne : ¬ y = 0) (k : X wf own cc nL ret d g (pc + 1) L (.long (x - x / y * y) :: st) σ E) : X wf own cc nL ret d g pc L (.long y :: .long x :: st) σ E := by
  intro D κ ρ A p l e R s m args below meth c hC H locs cells slots Z ls r τ hcs hR hl hE hZ
  exact lv_lrem hC.1 hC.2.1 hd hne (k D κ ρ A p l e R s m args below meth c hC H locs cells slots Z ls r τ hcs hR hl hE hZ)
theorem X_ineg {x : Int32} (hd : decode cc pc = .ok (.ineg, 1)) (k : X wf own cc nL ret d g (pc + 1) L (.int (-x) :: st) σ E) : X wf own cc nL ret d g pc L (.int x :: st) σ E := by
  intro D κ ρ A p l e R s m args below meth c hC H locs cells slots Z ls r τ hcs hR hl hE hZ
  exact lv_ineg hC.1 hC.2.1 hd (k D κ ρ A p l e R s m args below meth c hC H locs cells slots Z ls r τ hcs hR hl hE hZ)
def ushr (x y : Int32) : Int32 := (x.toUInt32 >>> (y.toUInt32 &&& Int32.toUInt32 31)).toInt32
def lshl (x : Int64) (y : Int32) : Int64 := x <<< (y.toInt64 &&& 63)
def lushr (x : Int64) (y : Int32) : Int64 := (x.toUInt64 >>> (y.toInt64.toUInt64 &&& Int64.toUInt64 63)).toInt64
theorem X_iushr {x y : Int32} (hd : decode cc pc = .ok (.iushr, 1)) (k : X wf own cc nL ret d g (pc + 1) L (.int (ushr x y) :: st) σ E) : X wf own cc nL ret d g pc L (.int y :: .int x :: st) σ E := by
  intro D κ ρ A p l e R s m args below meth c hC H locs cells slots Z ls r τ hcs hR hl hE hZ
  exact lv_iushr hC.1 hC.2.1 hd rfl (k D κ ρ A p l e R s m args below meth c hC H locs cells slots Z ls r τ hcs hR hl hE hZ)
theorem X_lshl {x : Int64} {y : Int32} (hd : decode cc pc = .ok (.lshl, 1)) (k : X wf own cc nL ret d g (pc + 1) L (.long (lshl x y) :: st) σ E) : X wf own cc nL ret d g pc L (.int y :: .long x :: st) σ E := by
  intro D κ ρ A p l e R s m args below meth c hC H locs cells slots Z ls r τ hcs hR hl hE hZ
  exact lv_lshl hC.1 hC.2.1 hd rfl (k D κ ρ A p l e R s m args below meth c hC H locs cells slots Z ls r τ hcs hR hl hE hZ)
theorem X_lushr {x : Int64} {y : Int32} (hd : decode cc pc = .ok (.lushr, 1)) (k : X wf own cc nL ret d g (pc + 1) L (.long (lushr x y) :: st) σ E) : X wf own cc nL ret d g pc L (.int y :: .long x :: st) σ E := by
  intro D κ ρ A p l e R s m args below meth c hC H locs cells slots Z ls r τ hcs hR hl hE hZ
  exact lv_lushr hC.1 hC.2.1 hd rfl (k D κ ρ A p l e R s m args below meth c hC H locs cells slots Z ls r τ hcs hR hl hE hZ)
theorem X_i2l {x : Int32} (hd : decode cc pc = .ok (.i2l, 1)) (k : X wf own cc nL ret d g (pc + 1) L (.long x.toInt64 :: st) σ E) : X wf own cc nL ret d g pc L (.int x :: st) σ E := by
  intro D κ ρ A p l e R s m args below meth c hC H locs cells slots Z ls r τ hcs hR hl hE hZ
  exact lv_i2l hC.1 hC.2.1 hd rfl (k D κ ρ A p l e R s m args below meth c hC H locs cells slots Z ls r τ hcs hR hl hE hZ)
theorem X_l2i {x : Int64} (hd : decode cc pc = .ok (.l2i, 1)) (k : X wf own cc nL ret d g (pc + 1) L (.int x.toInt32 :: st) σ E) : X wf own cc nL ret d g pc L (.long x :: st) σ E := by
  intro D κ ρ A p l e R s m args below meth c hC H locs cells slots Z ls r τ hcs hR hl hE hZ
  exact lv_l2i hC.1 hC.2.1 hd rfl (k D κ ρ A p l e R s m args below meth c hC H locs cells slots Z ls r τ hcs hR hl hE hZ)
theorem X_i2b {x : Int32} (hd : decode cc pc = .ok (.i2b, 1)) (k : X wf own cc nL ret d g (pc + 1) L (.int x.toInt8.toInt32 :: st) σ E) : X wf own cc nL ret d g pc L (.int x :: st) σ E := by
  intro D κ ρ A p l e R s m args below meth c hC H locs cells slots Z ls r τ hcs hR hl hE hZ
  exact lv_i2b hC.1 hC.2.1 hd rfl (k D κ ρ A p l e R s m args below meth c hC H locs cells slots Z ls r τ hcs hR hl hE hZ)
theorem X_i2s {x : Int32} (hd : decode cc pc = .ok (.i2s, 1)) (k : X wf own cc nL ret d g (pc + 1) L (.int x.toInt16.toInt32 :: st) σ E) : X wf own cc nL ret d g pc L (.int x :: st) σ E := by
  intro D κ ρ A p l e R s m args below meth c hC H locs cells slots Z ls r τ hcs hR hl hE hZ
  exact lv_i2s hC.1 hC.2.1 hd rfl (k D κ ρ A p l e R s m args below meth c hC H locs cells slots Z ls r τ hcs hR hl hE hZ)
theorem X_i2c {x : Int32} (hd : decode cc pc = .ok (.i2c, 1)) (k : X wf own cc nL ret d g (pc + 1) L (.int (x.toUInt32 % 65536).toInt32 :: st) σ E) : X wf own cc nL ret d g pc L (.int x :: st) σ E := by
  intro D κ ρ A p l e R s m args below meth c hC H locs cells slots Z ls r τ hcs hR hl hE hZ
  exact lv_i2c hC.1 hC.2.1 hd rfl (k D κ ρ A p l e R s m args below meth c hC H locs cells slots Z ls r τ hcs hR hl hE hZ)
theorem X_lcmp {x y : Int64} (hd : decode cc pc = .ok (.lcmp, 1)) (k : X wf own cc nL ret d g (pc + 1) L (.int (lg_cmp x y) :: st) σ E) : X wf own cc nL ret d g pc L (.long y :: .long x :: st) σ E := by
  intro D κ ρ A p l e R s m args below meth c hC H locs cells slots Z ls r τ hcs hR hl hE hZ
  exact W.lcmp hC.1 hC.2.1 hd (k D κ ρ A p l e R s m args below meth c hC H locs cells slots Z ls r τ hcs hR hl hE hZ)
theorem X_dup {v : Value} (hd : decode cc pc = .ok (.dup, 1)) (hv : v.category = 1) (k : X wf own cc nL ret d g (pc + 1) L (v :: v :: st) σ E) : X wf own cc nL ret d g pc L (v :: st) σ E := by
  intro D κ ρ A p l e R s m args below meth c hC H locs cells slots Z ls r τ hcs hR hl hE hZ
  exact lv_dup hC.1 hC.2.1 hd (by rw [tr_cat]; exact hv) (k D κ ρ A p l e R s m args below meth c hC H locs cells slots Z ls r τ hcs hR hl hE hZ)
theorem X_pop {v : Value} (hd : decode cc pc = .ok (.pop, 1)) (hv : v.category = 1) (k : X wf own cc nL ret d g (pc + 1) L st σ E) : X wf own cc nL ret d g pc L (v :: st) σ E := by
  intro D κ ρ A p l e R s m args below meth c hC H locs cells slots Z ls r τ hcs hR hl hE hZ
  exact lv_pop hC.1 hC.2.1 hd (by rw [tr_cat]; exact hv) (k D κ ρ A p l e R s m args below meth c hC H locs cells slots Z ls r τ hcs hR hl hE hZ)
theorem X_dup2 {v w : Value} (hd : decode cc pc = .ok (.dup2, 1)) (hv : v.category = 1) (hw : w.category = 1) (k : X wf own cc nL ret d g (pc + 1) L (v :: w :: v :: w :: st) σ E) : X wf own cc nL ret d g pc L (v :: w :: st) σ E := by
  intro D κ ρ A p l e R s m args below meth c hC H locs cells slots Z ls r τ hcs hR hl hE hZ
  exact lv_dup2_11 hC.1 hC.2.1 hd (by rw [tr_cat]; exact hv) (by rw [tr_cat]; exact hw) (k D κ ρ A p l e R s m args below meth c hC H locs cells slots Z ls r τ hcs hR hl hE hZ)
theorem X_goto {off : Int} {tgt : Nat} (hd : decode cc pc = .ok (.goto off, 3)) (ht : (pc : Int) + off = (tgt : Int)) (k : X wf own cc nL ret d g tgt L st σ E) : X wf own cc nL ret d g pc L st σ E := by
  intro D κ ρ A p l e R s m args below meth c hC H locs cells slots Z ls r τ hcs hR hl hE hZ
  exact lv_goto hC.1 hC.2.1 hd ht (k D κ ρ A p l e R s m args below meth c hC H locs cells slots Z ls r τ hcs hR hl hE hZ)
theorem X_icmp_eq {x y : Int32} {off : Int} {tgt : Nat} {E1 E2 : Option (Int32 × T)} (hd : decode cc pc = .ok (.if_icmp .eq off, 3)) (ht : (pc : Int) + off = (tgt : Int)) (kt : x = y → X wf own cc nL ret d g tgt L st σ E1) (kf : ¬ x = y → X wf own cc nL ret d g (pc + 3) L st σ E2) : X wf own cc nL ret d g pc L (.int y :: .int x :: st) σ (if x = y then E1 else E2) := by
  intro D κ ρ A p l e R s m args below meth c hC H locs cells slots Z ls r τ hcs hR hl hE hZ
  exact lv_icmp_eq hC.1 hC.2.1 hd ht (fun h => kt h D κ ρ A p l e R s m args below meth c hC H locs cells slots Z ls r τ hcs hR hl (by rw [if_pos h] at hE; exact hE) hZ) (fun h => kf h D κ ρ A p l e R s m args below meth c hC H locs cells slots Z ls r τ hcs hR hl (by rw [if_neg h] at hE; exact hE) hZ)
theorem X_icmp_ne {x y : Int32} {off : Int} {tgt : Nat} {E1 E2 : Option (Int32 × T)} (hd : decode cc pc = .ok (.if_icmp .ne off, 3)) (ht : (pc : Int) + off = (tgt : Int)) (kt : ¬ x = y → X wf own cc nL ret d g tgt L st σ E2) (kf : x = y → X wf own cc nL ret d g (pc + 3) L st σ E1) : X wf own cc nL ret d g pc L (.int y :: .int x :: st) σ (if x = y then E1 else E2) := by
  intro D κ ρ A p l e R s m args below meth c hC H locs cells slots Z ls r τ hcs hR hl hE hZ
  exact lv_icmp_ne hC.1 hC.2.1 hd ht (fun h => kt h D κ ρ A p l e R s m args below meth c hC H locs cells slots Z ls r τ hcs hR hl (by rw [if_neg h] at hE; exact hE) hZ) (fun h => kf h D κ ρ A p l e R s m args below meth c hC H locs cells slots Z ls r τ hcs hR hl (by rw [if_pos h] at hE; exact hE) hZ)
theorem X_icmp_lt {x y : Int32} {off : Int} {tgt : Nat} {E1 E2 : Option (Int32 × T)} (hd : decode cc pc = .ok (.if_icmp .lt off, 3)) (ht : (pc : Int) + off = (tgt : Int)) (kt : x < y → X wf own cc nL ret d g tgt L st σ E1) (kf : ¬ x < y → X wf own cc nL ret d g (pc + 3) L st σ E2) : X wf own cc nL ret d g pc L (.int y :: .int x :: st) σ (if x < y then E1 else E2) := by
  intro D κ ρ A p l e R s m args below meth c hC H locs cells slots Z ls r τ hcs hR hl hE hZ
  exact lv_icmp_lt hC.1 hC.2.1 hd ht (fun h => kt h D κ ρ A p l e R s m args below meth c hC H locs cells slots Z ls r τ hcs hR hl (by rw [if_pos h] at hE; exact hE) hZ) (fun h => kf h D κ ρ A p l e R s m args below meth c hC H locs cells slots Z ls r τ hcs hR hl (by rw [if_neg h] at hE; exact hE) hZ)
theorem X_icmp_ge {x y : Int32} {off : Int} {tgt : Nat} {E1 E2 : Option (Int32 × T)} (hd : decode cc pc = .ok (.if_icmp .ge off, 3)) (ht : (pc : Int) + off = (tgt : Int)) (kt : ¬ x < y → X wf own cc nL ret d g tgt L st σ E2) (kf : x < y → X wf own cc nL ret d g (pc + 3) L st σ E1) : X wf own cc nL ret d g pc L (.int y :: .int x :: st) σ (if x < y then E1 else E2) := by
  intro D κ ρ A p l e R s m args below meth c hC H locs cells slots Z ls r τ hcs hR hl hE hZ
  exact lv_icmp_ge hC.1 hC.2.1 hd ht (fun h => kt (Int32.not_lt.mpr h) D κ ρ A p l e R s m args below meth c hC H locs cells slots Z ls r τ hcs hR hl (by rw [if_neg (Int32.not_lt.mpr h)] at hE; exact hE) hZ) (fun h => kf (Decidable.of_not_not (fun q => h (Int32.not_lt.mp q))) D κ ρ A p l e R s m args below meth c hC H locs cells slots Z ls r τ hcs hR hl (by rw [if_pos (Decidable.of_not_not (fun q => h (Int32.not_lt.mp q)))] at hE; exact hE) hZ)
theorem X_icmp_gt {x y : Int32} {off : Int} {tgt : Nat} {E1 E2 : Option (Int32 × T)} (hd : decode cc pc = .ok (.if_icmp .gt off, 3)) (ht : (pc : Int) + off = (tgt : Int)) (kt : y < x → X wf own cc nL ret d g tgt L st σ E1) (kf : ¬ y < x → X wf own cc nL ret d g (pc + 3) L st σ E2) : X wf own cc nL ret d g pc L (.int y :: .int x :: st) σ (if y < x then E1 else E2) := by
  intro D κ ρ A p l e R s m args below meth c hC H locs cells slots Z ls r τ hcs hR hl hE hZ
  exact lv_icmp_gt hC.1 hC.2.1 hd ht (fun h => kt h D κ ρ A p l e R s m args below meth c hC H locs cells slots Z ls r τ hcs hR hl (by rw [if_pos h] at hE; exact hE) hZ) (fun h => kf h D κ ρ A p l e R s m args below meth c hC H locs cells slots Z ls r τ hcs hR hl (by rw [if_neg h] at hE; exact hE) hZ)
theorem X_icmp_le {x y : Int32} {off : Int} {tgt : Nat} {E1 E2 : Option (Int32 × T)} (hd : decode cc pc = .ok (.if_icmp .le off, 3)) (ht : (pc : Int) + off = (tgt : Int)) (kt : ¬ y < x → X wf own cc nL ret d g tgt L st σ E2) (kf : y < x → X wf own cc nL ret d g (pc + 3) L st σ E1) : X wf own cc nL ret d g pc L (.int y :: .int x :: st) σ (if y < x then E1 else E2) := by
  intro D κ ρ A p l e R s m args below meth c hC H locs cells slots Z ls r τ hcs hR hl hE hZ
  exact lv_icmp_le hC.1 hC.2.1 hd ht (fun h => kt (Int32.not_lt.mpr h) D κ ρ A p l e R s m args below meth c hC H locs cells slots Z ls r τ hcs hR hl (by rw [if_neg (Int32.not_lt.mpr h)] at hE; exact hE) hZ) (fun h => kf (Decidable.of_not_not (fun q => h (Int32.not_lt.mp q))) D κ ρ A p l e R s m args below meth c hC H locs cells slots Z ls r τ hcs hR hl (by rw [if_pos (Decidable.of_not_not (fun q => h (Int32.not_lt.mp q)))] at hE; exact hE) hZ)
theorem X_if_eq {x : Int32} {off : Int} {tgt : Nat} {E1 E2 : Option (Int32 × T)} (hd : decode cc pc = .ok (.ifCond .eq off, 3)) (ht : (pc : Int) + off = (tgt : Int)) (kt : x = 0 → X wf own cc nL ret d g tgt L st σ E1) (kf : ¬ x = 0 → X wf own cc nL ret d g (pc + 3) L st σ E2) : X wf own cc nL ret d g pc L (.int x :: st) σ (if x = 0 then E1 else E2) := by
  intro D κ ρ A p l e R s m args below meth c hC H locs cells slots Z ls r τ hcs hR hl hE hZ
  exact lv_if_eq hC.1 hC.2.1 hd ht (fun h => kt h D κ ρ A p l e R s m args below meth c hC H locs cells slots Z ls r τ hcs hR hl (by rw [if_pos h] at hE; exact hE) hZ) (fun h => kf h D κ ρ A p l e R s m args below meth c hC H locs cells slots Z ls r τ hcs hR hl (by rw [if_neg h] at hE; exact hE) hZ)
theorem X_if_ne {x : Int32} {off : Int} {tgt : Nat} {E1 E2 : Option (Int32 × T)} (hd : decode cc pc = .ok (.ifCond .ne off, 3)) (ht : (pc : Int) + off = (tgt : Int)) (kt : ¬ x = 0 → X wf own cc nL ret d g tgt L st σ E2) (kf : x = 0 → X wf own cc nL ret d g (pc + 3) L st σ E1) : X wf own cc nL ret d g pc L (.int x :: st) σ (if x = 0 then E1 else E2) := by
  intro D κ ρ A p l e R s m args below meth c hC H locs cells slots Z ls r τ hcs hR hl hE hZ
  exact lv_if_ne hC.1 hC.2.1 hd ht (fun h => kt h D κ ρ A p l e R s m args below meth c hC H locs cells slots Z ls r τ hcs hR hl (by rw [if_neg h] at hE; exact hE) hZ) (fun h => kf h D κ ρ A p l e R s m args below meth c hC H locs cells slots Z ls r τ hcs hR hl (by rw [if_pos h] at hE; exact hE) hZ)
theorem X_if_lt {x : Int32} {off : Int} {tgt : Nat} {E1 E2 : Option (Int32 × T)} (hd : decode cc pc = .ok (.ifCond .lt off, 3)) (ht : (pc : Int) + off = (tgt : Int)) (kt : x < 0 → X wf own cc nL ret d g tgt L st σ E1) (kf : ¬ x < 0 → X wf own cc nL ret d g (pc + 3) L st σ E2) : X wf own cc nL ret d g pc L (.int x :: st) σ (if x < 0 then E1 else E2) := by
  intro D κ ρ A p l e R s m args below meth c hC H locs cells slots Z ls r τ hcs hR hl hE hZ
  exact lv_if_lt hC.1 hC.2.1 hd ht (fun h => kt h D κ ρ A p l e R s m args below meth c hC H locs cells slots Z ls r τ hcs hR hl (by rw [if_pos h] at hE; exact hE) hZ) (fun h => kf h D κ ρ A p l e R s m args below meth c hC H locs cells slots Z ls r τ hcs hR hl (by rw [if_neg h] at hE; exact hE) hZ)
theorem X_if_ge {x : Int32} {off : Int} {tgt : Nat} {E1 E2 : Option (Int32 × T)} (hd : decode cc pc = .ok (.ifCond .ge off, 3)) (ht : (pc : Int) + off = (tgt : Int)) (kt : ¬ x < 0 → X wf own cc nL ret d g tgt L st σ E2) (kf : x < 0 → X wf own cc nL ret d g (pc + 3) L st σ E1) : X wf own cc nL ret d g pc L (.int x :: st) σ (if x < 0 then E1 else E2) := by
  intro D κ ρ A p l e R s m args below meth c hC H locs cells slots Z ls r τ hcs hR hl hE hZ
  exact lv_if_ge hC.1 hC.2.1 hd ht (fun h => kt (Int32.not_lt.mpr h) D κ ρ A p l e R s m args below meth c hC H locs cells slots Z ls r τ hcs hR hl (by rw [if_neg (Int32.not_lt.mpr h)] at hE; exact hE) hZ) (fun h => kf (Decidable.of_not_not (fun q => h (Int32.not_lt.mp q))) D κ ρ A p l e R s m args below meth c hC H locs cells slots Z ls r τ hcs hR hl (by rw [if_pos (Decidable.of_not_not (fun q => h (Int32.not_lt.mp q)))] at hE; exact hE) hZ)
theorem X_if_gt {x : Int32} {off : Int} {tgt : Nat} {E1 E2 : Option (Int32 × T)} (hd : decode cc pc = .ok (.ifCond .gt off, 3)) (ht : (pc : Int) + off = (tgt : Int)) (kt : 0 < x → X wf own cc nL ret d g tgt L st σ E1) (kf : ¬ 0 < x → X wf own cc nL ret d g (pc + 3) L st σ E2) : X wf own cc nL ret d g pc L (.int x :: st) σ (if 0 < x then E1 else E2) := by
  intro D κ ρ A p l e R s m args below meth c hC H locs cells slots Z ls r τ hcs hR hl hE hZ
  exact lv_if_gt hC.1 hC.2.1 hd ht (fun h => kt h D κ ρ A p l e R s m args below meth c hC H locs cells slots Z ls r τ hcs hR hl (by rw [if_pos h] at hE; exact hE) hZ) (fun h => kf h D κ ρ A p l e R s m args below meth c hC H locs cells slots Z ls r τ hcs hR hl (by rw [if_neg h] at hE; exact hE) hZ)
theorem X_if_le {x : Int32} {off : Int} {tgt : Nat} {E1 E2 : Option (Int32 × T)} (hd : decode cc pc = .ok (.ifCond .le off, 3)) (ht : (pc : Int) + off = (tgt : Int)) (kt : ¬ 0 < x → X wf own cc nL ret d g tgt L st σ E2) (kf : 0 < x → X wf own cc nL ret d g (pc + 3) L st σ E1) : X wf own cc nL ret d g pc L (.int x :: st) σ (if 0 < x then E1 else E2) := by
  intro D κ ρ A p l e R s m args below meth c hC H locs cells slots Z ls r τ hcs hR hl hE hZ
  exact lv_if_le hC.1 hC.2.1 hd ht (fun h => kt (Int32.not_lt.mpr h) D κ ρ A p l e R s m args below meth c hC H locs cells slots Z ls r τ hcs hR hl (by rw [if_neg (Int32.not_lt.mpr h)] at hE; exact hE) hZ) (fun h => kf (Decidable.of_not_not (fun q => h (Int32.not_lt.mp q))) D κ ρ A p l e R s m args below meth c hC H locs cells slots Z ls r τ hcs hR hl (by rw [if_pos (Decidable.of_not_not (fun q => h (Int32.not_lt.mp q)))] at hE; exact hE) hZ)
theorem X_ifnull {x : Nat} {off : Int} (hd : decode cc pc = .ok (.ifnull off, 3)) (k : X wf own cc nL ret d g (pc + 3) L st σ E) : X wf own cc nL ret d g pc L (.ref x :: st) σ E := by
  intro D κ ρ A p l e R s m args below meth c hC H locs cells slots Z ls r τ hcs hR hl hE hZ
  exact lv_ifnull hC.1 hC.2.1 hd (k D κ ρ A p l e R s m args below meth c hC H locs cells slots Z ls r τ hcs hR hl hE hZ)
theorem X_ifnonnull {x : Nat} {off : Int} {tgt : Nat} (hd : decode cc pc = .ok (.ifnonnull off, 3)) (ht : (pc : Int) + off = (tgt : Int)) (k : X wf own cc nL ret d g tgt L st σ E) : X wf own cc nL ret d g pc L (.ref x :: st) σ E := by
  intro D κ ρ A p l e R s m args below meth c hC H locs cells slots Z ls r τ hcs hR hl hE hZ
  exact lv_ifnonnull hC.1 hC.2.1 hd ht (k D κ ρ A p l e R s m args below meth c hC H locs cells slots Z ls r τ hcs hR hl hE hZ)
theorem X_ret {v : Int32} {ty : FieldType} (hd : decode cc pc = .ok (.ireturn, 1)) (hn : narrow ty (.int v) = .int v) : X wf own cc nL (some ty) d g pc L [.int v] σ (some (v, σ)) := by
  intro D κ ρ A p l e R s m args below meth c hC H locs cells slots Z ls r τ hcs hR hl hE hZ
  cases hE
  exact hZ H locs cells slots pc ls ⟨by omega, by omega⟩ hR hn hd
theorem X_retv (hd : decode cc pc = .ok (.return_, 1)) : X wf own cc nL none d g pc L [] σ (some (0, σ)) := by
  intro D κ ρ A p l e R s m args below meth c hC H locs cells slots Z ls r τ hcs hR hl hE hZ
  cases hE
  exact hZ H locs cells slots pc ls ⟨by omega, by omega⟩ hR hd
theorem X_mmax {x y : Int32} {index : Nat} (hd : decode cc pc = .ok (.invokestatic index, 3)) (hlink : Cond.methodLink own index Lib.Math.max.name ∈ GT) (h1 : 1 ≤ d) (hs : (st.map fun v => v.category).sum ≤ 8) (k : X wf own cc nL ret d g (pc + 3) L (.int (if x < y then y else x) :: st) σ E) : X wf own cc nL ret d g pc L (.int y :: .int x :: st) σ E := by
  intro D κ ρ A p l e R s m args below meth c hC H locs cells slots Z ls r τ hcs hR hl hE hZ
  obtain ⟨hx, hb, -, hml, hown, hts, -, hfr, hlo, -, -⟩ := id hC
  exact va_mmax hx hb (by rw [hml, hl.1]) hown (hts _ hlink) (hts _ mw_max_1) (hts _ mw_0) (hts _ mw_max_2) (by omega) (by have := tr_sum ρ st; rw [this]; omega) (by omega) (by omega) hd (k D κ ρ A p l e R s m args below meth c hC H locs cells slots Z ls r τ hcs hR hl hE hZ)
theorem X_mmin {x y : Int32} {index : Nat} (hd : decode cc pc = .ok (.invokestatic index, 3)) (hlink : Cond.methodLink own index Lib.Math.min.name ∈ GT) (h1 : 1 ≤ d) (hs : (st.map fun v => v.category).sum ≤ 8) (k : X wf own cc nL ret d g (pc + 3) L (.int (if y < x then y else x) :: st) σ E) : X wf own cc nL ret d g pc L (.int y :: .int x :: st) σ E := by
  intro D κ ρ A p l e R s m args below meth c hC H locs cells slots Z ls r τ hcs hR hl hE hZ
  obtain ⟨hx, hb, -, hml, hown, hts, -, hfr, hlo, -, -⟩ := id hC
  exact va_mmin hx hb (by rw [hml, hl.1]) hown (hts _ hlink) (hts _ mw_min_1) (hts _ mw_0) (hts _ mw_min_2) (by omega) (by have := tr_sum ρ st; rw [this]; omega) (by omega) (by omega) hd (k D κ ρ A p l e R s m args below meth c hC H locs cells slots Z ls r τ hcs hR hl hE hZ)
end XR
end
section
/-- a field's link and place -/
def FLk (own : String) (index ci k : Nat) (ty : FieldType) (fin : Bool) : Prop := ∃ (C : String) (T : u_T) (N : Nat) (ty0 : Nat → FieldType), vwCl[ci]? = some (C, T, N) ∧ k < N ∧ Cond.fieldLink own index C (T k).2.1 (T k).2.2.1 ∈ GT ∧ (∀ w ∈ u_ws C T N, w ∈ GT) ∧ (∀ k, k < N → parseFieldDescriptor (T k).2.2.1 = some (ty0 k)) ∧ (∀ a, a < N → ∀ b, b < N → a ≠ b → (T a).2.1 ≠ (T b).2.1) ∧ (T k).1 = C ∧ parseFieldDescriptor (T k).2.2.1 = some ty ∧ (T k).2.2.2 = fin
section XS
variable {S : List Sh} {own : String} {cc : ByteArray} {nL : Nat} {ret : Option FieldType} {d g : Nat} {pc : Nat} {L : List (Nat × Value)} {st : List Value} {σ : Mm} {E : Option (Int32 × Mm)} {F : Mm → Option (Int32 × Mm)} {a ci index n z : Nat} {fds : List Fq} {ty : FieldType} {fin : Bool} {r : Nat → Nat} {i : Int32}
theorem X_get {k : Nat} {dd : Fq} {v : Value} (hs : S[a]? = some (.inr (ci, fds))) (hf : fds[k]? = some dd) (fk : FLk own index ci k ty fin) (hv : ∀ ρ, fdV ρ σ a k dd = tr ρ v) (hd : decode cc pc = .ok (.getfield index, 3)) (kk : X (wsOf S) own cc nL ret d g (pc + 3) L (v :: st) σ E) : X (wsOf S) own cc nL ret d g pc L (.ref a :: st) σ E := by
  intro D κ ρ A p l e R s m args below meth c hC H locs cells slots Z ls r τ hcs hR hl hE hZ
  obtain ⟨C, T, N, ty0, h1, h2, h3, h4, -, -, h7, -, -⟩ := fk
  obtain ⟨hx, hb, -, hml, hown, hts, -, hfr, hlo, hK, hA⟩ := id hC
  exact va_get (ref := C) hx hb hts h4 hown hK hR.1 a (ws_get hs) h1 k h2 (hts _ h3) (fun x h => by rw [h7] at h; exact h) (v := tr ρ v) (by rw [List.getElem?_mapIdx, hf, ← hv ρ]; rfl) hd (kk D κ ρ A p l e R s m args below meth c hC H locs cells slots Z ls r τ hcs hR hl hE hZ)
theorem X_getI {k : Nat} (hs : S[a]? = some (.inr (ci, fds))) (hf : fds[k]? = some (0, z)) (fk : FLk own index ci k ty fin) (hd : decode cc pc = .ok (.getfield index, 3)) (kk : X (wsOf S) own cc nL ret d g (pc + 3) L (.int (gI σ a k) :: st) σ E) : X (wsOf S) own cc nL ret d g pc L (.ref a :: st) σ E := X_get hs hf fk (fun _ => rfl) hd kk
theorem X_getL {k : Nat} (hs : S[a]? = some (.inr (ci, fds))) (hf : fds[k]? = some (1, z)) (fk : FLk own index ci k ty fin) (hd : decode cc pc = .ok (.getfield index, 3)) (kk : X (wsOf S) own cc nL ret d g (pc + 3) L (.long (gL σ a k) :: st) σ E) : X (wsOf S) own cc nL ret d g pc L (.ref a :: st) σ E := X_get hs hf fk (fun _ => rfl) hd kk
theorem X_getR {k : Nat} (hs : S[a]? = some (.inr (ci, fds))) (hf : fds[k]? = some (2, z)) (fk : FLk own index ci k ty fin) (hd : decode cc pc = .ok (.getfield index, 3)) (kk : X (wsOf S) own cc nL ret d g (pc + 3) L (.ref (gR σ a k) :: st) σ E) : X (wsOf S) own cc nL ret d g pc L (.ref a :: st) σ E := X_get hs hf fk (fun _ => rfl) hd kk
theorem X_getF {k b : Nat} (hs : S[a]? = some (.inr (ci, fds))) (hf : fds[k]? = some (3, b)) (fk : FLk own index ci k ty fin) (hd : decode cc pc = .ok (.getfield index, 3)) (kk : X (wsOf S) own cc nL ret d g (pc + 3) L (.ref b :: st) σ E) : X (wsOf S) own cc nL ret d g pc L (.ref a :: st) σ E := X_get hs hf fk (fun _ => rfl) hd kk
theorem X_putI {k : Nat} {v : Int32} (hs : S[a]? = some (.inr (ci, fds))) (hf : fds[k]? = some (0, z)) (fk : FLk own index ci k ty false) (hn : narrow ty (.int v) = .int v) (hfit : fits ty (.int v) = true) (hd : decode cc pc = .ok (.putfield index, 3)) (kk : ∀ σ, X (wsOf S) own cc nL ret d g (pc + 3) L st σ (F σ)) : X (wsOf S) own cc nL ret d g pc L (.int v :: .ref a :: st) σ (bn (pI σ a k v) F) := by
  intro D κ ρ A p l e R s m args below meth c hC H locs cells slots Z ls r τ hcs hR hl hE hZ
  obtain ⟨C, T, N, ty0, h1, h2, h3, h4, h5, h6, h7, h8, h9⟩ := fk
  obtain ⟨hx, hb, -, hml, hown, hts, -, hfr, hlo, hK, hA⟩ := id hC
  refine va_put (ref := C) hx hb hts h4 ty0 h5 h6 hown hK hR.1 hR.2.1 hR.2.2 a (ws_get hs) h1 k h2 (hts _ h3) (fun x h => by rw [h7] at h; exact h) h9 h8 hn hfit (by rw [List.length_mapIdx]; exact (List.getElem?_eq_some_iff.mp hf).1) hd (fun H1 locs1 hP hD hS => ?_)
  have hP : va_P D vwCl ((wsOf S κ ρ σ).set a (ρ a, .inr (ci, (fds.mapIdx (fdV ρ σ a)).set k (.int v)))) H1 := hP
  have hD : va_D A ((wsOf S κ ρ σ).set a (ρ a, .inr (ci, (fds.mapIdx (fdV ρ σ a)).set k (.int v)))) := hD
  rw [← ws_pIo hs hf] at hP hD
  exact kk (pI σ a k v) D κ ρ A p l e R s m args below meth c hC H1 locs1 cells slots Z ls r τ hcs ⟨hP, hD, hS⟩ hl hE hZ
theorem X_putL {k : Nat} {v : Int64} (hs : S[a]? = some (.inr (ci, fds))) (hf : fds[k]? = some (1, z)) (fk : FLk own index ci k .long false) (hd : decode cc pc = .ok (.putfield index, 3)) (kk : ∀ σ, X (wsOf S) own cc nL ret d g (pc + 3) L st σ (F σ)) : X (wsOf S) own cc nL ret d g pc L (.long v :: .ref a :: st) σ (bn (pL σ a k v) F) := by
  intro D κ ρ A p l e R s m args below meth c hC H locs cells slots Z ls r τ hcs hR hl hE hZ
  obtain ⟨C, T, N, ty0, h1, h2, h3, h4, h5, h6, h7, h8, h9⟩ := fk
  obtain ⟨hx, hb, -, hml, hown, hts, -, hfr, hlo, hK, hA⟩ := id hC
  refine va_put (ref := C) hx hb hts h4 ty0 h5 h6 hown hK hR.1 hR.2.1 hR.2.2 a (ws_get hs) h1 k h2 (hts _ h3) (fun x h => by rw [h7] at h; exact h) h9 h8 (v := .long v) rfl rfl (by rw [List.length_mapIdx]; exact (List.getElem?_eq_some_iff.mp hf).1) hd (fun H1 locs1 hP hD hS => ?_)
  rw [← ws_pLo hs hf] at hP hD
  exact kk (pL σ a k v) D κ ρ A p l e R s m args below meth c hC H1 locs1 cells slots Z ls r τ hcs ⟨hP, hD, hS⟩ hl hE hZ
theorem X_putR {k v : Nat} {C0 : String} (hs : S[a]? = some (.inr (ci, fds))) (hf : fds[k]? = some (2, z)) (fk : FLk own index ci k (.object C0) false) (hd : decode cc pc = .ok (.putfield index, 3)) (kk : ∀ σ, X (wsOf S) own cc nL ret d g (pc + 3) L st σ (F σ)) : X (wsOf S) own cc nL ret d g pc L (.ref v :: .ref a :: st) σ (bn (pR σ a k v) F) := by
  intro D κ ρ A p l e R s m args below meth c hC H locs cells slots Z ls r τ hcs hR hl hE hZ
  obtain ⟨C, T, N, ty0, h1, h2, h3, h4, h5, h6, h7, h8, h9⟩ := fk
  obtain ⟨hx, hb, -, hml, hown, hts, -, hfr, hlo, hK, hA⟩ := id hC
  refine va_put (ref := C) hx hb hts h4 ty0 h5 h6 hown hK hR.1 hR.2.1 hR.2.2 a (ws_get hs) h1 k h2 (hts _ h3) (fun x h => by rw [h7] at h; exact h) h9 h8 (v := .ref (ρ v)) rfl rfl (by rw [List.length_mapIdx]; exact (List.getElem?_eq_some_iff.mp hf).1) hd (fun H1 locs1 hP hD hS => ?_)
  rw [← ws_pRo hs hf] at hP hD
  exact kk (pR σ a k v) D κ ρ A p l e R s m args below meth c hC H1 locs1 cells slots Z ls r τ hcs ⟨hP, hD, hS⟩ hl hE hZ
theorem X_iald (hs : S[a]? = some (.inl (.int, n, r))) (hd : decode cc pc = .ok (.iaload, 1)) (kk : X (wsOf S) own cc nL ret d g (pc + 1) L (.int (gI σ a i.toNatClampNeg) :: st) σ E) : X (wsOf S) own cc nL ret d g pc L (.int i :: .ref a :: st) σ (ck (inb i n) E) := by
  refine X_ck (fun hi => ?_)
  intro D κ ρ A p l e R s m args below meth c hC H locs cells slots Z ls rr τ hcs hR hl hE hZ
  obtain ⟨hx, hb, -, hml, hown, hts, -, hfr, hlo, hK, hA⟩ := id hC
  exact va_iald hx hb hK hR.1 a 0 (ws_get hs) rfl (inb_in hi) hd (kk D κ ρ A p l e R s m args below meth c hC H locs cells slots Z ls rr τ hcs hR hl hE hZ)
theorem X_bald (hs : S[a]? = some (.inl (.byte, n, r))) (hd : decode cc pc = .ok (.baload, 1)) (kk : X (wsOf S) own cc nL ret d g (pc + 1) L (.int (gI σ a i.toNatClampNeg) :: st) σ E) : X (wsOf S) own cc nL ret d g pc L (.int i :: .ref a :: st) σ (ck (inb i n) E) := by
  refine X_ck (fun hi => ?_)
  intro D κ ρ A p l e R s m args below meth c hC H locs cells slots Z ls rr τ hcs hR hl hE hZ
  obtain ⟨hx, hb, -, hml, hown, hts, -, hfr, hlo, hK, hA⟩ := id hC
  exact va_bald hx hb hK hR.1 a 2 (ws_get hs) rfl (inb_in hi) hd (kk D κ ρ A p l e R s m args below meth c hC H locs cells slots Z ls rr τ hcs hR hl hE hZ)
theorem X_zald (hs : S[a]? = some (.inl (.boolean, n, r))) (hd : decode cc pc = .ok (.baload, 1)) (kk : X (wsOf S) own cc nL ret d g (pc + 1) L (.int (gI σ a i.toNatClampNeg) :: st) σ E) : X (wsOf S) own cc nL ret d g pc L (.int i :: .ref a :: st) σ (ck (inb i n) E) := by
  refine X_ck (fun hi => ?_)
  intro D κ ρ A p l e R s m args below meth c hC H locs cells slots Z ls rr τ hcs hR hl hE hZ
  obtain ⟨hx, hb, -, hml, hown, hts, -, hfr, hlo, hK, hA⟩ := id hC
  exact va_zald hx hb hK hR.1 a 4 (ws_get hs) rfl (inb_in hi) hd (kk D κ ρ A p l e R s m args below meth c hC H locs cells slots Z ls rr τ hcs hR hl hE hZ)
theorem X_sald (hs : S[a]? = some (.inl (.short, n, r))) (hd : decode cc pc = .ok (.saload, 1)) (kk : X (wsOf S) own cc nL ret d g (pc + 1) L (.int (gI σ a i.toNatClampNeg) :: st) σ E) : X (wsOf S) own cc nL ret d g pc L (.int i :: .ref a :: st) σ (ck (inb i n) E) := by
  refine X_ck (fun hi => ?_)
  intro D κ ρ A p l e R s m args below meth c hC H locs cells slots Z ls rr τ hcs hR hl hE hZ
  obtain ⟨hx, hb, -, hml, hown, hts, -, hfr, hlo, hK, hA⟩ := id hC
  exact va_sald hx hb hK hR.1 a 3 (ws_get hs) rfl (inb_in hi) hd (kk D κ ρ A p l e R s m args below meth c hC H locs cells slots Z ls rr τ hcs hR hl hE hZ)
theorem X_lald (hs : S[a]? = some (.inl (.long, n, r))) (hd : decode cc pc = .ok (.laload, 1)) (kk : X (wsOf S) own cc nL ret d g (pc + 1) L (.long (gL σ a i.toNatClampNeg) :: st) σ E) : X (wsOf S) own cc nL ret d g pc L (.int i :: .ref a :: st) σ (ck (inb i n) E) := by
  refine X_ck (fun hi => ?_)
  intro D κ ρ A p l e R s m args below meth c hC H locs cells slots Z ls rr τ hcs hR hl hE hZ
  obtain ⟨hx, hb, -, hml, hown, hts, -, hfr, hlo, hK, hA⟩ := id hC
  exact va_lald hx hb hK hR.1 a 1 (ws_get hs) rfl (inb_in hi) hd (kk D κ ρ A p l e R s m args below meth c hC H locs cells slots Z ls rr τ hcs hR hl hE hZ)
theorem X_aald {C0 : String} (t0 : Nat) (ht : ∀ κ, (tysOf κ)[t0]? = some (κ (.object C0), .object C0)) (hs : S[a]? = some (.inl (.object C0, n, r))) (hd : decode cc pc = .ok (.aaload, 1)) (kk : X (wsOf S) own cc nL ret d g (pc + 1) L (.ref (r i.toNatClampNeg) :: st) σ E) : X (wsOf S) own cc nL ret d g pc L (.int i :: .ref a :: st) σ (ck (inb i n) E) := by
  refine X_ck (fun hi => ?_)
  intro D κ ρ A p l e R s m args below meth c hC H locs cells slots Z ls rr τ hcs hR hl hE hZ
  obtain ⟨hx, hb, -, hml, hown, hts, -, hfr, hlo, hK, hA⟩ := id hC
  exact va_aldq hx hb hK hR.1 a t0 (ws_get hs) (ht κ) (inb_in hi) hd (kk D κ ρ A p l e R s m args below meth c hC H locs cells slots Z ls rr τ hcs hR hl hE hZ)
theorem X_alen {v : Int32} (t0 : Nat) (ht : ∀ κ, (tysOf κ)[t0]? = some (κ ty, ty)) (hs : S[a]? = some (.inl (ty, n, r))) (hv : ∀ ρ, Int32.ofNat (arE ρ σ a ty n r).1 = v) (hd : decode cc pc = .ok (.arraylength, 1)) (kk : X (wsOf S) own cc nL ret d g (pc + 1) L (.int v :: st) σ E) : X (wsOf S) own cc nL ret d g pc L (.ref a :: st) σ E := by
  intro D κ ρ A p l e R s m args below meth c hC H locs cells slots Z ls rr τ hcs hR hl hE hZ
  obtain ⟨hx, hb, -, hml, hown, hts, -, hfr, hlo, hK, hA⟩ := id hC
  exact va_alen hx hb hK hR.1 a t0 (ws_get hs) (ht κ) (hv ρ) hd (kk D κ ρ A p l e R s m args below meth c hC H locs cells slots Z ls rr τ hcs hR hl hE hZ)
theorem X_iast {v : Int32} (hs : S[a]? = some (.inl (.int, n, r))) (hd : decode cc pc = .ok (.iastore, 1)) (kk : ∀ σ, X (wsOf S) own cc nL ret d g (pc + 1) L st σ (F σ)) : X (wsOf S) own cc nL ret d g pc L (.int v :: .int i :: .ref a :: st) σ (ck (inb i n) (bn (pI σ a i.toNatClampNeg v) F)) := by
  refine X_ck (fun hi => ?_)
  intro D κ ρ A p l e R s m args below meth c hC H locs cells slots Z ls rr τ hcs hR hl hE hZ
  obtain ⟨hx, hb, -, hml, hown, hts, -, hfr, hlo, hK, hA⟩ := id hC
  refine va_iast hx hb hK hR.1 hR.2.1 hR.2.2 a 0 (ws_get hs) rfl (inb_in hi) hd (fun H1 locs1 hP hD hS => ?_)
  rw [← ws_pIa rfl hs] at hP hD
  exact kk _ D κ ρ A p l e R s m args below meth c hC H1 locs1 cells slots Z ls rr τ hcs ⟨hP, hD, hS⟩ hl hE hZ
theorem X_bast {v : Int32} (hs : S[a]? = some (.inl (.byte, n, r))) (hd : decode cc pc = .ok (.bastore, 1)) (kk : ∀ σ, X (wsOf S) own cc nL ret d g (pc + 1) L st σ (F σ)) : X (wsOf S) own cc nL ret d g pc L (.int v :: .int i :: .ref a :: st) σ (ck (inb i n) (bn (pI σ a i.toNatClampNeg (vp_nar .byte v)) F)) := by
  refine X_ck (fun hi => ?_)
  intro D κ ρ A p l e R s m args below meth c hC H locs cells slots Z ls rr τ hcs hR hl hE hZ
  obtain ⟨hx, hb, -, hml, hown, hts, -, hfr, hlo, hK, hA⟩ := id hC
  refine va_bast hx hb hK hR.1 hR.2.1 hR.2.2 a 2 (ws_get hs) rfl (inb_in hi) hd (fun H1 locs1 hP hD hS => ?_)
  rw [← ws_pIa rfl hs] at hP hD
  exact kk _ D κ ρ A p l e R s m args below meth c hC H1 locs1 cells slots Z ls rr τ hcs ⟨hP, hD, hS⟩ hl hE hZ
theorem X_zast {v : Int32} (hs : S[a]? = some (.inl (.boolean, n, r))) (hd : decode cc pc = .ok (.bastore, 1)) (kk : ∀ σ, X (wsOf S) own cc nL ret d g (pc + 1) L st σ (F σ)) : X (wsOf S) own cc nL ret d g pc L (.int v :: .int i :: .ref a :: st) σ (ck (inb i n) (bn (pI σ a i.toNatClampNeg (vp_nar .boolean v)) F)) := by
  refine X_ck (fun hi => ?_)
  intro D κ ρ A p l e R s m args below meth c hC H locs cells slots Z ls rr τ hcs hR hl hE hZ
  obtain ⟨hx, hb, -, hml, hown, hts, -, hfr, hlo, hK, hA⟩ := id hC
  refine va_zast hx hb hK hR.1 hR.2.1 hR.2.2 a 4 (ws_get hs) rfl (inb_in hi) hd (fun H1 locs1 hP hD hS => ?_)
  rw [← ws_pIa rfl hs] at hP hD
  exact kk _ D κ ρ A p l e R s m args below meth c hC H1 locs1 cells slots Z ls rr τ hcs ⟨hP, hD, hS⟩ hl hE hZ
theorem X_sast {v : Int32} (hs : S[a]? = some (.inl (.short, n, r))) (hd : decode cc pc = .ok (.sastore, 1)) (kk : ∀ σ, X (wsOf S) own cc nL ret d g (pc + 1) L st σ (F σ)) : X (wsOf S) own cc nL ret d g pc L (.int v :: .int i :: .ref a :: st) σ (ck (inb i n) (bn (pI σ a i.toNatClampNeg (vp_nar .short v)) F)) := by
  refine X_ck (fun hi => ?_)
  intro D κ ρ A p l e R s m args below meth c hC H locs cells slots Z ls rr τ hcs hR hl hE hZ
  obtain ⟨hx, hb, -, hml, hown, hts, -, hfr, hlo, hK, hA⟩ := id hC
  refine va_sast hx hb hK hR.1 hR.2.1 hR.2.2 a 3 (ws_get hs) rfl (inb_in hi) hd (fun H1 locs1 hP hD hS => ?_)
  rw [← ws_pIa rfl hs] at hP hD
  exact kk _ D κ ρ A p l e R s m args below meth c hC H1 locs1 cells slots Z ls rr τ hcs ⟨hP, hD, hS⟩ hl hE hZ
theorem X_last {v : Int64} (hs : S[a]? = some (.inl (.long, n, r))) (hd : decode cc pc = .ok (.lastore, 1)) (kk : ∀ σ, X (wsOf S) own cc nL ret d g (pc + 1) L st σ (F σ)) : X (wsOf S) own cc nL ret d g pc L (.long v :: .int i :: .ref a :: st) σ (ck (inb i n) (bn (pL σ a i.toNatClampNeg v) F)) := by
  refine X_ck (fun hi => ?_)
  intro D κ ρ A p l e R s m args below meth c hC H locs cells slots Z ls rr τ hcs hR hl hE hZ
  obtain ⟨hx, hb, -, hml, hown, hts, -, hfr, hlo, hK, hA⟩ := id hC
  refine va_last hx hb hK hR.1 hR.2.1 hR.2.2 a 1 (ws_get hs) rfl (inb_in hi) hd (fun H1 locs1 hP hD hS => ?_)
  rw [← ws_pLa hs] at hP hD
  exact kk _ D κ ρ A p l e R s m args below meth c hC H1 locs1 cells slots Z ls rr τ hcs ⟨hP, hD, hS⟩ hl hE hZ
end XS
/-- the room of a method that calls d deep and makes nothing -/
def rmd (d : Nat) : Room := { frames := d, cells := 0, slots := 0, locals := 48 * d }
/-- a contract's end -/
def QcOf {T : Type} (wf : (FieldType → ClassId) → (Nat → Nat) → T → va_W) (ret : Option FieldType) (D : va_G) (κ : FieldType → ClassId) (ρ : Nat → Nat) (A : Nat → Prop) (r : Int32) (τ : T) : Array Value → State → Outcome → State → Prop := match ret with
  | none => va_Qv (fun u : T => u = τ) (fun u t => va_P D vwCl (wf κ ρ u) t.heap ∧ va_D A (wf κ ρ u)) A
  | some ty => va_Qi (fun (r' : Int32) (u : T) => r' = r ∧ u = τ ∧ narrow ty (.int r) = .int r) (fun u t => va_P D vwCl (wf κ ρ u) t.heap ∧ va_D A (wf κ ρ u)) A
/-- a contract: with arguments av and memory σ the method comes to the end that E tells -/
def Con {T : Type} (wf : (FieldType → ClassId) → (Nat → Nat) → T → va_W) (y : MethodName) (cc : ByteArray) (nL : Nat) (ret : Option FieldType) (d : Nat) (av : List Value) (σ : T) (E : Option (Int32 × T)) : Prop :=
  ∀ (l : Launch) (D : va_G) (κ : FieldType → ClassId) (ρ : Nat → Nat) (sz : Nat) (r : Int32) (τ : T), E = some (r, τ) → Met l y (Cond.code y cc nL ret :: GT) (rmd d) (va_Pc (av.map (tr ρ)) (fun U => U.heap.size = sz ∧ va_P D vwCl (wf κ ρ σ) U.heap ∧ va_K D vwCl (tysOf κ) U ∧ va_D (fun _ => True) (wf κ ρ σ))) (QcOf wf ret D κ ρ (va_A (wf κ ρ σ) sz) r τ) 0 0 (va_A (wf κ ρ σ) sz)
theorem tr_sl (ρ : Nat → Nat) (av : List Value) : (lg_sl (av.map (tr ρ))).length = (lg_sl av).length := by
  induction av with
  | nil => rfl
  | cons v t ih =>
    simp only [lg_sl, List.map_cons, List.flatMap_cons, List.length_append, tr_cat] at ih ⊢
    rw [ih]
    split <;> rfl
theorem tr_args (ρ : Nat → Nat) (av : List Value) : ∀ i, lv_args i (av.map (tr ρ)) = (lv_args i av).map (trL ρ) := by
  induction av with
  | nil => intro i; rfl
  | cons v t ih =>
    intro i
    simp only [List.map_cons, lv_args, tr_cat, ih]
    rfl
theorem Con.of_X {T : Type} {wf : (FieldType → ClassId) → (Nat → Nat) → T → va_W} {y : MethodName} {cc : ByteArray} {nL : Nat} {ret : Option FieldType} {d : Nat} {av : List Value} {σ : T} {E : Option (Int32 × T)} (hy : plainName y.cls = true) (hlen : (lg_sl av).length ≤ nL) (hX : X wf y.cls cc nL ret d 0 0 (lv_args 0 av) [] σ E) : Con wf y cc nL ret d av σ E := by
  intro l D κ ρ sz r τ hE
  refine Met.ofW (cc := cc) (maxL := nL) (ret := ret) hy rfl ?_
  intro p e s m args below meth c s₁ B hml hv
  obtain ⟨rfl, hsz, hP, hK, hD0⟩ := hv
  subst hsz
  have hts := atoms_spec (ws := Cond.code y cc nL ret :: GT) B.pre
  have hown : s.vm.findClass y.cls = some m.cls := findClass_of_methodNamed B.named
  have hlocks := B.notSynchronized
  have hD := hD0.self (sz := s.heap.size)
  have hl := lv_entry (av.map (tr ρ)) (n := nL) (by rw [tr_sl]; exact hlen)
  rw [lg_entry_eq]
  rw [tr_args] at hl
  have hA : ∀ q : Nat, s.heap.size ≤ q → va_A (wf κ ρ σ) s.heap.size q := fun q h => Or.inr h
  refine hX D κ ρ (va_A (wf κ ρ σ) s.heap.size) p l e (rmd d) s m _ below meth c ⟨B.exec, B.bytes, B.returns, hml, hown, fun w hw => hts w (List.mem_cons_of_mem _ hw), hlocks, Nat.le_refl _, Nat.le_refl _, hK, hA⟩ s.heap [] 0 0 _ _ r τ ⟨Nat.le_refl _, Nat.le_refl _⟩ ⟨hP, hD, va_S.rf⟩ hl hE ?_
  intro H locs cells slots pc ls hcs hR
  have e1 : cells = 0 := Nat.le_zero.mp hcs.1
  have e2 : slots = 0 := Nat.le_zero.mp hcs.2
  subst e1
  subst e2
  cases ret with
  | none =>
    intro hd
    exact W.vret B.exec B.bytes B.returns (fun t ht hW => ⟨⟨τ, rfl, rfl, by rw [ht]; exact hR.1, hR.2.1⟩, hR.2.2.F ht⟩) hR.2.2.2.2 hd
  | some ty =>
    intro hn hd
    exact W.zret B.exec B.bytes B.returns hn (fun t ht hW => ⟨⟨r, τ, rfl, ⟨rfl, rfl, hn⟩, by rw [ht]; exact hR.1, hR.2.1⟩, hR.2.2.F ht⟩) hR.2.2.2.2 hd
/-- what a call needs of the tables: of an object's method, of a static one -/
def MkV (y : MethodName) (cc : ByteArray) (nL : Nat) (ret : Option FieldType) (n ci : Nat) : Prop := Cond.instanceMethod y ∈ GT ∧ Cond.selects y.cls y y ∈ GT ∧ Cond.initialized y.cls ∈ GT ∧ Cond.code y cc nL ret ∈ GT ∧ (y.cls ≠ "java/lang/invoke/MethodHandle" ∧ y.cls ≠ "java/lang/invoke/VarHandle" ∧ (parseMethodDescriptor y.desc).map (fun d => d.parameters.length) = some n) ∧ (∃ T N, vwCl[ci]? = some (y.cls, T, N)) ∧ 19 + nL ≤ 48
def MkS (y : MethodName) (cc : ByteArray) (nL : Nat) (ret : Option FieldType) (n : Nat) : Prop := Cond.static y ∈ GT ∧ Cond.initialized y.cls ∈ GT ∧ Cond.code y cc nL ret ∈ GT ∧ (y.cls ≠ "java/lang/invoke/MethodHandle" ∧ y.cls ≠ "java/lang/invoke/VarHandle" ∧ (parseMethodDescriptor y.desc).map (fun d => d.parameters.length) = some n) ∧ 19 + nL ≤ 48
theorem nl_blind {T : Type} {wf : (FieldType → ClassId) → (Nat → Nat) → T → va_W} {D : va_G} {κ : FieldType → ClassId} {ρ : Nat → Nat} {σ : T} {av : List Value} {sz : Nat} : FrameBlind (va_Pc av (fun U => U.heap.size = sz ∧ va_P D vwCl (wf κ ρ σ) U.heap ∧ va_K D vwCl (tysOf κ) U ∧ va_D (fun _ => True) (wf κ ρ σ))) := fun a U g mk q => by
  obtain ⟨q0, q1, qP, qK, qD⟩ := q
  exact ⟨q0, q1, qP, va_K.moved (u := U) (U := U.calling g mk a) (Vm.Alike.refl U.vm) qK, qD⟩
section XC
variable {T : Type} {wf : (FieldType → ClassId) → (Nat → Nat) → T → va_W} {S : List Sh} {own : String} {cc cc' : ByteArray} {nL nL' : Nat} {ret : Option FieldType} {d d' g : Nat} {pc : Nat} {L : List (Nat × Value)} {st stk As : List Value} {b ci index n : Nat} {fds : List Fq} {ty : FieldType} {y : MethodName}
theorem X_calli {σ : Mm} {Ef : Option (Int32 × Mm)} {F : Int32 → Mm → Option (Int32 × Mm)} (hs : S[b]? = some (.inr (ci, fds))) (hcon : Con (wsOf S) y cc' nL' (some ty) d' (.ref b :: As) σ Ef) (mk : MkV y cc' nL' (some ty) n ci) (hlink : Cond.methodLink own index y ∈ GT) (hdd : d' + 1 ≤ d) (hn : As.length = n) (hst : stk = As.reverse ++ .ref b :: st) (hsum : (st.map fun v => v.category).sum ≤ 8) (hd : decode cc pc = .ok (.invokevirtual index, 3)) (kk : ∀ r τ, narrow ty (.int r) = .int r → X (wsOf S) own cc nL ret d g (pc + 3) L (.int r :: st) τ (F r τ)) : X (wsOf S) own cc nL ret d g pc L stk σ (cl Ef F) := by
  intro D κ ρ A p l e R s m args below meth c hC H locs cells slots Z ls rr τ hcs hR hl hE hZ
  obtain ⟨hx, hb, -, hml, hown, hts, -, hfr, hlo, hK, hA⟩ := id hC
  obtain ⟨hP, hD, hS⟩ := id hR
  obtain ⟨m1, m2, m3, m4, m5, ⟨T0, N0, m6⟩, m7⟩ := mk
  cases hEf : Ef with
  | none => rw [hEf] at hE; cases hE
  | some q =>
    obtain ⟨r1, τ1⟩ := q
    rw [hEf] at hE
    have hE : F r1 τ1 = some (rr, τ) := hE
    have hM := hcon l D κ ρ H.size r1 τ1 hEf
    have hFc : ∀ q, va_A (wsOf S κ ρ σ) H.size q → A q := fun q h => by
      rcases h with ⟨k, e9, hk⟩ | h
      · exact hD.2 k _ hk
      · exact hA q (Nat.le_trans hS.1 h)
    subst hst
    refine va_calli (va_runV (As := As.map (tr ρ)) (rest := st.map (tr ρ)) ⟨hx, hb, hml, hown, hts⟩ hM ⟨callB_of n hts (gt_in m4) rfl rfl rfl (hts _ m3) (hts _ hlink) m5 ⟨by show d' + 1 ≤ _; omega, by show 8 + (nL' + 11) + 48 * d' ≤ _; omega⟩, hts _ m1, hts _ m2⟩ ⟨nl_blind, va_recv hK hP m6 (ws_get hs), fun U hU hW => ⟨rfl, by rw [hU], by rw [hU]; exact hP, va_K.moved hW.alike hK, hD.weaken (fun _ _ _ _ => trivial)⟩⟩ rfl (by rw [List.length_map]; exact hn) hl.1 (by simp [tr]) (by show 2 * 0 + _ ≤ 8; rw [tr_sum]; omega) hd ⟨by omega, by omega⟩) hS (fun q _ h => hFc q h) hFc (fun r2 u t H1 locs1 ht hvm hw hB hz1 hk1 hS1 => ?_)
    obtain ⟨rfl, rfl, hnr⟩ := hw
    rw [ht] at hB
    exact kk r2 u hnr D κ ρ A p l e R s m args below meth c hC H1 locs1 cells slots Z ls rr τ hcs ⟨hB.1, hB.2.weaken (fun k q hk h => hFc q.1 h), hS1⟩ hl hE hZ
theorem X_callv {σ : Mm} {Ef : Option (Int32 × Mm)} {F : Int32 → Mm → Option (Int32 × Mm)} (hs : S[b]? = some (.inr (ci, fds))) (hcon : Con (wsOf S) y cc' nL' none d' (.ref b :: As) σ Ef) (mk : MkV y cc' nL' none n ci) (hlink : Cond.methodLink own index y ∈ GT) (hdd : d' + 1 ≤ d) (hn : As.length = n) (hst : stk = As.reverse ++ .ref b :: st) (hsum : (st.map fun v => v.category).sum ≤ 8) (hd : decode cc pc = .ok (.invokevirtual index, 3)) (kk : ∀ r τ, X (wsOf S) own cc nL ret d g (pc + 3) L st τ (F r τ)) : X (wsOf S) own cc nL ret d g pc L stk σ (cl Ef F) := by
  intro D κ ρ A p l e R s m args below meth c hC H locs cells slots Z ls rr τ hcs hR hl hE hZ
  obtain ⟨hx, hb, -, hml, hown, hts, -, hfr, hlo, hK, hA⟩ := id hC
  obtain ⟨hP, hD, hS⟩ := id hR
  obtain ⟨m1, m2, m3, m4, m5, ⟨T0, N0, m6⟩, m7⟩ := mk
  cases hEf : Ef with
  | none => rw [hEf] at hE; cases hE
  | some q =>
    obtain ⟨r1, τ1⟩ := q
    rw [hEf] at hE
    have hE : F r1 τ1 = some (rr, τ) := hE
    have hM := hcon l D κ ρ H.size r1 τ1 hEf
    have hFc : ∀ q, va_A (wsOf S κ ρ σ) H.size q → A q := fun q h => by
      rcases h with ⟨k, e9, hk⟩ | h
      · exact hD.2 k _ hk
      · exact hA q (Nat.le_trans hS.1 h)
    subst hst
    refine va_callv (va_runV (As := As.map (tr ρ)) (rest := st.map (tr ρ)) ⟨hx, hb, hml, hown, hts⟩ hM ⟨callB_of n hts (gt_in m4) rfl rfl rfl (hts _ m3) (hts _ hlink) m5 ⟨by show d' + 1 ≤ _; omega, by show 8 + (nL' + 11) + 48 * d' ≤ _; omega⟩, hts _ m1, hts _ m2⟩ ⟨nl_blind, va_recv hK hP m6 (ws_get hs), fun U hU hW => ⟨rfl, by rw [hU], by rw [hU]; exact hP, va_K.moved hW.alike hK, hD.weaken (fun _ _ _ _ => trivial)⟩⟩ rfl (by rw [List.length_map]; exact hn) hl.1 (by simp [tr]) (by show 2 * 0 + _ ≤ 8; rw [tr_sum]; omega) hd ⟨by omega, by omega⟩) hS (fun q _ h => hFc q h) hFc (fun u t H1 locs1 ht hvm hw hB hz1 hk1 hS1 => ?_)
    have hw : u = τ1 := hw
    rw [ht, hw] at hB
    exact kk r1 τ1 D κ ρ A p l e R s m args below meth c hC H1 locs1 cells slots Z ls rr τ hcs ⟨hB.1, hB.2.weaken (fun k q hk h => hFc q.1 h), hS1⟩ hl hE hZ
theorem X_callsi {σ : T} {Ef : Option (Int32 × T)} {F : Int32 → T → Option (Int32 × T)} (hcon : Con wf y cc' nL' (some ty) d' As σ Ef) (mk : MkS y cc' nL' (some ty) n) (hlink : Cond.methodLink own index y ∈ GT) (hdd : d' + 1 ≤ d) (hn : As.length = n) (hst : stk = As.reverse ++ st) (hsum : (st.map fun v => v.category).sum ≤ 8) (hd : decode cc pc = .ok (.invokestatic index, 3)) (kk : ∀ r τ, narrow ty (.int r) = .int r → X wf own cc nL ret d g (pc + 3) L (.int r :: st) τ (F r τ)) : X wf own cc nL ret d g pc L stk σ (cl Ef F) := by
  intro D κ ρ A p l e R s m args below meth c hC H locs cells slots Z ls rr τ hcs hR hl hE hZ
  obtain ⟨hx, hb, -, hml, hown, hts, -, hfr, hlo, hK, hA⟩ := id hC
  obtain ⟨hP, hD, hS⟩ := id hR
  obtain ⟨m1, m3, m4, m5, m7⟩ := mk
  cases hEf : Ef with
  | none => rw [hEf] at hE; cases hE
  | some q =>
    obtain ⟨r1, τ1⟩ := q
    rw [hEf] at hE
    have hE : F r1 τ1 = some (rr, τ) := hE
    have hM := hcon l D κ ρ H.size r1 τ1 hEf
    have hFc : ∀ q, va_A (wf κ ρ σ) H.size q → A q := fun q h => by
      rcases h with ⟨k, e9, hk⟩ | h
      · exact hD.2 k _ hk
      · exact hA q (Nat.le_trans hS.1 h)
    subst hst
    refine va_calli (va_runS (As := As.map (tr ρ)) (rest := st.map (tr ρ)) ⟨hx, hb, hml, hown, hts⟩ hM ⟨callB_of n hts (gt_in m4) rfl rfl rfl (hts _ m3) (hts _ hlink) m5 ⟨by show d' + 1 ≤ _; omega, by show 8 + (nL' + 11) + 48 * d' ≤ _; omega⟩, hts _ m1⟩ ⟨nl_blind, fun U hU hW => ⟨rfl, by rw [hU], by rw [hU]; exact hP, va_K.moved hW.alike hK, hD.weaken (fun _ _ _ _ => trivial)⟩⟩ rfl (by rw [List.length_map]; exact hn) hl.1 (by simp [tr]) (by show 2 * 0 + _ ≤ 8; rw [tr_sum]; omega) hd ⟨by omega, by omega⟩) hS (fun q _ h => hFc q h) hFc (fun r2 u t H1 locs1 ht hvm hw hB hz1 hk1 hS1 => ?_)
    obtain ⟨rfl, rfl, hnr⟩ := hw
    rw [ht] at hB
    exact kk r2 u hnr D κ ρ A p l e R s m args below meth c hC H1 locs1 cells slots Z ls rr τ hcs ⟨hB.1, hB.2.weaken (fun k q hk h => hFc q.1 h), hS1⟩ hl hE hZ
theorem X_callsv {σ : T} {Ef : Option (Int32 × T)} {F : Int32 → T → Option (Int32 × T)} (hcon : Con wf y cc' nL' none d' As σ Ef) (mk : MkS y cc' nL' none n) (hlink : Cond.methodLink own index y ∈ GT) (hdd : d' + 1 ≤ d) (hn : As.length = n) (hst : stk = As.reverse ++ st) (hsum : (st.map fun v => v.category).sum ≤ 8) (hd : decode cc pc = .ok (.invokestatic index, 3)) (kk : ∀ r τ, X wf own cc nL ret d g (pc + 3) L st τ (F r τ)) : X wf own cc nL ret d g pc L stk σ (cl Ef F) := by
  intro D κ ρ A p l e R s m args below meth c hC H locs cells slots Z ls rr τ hcs hR hl hE hZ
  obtain ⟨hx, hb, -, hml, hown, hts, -, hfr, hlo, hK, hA⟩ := id hC
  obtain ⟨hP, hD, hS⟩ := id hR
  obtain ⟨m1, m3, m4, m5, m7⟩ := mk
  cases hEf : Ef with
  | none => rw [hEf] at hE; cases hE
  | some q =>
    obtain ⟨r1, τ1⟩ := q
    rw [hEf] at hE
    have hE : F r1 τ1 = some (rr, τ) := hE
    have hM := hcon l D κ ρ H.size r1 τ1 hEf
    have hFc : ∀ q, va_A (wf κ ρ σ) H.size q → A q := fun q h => by
      rcases h with ⟨k, e9, hk⟩ | h
      · exact hD.2 k _ hk
      · exact hA q (Nat.le_trans hS.1 h)
    subst hst
    refine va_callv (va_runS (As := As.map (tr ρ)) (rest := st.map (tr ρ)) ⟨hx, hb, hml, hown, hts⟩ hM ⟨callB_of n hts (gt_in m4) rfl rfl rfl (hts _ m3) (hts _ hlink) m5 ⟨by show d' + 1 ≤ _; omega, by show 8 + (nL' + 11) + 48 * d' ≤ _; omega⟩, hts _ m1⟩ ⟨nl_blind, fun U hU hW => ⟨rfl, by rw [hU], by rw [hU]; exact hP, va_K.moved hW.alike hK, hD.weaken (fun _ _ _ _ => trivial)⟩⟩ rfl (by rw [List.length_map]; exact hn) hl.1 (by simp [tr]) (by show 2 * 0 + _ ≤ 8; rw [tr_sum]; omega) hd ⟨by omega, by omega⟩) hS (fun q _ h => hFc q h) hFc (fun u t H1 locs1 ht hvm hw hB hz1 hk1 hS1 => ?_)
    have hw : u = τ1 := hw
    rw [ht, hw] at hB
    exact kk r1 τ1 D κ ρ A p l e R s m args below meth c hC H1 locs1 cells slots Z ls rr τ hcs ⟨hB.1, hB.2.weaken (fun k q hk h => hFc q.1 h), hS1⟩ hl hE hZ
end XC
end
section
theorem gt_1 {w : Cond} (h : w ∈ tables_1_1) (ok : nl_ok w = true) : w ∈ GT := List.mem_filter.mpr ⟨List.mem_append_right _ (List.mem_append_left _ h), ok⟩
theorem gt_2 {w : Cond} (h : w ∈ tables_1_2) (ok : nl_ok w = true) : w ∈ GT := List.mem_filter.mpr ⟨List.mem_append_right _ (List.mem_append_right _ (List.mem_append_left _ h)), ok⟩
theorem gt_3 {w : Cond} (h : w ∈ tables_1_3) (ok : nl_ok w = true) : w ∈ GT := List.mem_filter.mpr ⟨List.mem_append_right _ (List.mem_append_right _ (List.mem_append_right _ (List.mem_append_left _ h))), ok⟩
theorem gt_4 {w : Cond} (h : w ∈ tables_1_4) (ok : nl_ok w = true) : w ∈ GT := List.mem_filter.mpr ⟨List.mem_append_right _ (List.mem_append_right _ (List.mem_append_right _ (List.mem_append_right _ (List.mem_append_left _ h)))), ok⟩
theorem gt_5 {w : Cond} (h : w ∈ tables_1_5) (ok : nl_ok w = true) : w ∈ GT := List.mem_filter.mpr ⟨List.mem_append_right _ (List.mem_append_right _ (List.mem_append_right _ (List.mem_append_right _ (List.mem_append_right _ (List.mem_append_left _ h))))), ok⟩
theorem gt_6 {w : Cond} (h : w ∈ tables_1_6) (ok : nl_ok w = true) : w ∈ GT := List.mem_filter.mpr ⟨List.mem_append_right _ (List.mem_append_right _ (List.mem_append_right _ (List.mem_append_right _ (List.mem_append_right _ (List.mem_append_right _ (List.mem_append_left _ h)))))), ok⟩
theorem gt_7 {w : Cond} (h : w ∈ tables_1_7) (ok : nl_ok w = true) : w ∈ GT := List.mem_filter.mpr ⟨List.mem_append_right _ (List.mem_append_right _ (List.mem_append_right _ (List.mem_append_right _ (List.mem_append_right _ (List.mem_append_right _ (List.mem_append_right _ (List.mem_append_left _ h))))))), ok⟩
theorem gt_8 {w : Cond} (h : w ∈ tables_1_8) (ok : nl_ok w = true) : w ∈ GT := List.mem_filter.mpr ⟨List.mem_append_right _ (List.mem_append_right _ (List.mem_append_right _ (List.mem_append_right _ (List.mem_append_right _ (List.mem_append_right _ (List.mem_append_right _ (List.mem_append_right _ (h)))))))), ok⟩
theorem gt_all {ws : List Cond} (h : ws.all (fun w => tables_1.contains w && nl_ok w) = true) : ∀ w ∈ ws, w ∈ GT := by
  intro w hw
  have h2 := (Bool.and_eq_true _ _).mp (List.all_eq_true.mp h w hw)
  exact List.mem_filter.mpr ⟨List.mem_append_right _ (List.contains_iff_mem.mp h2.1), h2.2⟩
theorem wi_X0 : ∀ w ∈ u_ws RX0 TX0 7, w ∈ GT := gt_all (by decide +kernel)
theorem wi_X1 : ∀ w ∈ u_ws RX1 TX1 3, w ∈ GT := gt_all (by decide +kernel)
theorem wi_X2 : ∀ w ∈ u_ws RX2 TX2 4, w ∈ GT := gt_all (by decide +kernel)
theorem wi_X3 : ∀ w ∈ u_ws RX3 TX3 4, w ∈ GT := gt_all (by decide +kernel)
theorem wi_X4 : ∀ w ∈ u_ws RX4 TX4 11, w ∈ GT := gt_all (by decide +kernel)
theorem wi_X5 : ∀ w ∈ u_ws RX5 TX5 3, w ∈ GT := gt_all (by decide +kernel)
theorem wi_X6 : ∀ w ∈ u_ws RX6 TX6 2, w ∈ GT := gt_all (by decide +kernel)
theorem wi_X7 : ∀ w ∈ u_ws RX7 TX7 2, w ∈ GT := gt_all (by decide +kernel)
theorem wi_X8 : ∀ w ∈ u_ws RX8 TX8 7, w ∈ GT := gt_all (by decide +kernel)
theorem wi_X9 : ∀ w ∈ u_ws RX9 TX9 17, w ∈ GT := gt_all (by decide +kernel)
theorem wi_X10 : ∀ w ∈ u_ws RX10 TX10 4, w ∈ GT := gt_all (by decide +kernel)
theorem wi_X11 : ∀ w ∈ u_ws RX11 TX11 11, w ∈ GT := gt_all (by decide +kernel)
theorem wi_X12 : ∀ w ∈ u_ws RX12 TX12 73, w ∈ GT := gt_all (by decide +kernel)
theorem fk_X7_9 : FLk RX7 9 7 0 (.array .byte) true := ⟨_, _, _, tyX7, rfl, by decide, gt_1 (List.mem_of_getElem? (i := 40) rfl) rfl, wi_X7, tyX7_ok, nmX7, rfl, by decide +kernel, rfl⟩
theorem fk_X8_45 : FLk RX8 45 7 0 (.array .byte) true := ⟨_, _, _, tyX7, rfl, by decide, gt_1 (List.mem_of_getElem? (i := 41) rfl) rfl, wi_X7, tyX7_ok, nmX7, rfl, by decide +kernel, rfl⟩
theorem fk_X11_84 : FLk RX11 84 7 1 (.int) false := ⟨_, _, _, tyX7, rfl, by decide, gt_1 (List.mem_of_getElem? (i := 42) rfl) rfl, wi_X7, tyX7_ok, nmX7, rfl, by decide +kernel, rfl⟩
theorem fk_X7_15 : FLk RX7 15 7 1 (.int) false := ⟨_, _, _, tyX7, rfl, by decide, gt_1 (List.mem_of_getElem? (i := 43) rfl) rfl, wi_X7, tyX7_ok, nmX7, rfl, by decide +kernel, rfl⟩
theorem fk_X8_41 : FLk RX8 41 7 1 (.int) false := ⟨_, _, _, tyX7, rfl, by decide, gt_1 (List.mem_of_getElem? (i := 44) rfl) rfl, wi_X7, tyX7_ok, nmX7, rfl, by decide +kernel, rfl⟩
theorem fk_X8_15 : FLk RX8 15 8 0 (.object "NextLight$Tape") true := ⟨_, _, _, tyX8, rfl, by decide, gt_1 (List.mem_of_getElem? (i := 112) rfl) rfl, wi_X8, tyX8_ok, nmX8, rfl, by decide +kernel, rfl⟩
theorem fk_X8_11 : FLk RX8 11 8 1 (.array .long) true := ⟨_, _, _, tyX8, rfl, by decide, gt_1 (List.mem_of_getElem? (i := 113) rfl) rfl, wi_X8, tyX8_ok, nmX8, rfl, by decide +kernel, rfl⟩
theorem fk_X6_34 : FLk RX6 34 8 2 (.int) false := ⟨_, _, _, tyX8, rfl, by decide, gt_1 (List.mem_of_getElem? (i := 114) rfl) rfl, wi_X8, tyX8_ok, nmX8, rfl, by decide +kernel, rfl⟩
theorem fk_X8_49 : FLk RX8 49 8 2 (.int) false := ⟨_, _, _, tyX8, rfl, by decide, gt_1 (List.mem_of_getElem? (i := 115) rfl) rfl, wi_X8, tyX8_ok, nmX8, rfl, by decide +kernel, rfl⟩
theorem fk_X8_38 : FLk RX8 38 8 3 (.int) false := ⟨_, _, _, tyX8, rfl, by decide, gt_1 (List.mem_of_getElem? (i := 116) rfl) rfl, wi_X8, tyX8_ok, nmX8, rfl, by decide +kernel, rfl⟩
theorem fk_X6_72 : FLk RX6 72 8 3 (.int) false := ⟨_, _, _, tyX8, rfl, by decide, gt_1 (List.mem_of_getElem? (i := 117) rfl) rfl, wi_X8, tyX8_ok, nmX8, rfl, by decide +kernel, rfl⟩
theorem fk_X8_31 : FLk RX8 31 8 4 (.int) false := ⟨_, _, _, tyX8, rfl, by decide, gt_1 (List.mem_of_getElem? (i := 118) rfl) rfl, wi_X8, tyX8_ok, nmX8, rfl, by decide +kernel, rfl⟩
theorem fk_X6_85 : FLk RX6 85 8 5 (.long) false := ⟨_, _, _, tyX8, rfl, by decide, gt_1 (List.mem_of_getElem? (i := 119) rfl) rfl, wi_X8, tyX8_ok, nmX8, rfl, by decide +kernel, rfl⟩
theorem fk_X8_67 : FLk RX8 67 8 5 (.long) false := ⟨_, _, _, tyX8, rfl, by decide, gt_1 (List.mem_of_getElem? (i := 120) rfl) rfl, wi_X8, tyX8_ok, nmX8, rfl, by decide +kernel, rfl⟩
theorem fk_X6_37 : FLk RX6 37 8 6 (.int) false := ⟨_, _, _, tyX8, rfl, by decide, gt_1 (List.mem_of_getElem? (i := 121) rfl) rfl, wi_X8, tyX8_ok, nmX8, rfl, by decide +kernel, rfl⟩
theorem fk_X8_64 : FLk RX8 64 8 6 (.int) false := ⟨_, _, _, tyX8, rfl, by decide, gt_1 (List.mem_of_getElem? (i := 122) rfl) rfl, wi_X8, tyX8_ok, nmX8, rfl, by decide +kernel, rfl⟩
theorem fk_X6_14 : FLk RX6 14 6 0 (.object "NextLight$Tokens") true := ⟨_, _, _, tyX6, rfl, by decide, gt_1 (List.mem_of_getElem? (i := 139) rfl) rfl, wi_X6, tyX6_ok, nmX6, rfl, by decide +kernel, rfl⟩
theorem fk_X6_25 : FLk RX6 25 6 1 (.int) false := ⟨_, _, _, tyX6, rfl, by decide, gt_1 (List.mem_of_getElem? (i := 140) rfl) rfl, wi_X6, tyX6_ok, nmX6, rfl, by decide +kernel, rfl⟩
theorem fk_X4_30 : FLk RX4 30 4 0 (.int) false := ⟨_, _, _, tyX4, rfl, by decide, gt_1 (List.mem_of_getElem? (i := 152) rfl) rfl, wi_X4, tyX4_ok, nmX4, rfl, by decide +kernel, rfl⟩
theorem fk_X0_78 : FLk RX0 78 4 0 (.int) false := ⟨_, _, _, tyX4, rfl, by decide, gt_1 (List.mem_of_getElem? (i := 153) rfl) rfl, wi_X4, tyX4_ok, nmX4, rfl, by decide +kernel, rfl⟩
theorem fk_X11_306 : FLk RX11 306 4 0 (.int) false := ⟨_, _, _, tyX4, rfl, by decide, gt_1 (List.mem_of_getElem? (i := 154) rfl) rfl, wi_X4, tyX4_ok, nmX4, rfl, by decide +kernel, rfl⟩
theorem fk_X4_34 : FLk RX4 34 4 1 (.int) false := ⟨_, _, _, tyX4, rfl, by decide, gt_1 (List.mem_of_getElem? (i := 155) rfl) rfl, wi_X4, tyX4_ok, nmX4, rfl, by decide +kernel, rfl⟩
theorem fk_X11_312 : FLk RX11 312 4 1 (.int) false := ⟨_, _, _, tyX4, rfl, by decide, gt_1 (List.mem_of_getElem? (i := 156) rfl) rfl, wi_X4, tyX4_ok, nmX4, rfl, by decide +kernel, rfl⟩
theorem fk_X4_37 : FLk RX4 37 4 2 (.int) false := ⟨_, _, _, tyX4, rfl, by decide, gt_1 (List.mem_of_getElem? (i := 157) rfl) rfl, wi_X4, tyX4_ok, nmX4, rfl, by decide +kernel, rfl⟩
theorem fk_X0_42 : FLk RX0 42 4 2 (.int) false := ⟨_, _, _, tyX4, rfl, by decide, gt_1 (List.mem_of_getElem? (i := 158) rfl) rfl, wi_X4, tyX4_ok, nmX4, rfl, by decide +kernel, rfl⟩
theorem fk_X11_315 : FLk RX11 315 4 2 (.int) false := ⟨_, _, _, tyX4, rfl, by decide, gt_1 (List.mem_of_getElem? (i := 159) rfl) rfl, wi_X4, tyX4_ok, nmX4, rfl, by decide +kernel, rfl⟩
theorem fk_X4_9 : FLk RX4 9 4 3 (.array .int) true := ⟨_, _, _, tyX4, rfl, by decide, gt_1 (List.mem_of_getElem? (i := 160) rfl) rfl, wi_X4, tyX4_ok, nmX4, rfl, by decide +kernel, rfl⟩
theorem fk_X11_126 : FLk RX11 126 4 3 (.array .int) true := ⟨_, _, _, tyX4, rfl, by decide, gt_1 (List.mem_of_getElem? (i := 161) rfl) rfl, wi_X4, tyX4_ok, nmX4, rfl, by decide +kernel, rfl⟩
theorem fk_X0_91 : FLk RX0 91 4 3 (.array .int) true := ⟨_, _, _, tyX4, rfl, by decide, gt_1 (List.mem_of_getElem? (i := 162) rfl) rfl, wi_X4, tyX4_ok, nmX4, rfl, by decide +kernel, rfl⟩
theorem fk_X4_15 : FLk RX4 15 4 4 (.array .int) true := ⟨_, _, _, tyX4, rfl, by decide, gt_1 (List.mem_of_getElem? (i := 163) rfl) rfl, wi_X4, tyX4_ok, nmX4, rfl, by decide +kernel, rfl⟩
theorem fk_X4_18 : FLk RX4 18 4 5 (.array .int) true := ⟨_, _, _, tyX4, rfl, by decide, gt_1 (List.mem_of_getElem? (i := 164) rfl) rfl, wi_X4, tyX4_ok, nmX4, rfl, by decide +kernel, rfl⟩
theorem fk_X11_139 : FLk RX11 139 4 5 (.array .int) true := ⟨_, _, _, tyX4, rfl, by decide, gt_1 (List.mem_of_getElem? (i := 165) rfl) rfl, wi_X4, tyX4_ok, nmX4, rfl, by decide +kernel, rfl⟩
theorem fk_X4_21 : FLk RX4 21 4 6 (.array .int) true := ⟨_, _, _, tyX4, rfl, by decide, gt_1 (List.mem_of_getElem? (i := 166) rfl) rfl, wi_X4, tyX4_ok, nmX4, rfl, by decide +kernel, rfl⟩
theorem fk_X11_142 : FLk RX11 142 4 6 (.array .int) true := ⟨_, _, _, tyX4, rfl, by decide, gt_1 (List.mem_of_getElem? (i := 167) rfl) rfl, wi_X4, tyX4_ok, nmX4, rfl, by decide +kernel, rfl⟩
theorem fk_X0_180 : FLk RX0 180 4 6 (.array .int) true := ⟨_, _, _, tyX4, rfl, by decide, gt_1 (List.mem_of_getElem? (i := 168) rfl) rfl, wi_X4, tyX4_ok, nmX4, rfl, by decide +kernel, rfl⟩
theorem fk_X4_24 : FLk RX4 24 4 7 (.array .int) true := ⟨_, _, _, tyX4, rfl, by decide, gt_1 (List.mem_of_getElem? (i := 169) rfl) rfl, wi_X4, tyX4_ok, nmX4, rfl, by decide +kernel, rfl⟩
theorem fk_X4_27 : FLk RX4 27 4 8 (.array .int) true := ⟨_, _, _, tyX4, rfl, by decide, gt_1 (List.mem_of_getElem? (i := 170) rfl) rfl, wi_X4, tyX4_ok, nmX4, rfl, by decide +kernel, rfl⟩
theorem fk_X0_71 : FLk RX0 71 4 9 (.int) false := ⟨_, _, _, tyX4, rfl, by decide, gt_1 (List.mem_of_getElem? (i := 171) rfl) rfl, wi_X4, tyX4_ok, nmX4, rfl, by decide +kernel, rfl⟩
theorem fk_X11_166 : FLk RX11 166 4 9 (.int) false := ⟨_, _, _, tyX4, rfl, by decide, gt_1 (List.mem_of_getElem? (i := 172) rfl) rfl, wi_X4, tyX4_ok, nmX4, rfl, by decide +kernel, rfl⟩
theorem fk_X4_74 : FLk RX4 74 4 9 (.int) false := ⟨_, _, _, tyX4, rfl, by decide, gt_1 (List.mem_of_getElem? (i := 173) rfl) rfl, wi_X4, tyX4_ok, nmX4, rfl, by decide +kernel, rfl⟩
theorem fk_X4_77 : FLk RX4 77 4 10 (.int) false := ⟨_, _, _, tyX4, rfl, by decide, gt_1 (List.mem_of_getElem? (i := 174) rfl) rfl, wi_X4, tyX4_ok, nmX4, rfl, by decide +kernel, rfl⟩
theorem fk_X0_134 : FLk RX0 134 4 10 (.int) false := ⟨_, _, _, tyX4, rfl, by decide, gt_1 (List.mem_of_getElem? (i := 175) rfl) rfl, wi_X4, tyX4_ok, nmX4, rfl, by decide +kernel, rfl⟩
theorem fk_X5_11 : FLk RX5 11 5 0 (.array (.object "NextLight$Night")) true := ⟨_, _, _, tyX5, rfl, by decide, gt_1 (List.mem_of_getElem? (i := 209) rfl) rfl, wi_X5, tyX5_ok, nmX5, rfl, by decide +kernel, rfl⟩
theorem fk_X5_16 : FLk RX5 16 5 1 (.int) false := ⟨_, _, _, tyX5, rfl, by decide, gt_1 (List.mem_of_getElem? (i := 210) rfl) rfl, wi_X5, tyX5_ok, nmX5, rfl, by decide +kernel, rfl⟩
theorem fk_X11_318 : FLk RX11 318 5 1 (.int) false := ⟨_, _, _, tyX5, rfl, by decide, gt_1 (List.mem_of_getElem? (i := 211) rfl) rfl, wi_X5, tyX5_ok, nmX5, rfl, by decide +kernel, rfl⟩
theorem fk_X5_20 : FLk RX5 20 5 2 (.int) false := ⟨_, _, _, tyX5, rfl, by decide, gt_1 (List.mem_of_getElem? (i := 212) rfl) rfl, wi_X5, tyX5_ok, nmX5, rfl, by decide +kernel, rfl⟩
theorem fk_X10_20 : FLk RX10 20 10 0 (.int) false := ⟨_, _, _, tyX10, rfl, by decide, gt_1 (List.mem_of_getElem? (i := 226) rfl) rfl, wi_X10, tyX10_ok, nmX10, rfl, by decide +kernel, rfl⟩
theorem fk_X11_99 : FLk RX11 99 10 0 (.int) false := ⟨_, _, _, tyX10, rfl, by decide, gt_1 (List.mem_of_getElem? (i := 227) rfl) rfl, wi_X10, tyX10_ok, nmX10, rfl, by decide +kernel, rfl⟩
theorem fk_X10_9 : FLk RX10 9 10 1 (.array .int) true := ⟨_, _, _, tyX10, rfl, by decide, gt_1 (List.mem_of_getElem? (i := 228) rfl) rfl, wi_X10, tyX10_ok, nmX10, rfl, by decide +kernel, rfl⟩
theorem fk_X10_13 : FLk RX10 13 10 2 (.array .int) true := ⟨_, _, _, tyX10, rfl, by decide, gt_1 (List.mem_of_getElem? (i := 229) rfl) rfl, wi_X10, tyX10_ok, nmX10, rfl, by decide +kernel, rfl⟩
theorem fk_X10_16 : FLk RX10 16 10 3 (.array .boolean) true := ⟨_, _, _, tyX10, rfl, by decide, gt_1 (List.mem_of_getElem? (i := 230) rfl) rfl, wi_X10, tyX10_ok, nmX10, rfl, by decide +kernel, rfl⟩
theorem fk_X2_19 : FLk RX2 19 2 0 (.int) false := ⟨_, _, _, tyX2, rfl, by decide, gt_2 (List.mem_of_getElem? (i := 16) rfl) rfl, wi_X2, tyX2_ok, nmX2, rfl, by decide +kernel, rfl⟩
theorem fk_X6_63 : FLk RX6 63 2 0 (.int) false := ⟨_, _, _, tyX2, rfl, by decide, gt_2 (List.mem_of_getElem? (i := 17) rfl) rfl, wi_X2, tyX2_ok, nmX2, rfl, by decide +kernel, rfl⟩
theorem fk_X0_36 : FLk RX0 36 2 0 (.int) false := ⟨_, _, _, tyX2, rfl, by decide, gt_2 (List.mem_of_getElem? (i := 18) rfl) rfl, wi_X2, tyX2_ok, nmX2, rfl, by decide +kernel, rfl⟩
theorem fk_X11_96 : FLk RX11 96 2 0 (.int) false := ⟨_, _, _, tyX2, rfl, by decide, gt_2 (List.mem_of_getElem? (i := 19) rfl) rfl, wi_X2, tyX2_ok, nmX2, rfl, by decide +kernel, rfl⟩
theorem fk_X2_9 : FLk RX2 9 2 1 (.array .byte) true := ⟨_, _, _, tyX2, rfl, by decide, gt_2 (List.mem_of_getElem? (i := 20) rfl) rfl, wi_X2, tyX2_ok, nmX2, rfl, by decide +kernel, rfl⟩
theorem fk_X0_45 : FLk RX0 45 2 1 (.array .byte) true := ⟨_, _, _, tyX2, rfl, by decide, gt_2 (List.mem_of_getElem? (i := 21) rfl) rfl, wi_X2, tyX2_ok, nmX2, rfl, by decide +kernel, rfl⟩
theorem fk_X2_13 : FLk RX2 13 2 2 (.array .byte) true := ⟨_, _, _, tyX2, rfl, by decide, gt_2 (List.mem_of_getElem? (i := 22) rfl) rfl, wi_X2, tyX2_ok, nmX2, rfl, by decide +kernel, rfl⟩
theorem fk_X0_49 : FLk RX0 49 2 2 (.array .byte) true := ⟨_, _, _, tyX2, rfl, by decide, gt_2 (List.mem_of_getElem? (i := 23) rfl) rfl, wi_X2, tyX2_ok, nmX2, rfl, by decide +kernel, rfl⟩
theorem fk_X2_16 : FLk RX2 16 2 3 (.array .byte) true := ⟨_, _, _, tyX2, rfl, by decide, gt_2 (List.mem_of_getElem? (i := 24) rfl) rfl, wi_X2, tyX2_ok, nmX2, rfl, by decide +kernel, rfl⟩
theorem fk_X0_52 : FLk RX0 52 2 3 (.array .byte) true := ⟨_, _, _, tyX2, rfl, by decide, gt_2 (List.mem_of_getElem? (i := 25) rfl) rfl, wi_X2, tyX2_ok, nmX2, rfl, by decide +kernel, rfl⟩
theorem fk_X3_30 : FLk RX3 30 3 0 (.boolean) false := ⟨_, _, _, tyX3, rfl, by decide, gt_2 (List.mem_of_getElem? (i := 37) rfl) rfl, wi_X3, tyX3_ok, nmX3, rfl, by decide +kernel, rfl⟩
theorem fk_X11_104 : FLk RX11 104 3 0 (.boolean) false := ⟨_, _, _, tyX3, rfl, by decide, gt_2 (List.mem_of_getElem? (i := 38) rfl) rfl, wi_X3, tyX3_ok, nmX3, rfl, by decide +kernel, rfl⟩
theorem fk_X3_10 : FLk RX3 10 3 1 (.object "NextLight$Night") true := ⟨_, _, _, tyX3, rfl, by decide, gt_2 (List.mem_of_getElem? (i := 39) rfl) rfl, wi_X3, tyX3_ok, nmX3, rfl, by decide +kernel, rfl⟩
theorem fk_X11_285 : FLk RX11 285 3 1 (.object "NextLight$Night") true := ⟨_, _, _, tyX3, rfl, by decide, gt_2 (List.mem_of_getElem? (i := 40) rfl) rfl, wi_X3, tyX3_ok, nmX3, rfl, by decide +kernel, rfl⟩
theorem fk_X3_19 : FLk RX3 19 3 2 (.object "NextLight$Lines") true := ⟨_, _, _, tyX3, rfl, by decide, gt_2 (List.mem_of_getElem? (i := 41) rfl) rfl, wi_X3, tyX3_ok, nmX3, rfl, by decide +kernel, rfl⟩
theorem fk_X11_292 : FLk RX11 292 3 2 (.object "NextLight$Lines") true := ⟨_, _, _, tyX3, rfl, by decide, gt_2 (List.mem_of_getElem? (i := 42) rfl) rfl, wi_X3, tyX3_ok, nmX3, rfl, by decide +kernel, rfl⟩
theorem fk_X3_26 : FLk RX3 26 3 3 (.object "NextLight$Watched") true := ⟨_, _, _, tyX3, rfl, by decide, gt_2 (List.mem_of_getElem? (i := 43) rfl) rfl, wi_X3, tyX3_ok, nmX3, rfl, by decide +kernel, rfl⟩
theorem fk_X11_296 : FLk RX11 296 3 3 (.object "NextLight$Watched") true := ⟨_, _, _, tyX3, rfl, by decide, gt_2 (List.mem_of_getElem? (i := 44) rfl) rfl, wi_X3, tyX3_ok, nmX3, rfl, by decide +kernel, rfl⟩
theorem fk_X0_12 : FLk RX0 12 0 0 (.object "NextLight$Night") true := ⟨_, _, _, tyX0, rfl, by decide, gt_2 (List.mem_of_getElem? (i := 62) rfl) rfl, wi_X0, tyX0_ok, nmX0, rfl, by decide +kernel, rfl⟩
theorem fk_X0_18 : FLk RX0 18 0 1 (.array .int) true := ⟨_, _, _, tyX0, rfl, by decide, gt_2 (List.mem_of_getElem? (i := 63) rfl) rfl, wi_X0, tyX0_ok, nmX0, rfl, by decide +kernel, rfl⟩
theorem fk_X0_22 : FLk RX0 22 0 2 (.array .int) true := ⟨_, _, _, tyX0, rfl, by decide, gt_2 (List.mem_of_getElem? (i := 64) rfl) rfl, wi_X0, tyX0_ok, nmX0, rfl, by decide +kernel, rfl⟩
theorem fk_X0_28 : FLk RX0 28 0 3 (.boolean) false := ⟨_, _, _, tyX0, rfl, by decide, gt_2 (List.mem_of_getElem? (i := 65) rfl) rfl, wi_X0, tyX0_ok, nmX0, rfl, by decide +kernel, rfl⟩
theorem fk_X0_103 : FLk RX0 103 0 4 (.int) false := ⟨_, _, _, tyX0, rfl, by decide, gt_2 (List.mem_of_getElem? (i := 66) rfl) rfl, wi_X0, tyX0_ok, nmX0, rfl, by decide +kernel, rfl⟩
theorem fk_X11_218 : FLk RX11 218 0 4 (.int) false := ⟨_, _, _, tyX0, rfl, by decide, gt_2 (List.mem_of_getElem? (i := 67) rfl) rfl, wi_X0, tyX0_ok, nmX0, rfl, by decide +kernel, rfl⟩
theorem fk_X0_106 : FLk RX0 106 0 5 (.int) false := ⟨_, _, _, tyX0, rfl, by decide, gt_2 (List.mem_of_getElem? (i := 68) rfl) rfl, wi_X0, tyX0_ok, nmX0, rfl, by decide +kernel, rfl⟩
theorem fk_X0_25 : FLk RX0 25 0 6 (.array .int) true := ⟨_, _, _, tyX0, rfl, by decide, gt_2 (List.mem_of_getElem? (i := 69) rfl) rfl, wi_X0, tyX0_ok, nmX0, rfl, by decide +kernel, rfl⟩
theorem fk_X11_221 : FLk RX11 221 0 6 (.array .int) true := ⟨_, _, _, tyX0, rfl, by decide, gt_2 (List.mem_of_getElem? (i := 70) rfl) rfl, wi_X0, tyX0_ok, nmX0, rfl, by decide +kernel, rfl⟩
theorem fk_X1_9 : FLk RX1 9 1 0 (.array .short) true := ⟨_, _, _, tyX1, rfl, by decide, gt_2 (List.mem_of_getElem? (i := 98) rfl) rfl, wi_X1, tyX1_ok, nmX1, rfl, by decide +kernel, rfl⟩
theorem fk_X1_15 : FLk RX1 15 1 1 (.array .int) true := ⟨_, _, _, tyX1, rfl, by decide, gt_2 (List.mem_of_getElem? (i := 99) rfl) rfl, wi_X1, tyX1_ok, nmX1, rfl, by decide +kernel, rfl⟩
theorem fk_X1_19 : FLk RX1 19 1 2 (.int) false := ⟨_, _, _, tyX1, rfl, by decide, gt_2 (List.mem_of_getElem? (i := 100) rfl) rfl, wi_X1, tyX1_ok, nmX1, rfl, by decide +kernel, rfl⟩
theorem fk_X9_70 : FLk RX9 70 1 2 (.int) false := ⟨_, _, _, tyX1, rfl, by decide, gt_2 (List.mem_of_getElem? (i := 101) rfl) rfl, wi_X1, tyX1_ok, nmX1, rfl, by decide +kernel, rfl⟩
theorem fk_X6_148 : FLk RX6 148 1 2 (.int) false := ⟨_, _, _, tyX1, rfl, by decide, gt_2 (List.mem_of_getElem? (i := 102) rfl) rfl, wi_X1, tyX1_ok, nmX1, rfl, by decide +kernel, rfl⟩
theorem fk_X9_57 : FLk RX9 57 9 0 (.int) false := ⟨_, _, _, tyX9, rfl, by decide, gt_2 (List.mem_of_getElem? (i := 111) rfl) rfl, wi_X9, tyX9_ok, nmX9, rfl, by decide +kernel, rfl⟩
theorem fk_X6_75 : FLk RX6 75 9 0 (.int) false := ⟨_, _, _, tyX9, rfl, by decide, gt_2 (List.mem_of_getElem? (i := 112) rfl) rfl, wi_X9, tyX9_ok, nmX9, rfl, by decide +kernel, rfl⟩
theorem fk_X11_300 : FLk RX11 300 9 0 (.int) false := ⟨_, _, _, tyX9, rfl, by decide, gt_2 (List.mem_of_getElem? (i := 113) rfl) rfl, wi_X9, tyX9_ok, nmX9, rfl, by decide +kernel, rfl⟩
theorem fk_X9_60 : FLk RX9 60 9 1 (.int) false := ⟨_, _, _, tyX9, rfl, by decide, gt_2 (List.mem_of_getElem? (i := 114) rfl) rfl, wi_X9, tyX9_ok, nmX9, rfl, by decide +kernel, rfl⟩
theorem fk_X6_97 : FLk RX6 97 9 1 (.int) false := ⟨_, _, _, tyX9, rfl, by decide, gt_2 (List.mem_of_getElem? (i := 115) rfl) rfl, wi_X9, tyX9_ok, nmX9, rfl, by decide +kernel, rfl⟩
theorem fk_X4_68 : FLk RX4 68 9 1 (.int) false := ⟨_, _, _, tyX9, rfl, by decide, gt_2 (List.mem_of_getElem? (i := 116) rfl) rfl, wi_X9, tyX9_ok, nmX9, rfl, by decide +kernel, rfl⟩
theorem fk_X0_124 : FLk RX0 124 9 1 (.int) false := ⟨_, _, _, tyX9, rfl, by decide, gt_2 (List.mem_of_getElem? (i := 117) rfl) rfl, wi_X9, tyX9_ok, nmX9, rfl, by decide +kernel, rfl⟩
theorem fk_X11_303 : FLk RX11 303 9 1 (.int) false := ⟨_, _, _, tyX9, rfl, by decide, gt_2 (List.mem_of_getElem? (i := 118) rfl) rfl, wi_X9, tyX9_ok, nmX9, rfl, by decide +kernel, rfl⟩
theorem fk_X9_63 : FLk RX9 63 9 2 (.int) false := ⟨_, _, _, tyX9, rfl, by decide, gt_2 (List.mem_of_getElem? (i := 119) rfl) rfl, wi_X9, tyX9_ok, nmX9, rfl, by decide +kernel, rfl⟩
theorem fk_X4_40 : FLk RX4 40 9 2 (.int) false := ⟨_, _, _, tyX9, rfl, by decide, gt_2 (List.mem_of_getElem? (i := 120) rfl) rfl, wi_X9, tyX9_ok, nmX9, rfl, by decide +kernel, rfl⟩
theorem fk_X6_126 : FLk RX6 126 9 2 (.int) false := ⟨_, _, _, tyX9, rfl, by decide, gt_2 (List.mem_of_getElem? (i := 121) rfl) rfl, wi_X9, tyX9_ok, nmX9, rfl, by decide +kernel, rfl⟩
theorem fk_X0_97 : FLk RX0 97 9 2 (.int) false := ⟨_, _, _, tyX9, rfl, by decide, gt_2 (List.mem_of_getElem? (i := 122) rfl) rfl, wi_X9, tyX9_ok, nmX9, rfl, by decide +kernel, rfl⟩
theorem fk_X11_227 : FLk RX11 227 9 2 (.int) false := ⟨_, _, _, tyX9, rfl, by decide, gt_2 (List.mem_of_getElem? (i := 123) rfl) rfl, wi_X9, tyX9_ok, nmX9, rfl, by decide +kernel, rfl⟩
theorem fk_X9_11 : FLk RX9 11 9 3 (.int) false := ⟨_, _, _, tyX9, rfl, by decide, gt_2 (List.mem_of_getElem? (i := 124) rfl) rfl, wi_X9, tyX9_ok, nmX9, rfl, by decide +kernel, rfl⟩
theorem fk_X6_141 : FLk RX6 141 9 3 (.int) false := ⟨_, _, _, tyX9, rfl, by decide, gt_2 (List.mem_of_getElem? (i := 125) rfl) rfl, wi_X9, tyX9_ok, nmX9, rfl, by decide +kernel, rfl⟩
theorem fk_X4_118 : FLk RX4 118 9 3 (.int) false := ⟨_, _, _, tyX9, rfl, by decide, gt_2 (List.mem_of_getElem? (i := 126) rfl) rfl, wi_X9, tyX9_ok, nmX9, rfl, by decide +kernel, rfl⟩
theorem fk_X9_66 : FLk RX9 66 9 4 (.boolean) false := ⟨_, _, _, tyX9, rfl, by decide, gt_2 (List.mem_of_getElem? (i := 127) rfl) rfl, wi_X9, tyX9_ok, nmX9, rfl, by decide +kernel, rfl⟩
theorem fk_X6_137 : FLk RX6 137 9 4 (.boolean) false := ⟨_, _, _, tyX9, rfl, by decide, gt_2 (List.mem_of_getElem? (i := 128) rfl) rfl, wi_X9, tyX9_ok, nmX9, rfl, by decide +kernel, rfl⟩
theorem fk_X9_18 : FLk RX9 18 9 5 (.object "NextLight$Law") true := ⟨_, _, _, tyX9, rfl, by decide, gt_2 (List.mem_of_getElem? (i := 129) rfl) rfl, wi_X9, tyX9_ok, nmX9, rfl, by decide +kernel, rfl⟩
theorem fk_X6_144 : FLk RX6 144 9 5 (.object "NextLight$Law") true := ⟨_, _, _, tyX9, rfl, by decide, gt_2 (List.mem_of_getElem? (i := 130) rfl) rfl, wi_X9, tyX9_ok, nmX9, rfl, by decide +kernel, rfl⟩
theorem fk_X4_105 : FLk RX4 105 9 5 (.object "NextLight$Law") true := ⟨_, _, _, tyX9, rfl, by decide, gt_2 (List.mem_of_getElem? (i := 131) rfl) rfl, wi_X9, tyX9_ok, nmX9, rfl, by decide +kernel, rfl⟩
theorem fk_X9_22 : FLk RX9 22 9 6 (.array .long) true := ⟨_, _, _, tyX9, rfl, by decide, gt_2 (List.mem_of_getElem? (i := 132) rfl) rfl, wi_X9, tyX9_ok, nmX9, rfl, by decide +kernel, rfl⟩
theorem fk_X9_26 : FLk RX9 26 9 7 (.array .int) true := ⟨_, _, _, tyX9, rfl, by decide, gt_2 (List.mem_of_getElem? (i := 133) rfl) rfl, wi_X9, tyX9_ok, nmX9, rfl, by decide +kernel, rfl⟩
theorem fk_X11_116 : FLk RX11 116 9 7 (.array .int) true := ⟨_, _, _, tyX9, rfl, by decide, gt_2 (List.mem_of_getElem? (i := 134) rfl) rfl, wi_X9, tyX9_ok, nmX9, rfl, by decide +kernel, rfl⟩
theorem fk_X9_30 : FLk RX9 30 9 8 (.array .int) true := ⟨_, _, _, tyX9, rfl, by decide, gt_2 (List.mem_of_getElem? (i := 135) rfl) rfl, wi_X9, tyX9_ok, nmX9, rfl, by decide +kernel, rfl⟩
theorem fk_X11_120 : FLk RX11 120 9 8 (.array .int) true := ⟨_, _, _, tyX9, rfl, by decide, gt_2 (List.mem_of_getElem? (i := 136) rfl) rfl, wi_X9, tyX9_ok, nmX9, rfl, by decide +kernel, rfl⟩
theorem fk_X9_33 : FLk RX9 33 9 9 (.array .int) true := ⟨_, _, _, tyX9, rfl, by decide, gt_2 (List.mem_of_getElem? (i := 137) rfl) rfl, wi_X9, tyX9_ok, nmX9, rfl, by decide +kernel, rfl⟩
theorem fk_X11_123 : FLk RX11 123 9 9 (.array .int) true := ⟨_, _, _, tyX9, rfl, by decide, gt_2 (List.mem_of_getElem? (i := 138) rfl) rfl, wi_X9, tyX9_ok, nmX9, rfl, by decide +kernel, rfl⟩
theorem fk_X4_109 : FLk RX4 109 9 9 (.array .int) true := ⟨_, _, _, tyX9, rfl, by decide, gt_2 (List.mem_of_getElem? (i := 139) rfl) rfl, wi_X9, tyX9_ok, nmX9, rfl, by decide +kernel, rfl⟩
theorem fk_X9_36 : FLk RX9 36 9 10 (.array .long) true := ⟨_, _, _, tyX9, rfl, by decide, gt_2 (List.mem_of_getElem? (i := 140) rfl) rfl, wi_X9, tyX9_ok, nmX9, rfl, by decide +kernel, rfl⟩
theorem fk_X9_39 : FLk RX9 39 9 11 (.array .int) true := ⟨_, _, _, tyX9, rfl, by decide, gt_2 (List.mem_of_getElem? (i := 141) rfl) rfl, wi_X9, tyX9_ok, nmX9, rfl, by decide +kernel, rfl⟩
theorem fk_X11_132 : FLk RX11 132 9 11 (.array .int) true := ⟨_, _, _, tyX9, rfl, by decide, gt_2 (List.mem_of_getElem? (i := 142) rfl) rfl, wi_X9, tyX9_ok, nmX9, rfl, by decide +kernel, rfl⟩
theorem fk_X4_102 : FLk RX4 102 9 11 (.array .int) true := ⟨_, _, _, tyX9, rfl, by decide, gt_2 (List.mem_of_getElem? (i := 143) rfl) rfl, wi_X9, tyX9_ok, nmX9, rfl, by decide +kernel, rfl⟩
theorem fk_X9_42 : FLk RX9 42 9 12 (.array .int) true := ⟨_, _, _, tyX9, rfl, by decide, gt_2 (List.mem_of_getElem? (i := 144) rfl) rfl, wi_X9, tyX9_ok, nmX9, rfl, by decide +kernel, rfl⟩
theorem fk_X4_45 : FLk RX4 45 9 12 (.array .int) true := ⟨_, _, _, tyX9, rfl, by decide, gt_2 (List.mem_of_getElem? (i := 145) rfl) rfl, wi_X9, tyX9_ok, nmX9, rfl, by decide +kernel, rfl⟩
theorem fk_X9_45 : FLk RX9 45 9 13 (.array .int) true := ⟨_, _, _, tyX9, rfl, by decide, gt_2 (List.mem_of_getElem? (i := 146) rfl) rfl, wi_X9, tyX9_ok, nmX9, rfl, by decide +kernel, rfl⟩
theorem fk_X4_48 : FLk RX4 48 9 13 (.array .int) true := ⟨_, _, _, tyX9, rfl, by decide, gt_2 (List.mem_of_getElem? (i := 147) rfl) rfl, wi_X9, tyX9_ok, nmX9, rfl, by decide +kernel, rfl⟩
theorem fk_X9_48 : FLk RX9 48 9 14 (.array .int) true := ⟨_, _, _, tyX9, rfl, by decide, gt_2 (List.mem_of_getElem? (i := 148) rfl) rfl, wi_X9, tyX9_ok, nmX9, rfl, by decide +kernel, rfl⟩
theorem fk_X4_51 : FLk RX4 51 9 14 (.array .int) true := ⟨_, _, _, tyX9, rfl, by decide, gt_2 (List.mem_of_getElem? (i := 149) rfl) rfl, wi_X9, tyX9_ok, nmX9, rfl, by decide +kernel, rfl⟩
theorem fk_X9_51 : FLk RX9 51 9 15 (.array .int) true := ⟨_, _, _, tyX9, rfl, by decide, gt_2 (List.mem_of_getElem? (i := 150) rfl) rfl, wi_X9, tyX9_ok, nmX9, rfl, by decide +kernel, rfl⟩
theorem fk_X9_54 : FLk RX9 54 9 16 (.array .int) true := ⟨_, _, _, tyX9, rfl, by decide, gt_2 (List.mem_of_getElem? (i := 151) rfl) rfl, wi_X9, tyX9_ok, nmX9, rfl, by decide +kernel, rfl⟩
theorem fk_X11_10 : FLk RX11 10 11 0 (.object "NextLight$Tape") true := ⟨_, _, _, tyX11, rfl, by decide, gt_2 (List.mem_of_getElem? (i := 189) rfl) rfl, wi_X11, tyX11_ok, nmX11, rfl, by decide +kernel, rfl⟩
theorem fk_X11_21 : FLk RX11 21 11 1 (.object "NextLight$Reader") true := ⟨_, _, _, tyX11, rfl, by decide, gt_2 (List.mem_of_getElem? (i := 190) rfl) rfl, wi_X11, tyX11_ok, nmX11, rfl, by decide +kernel, rfl⟩
theorem fk_X11_28 : FLk RX11 28 11 2 (.object "NextLight$Night") true := ⟨_, _, _, tyX11, rfl, by decide, gt_2 (List.mem_of_getElem? (i := 191) rfl) rfl, wi_X11, tyX11_ok, nmX11, rfl, by decide +kernel, rfl⟩
theorem fk_X11_35 : FLk RX11 35 11 3 (.object "NextLight$Past") true := ⟨_, _, _, tyX11, rfl, by decide, gt_2 (List.mem_of_getElem? (i := 192) rfl) rfl, wi_X11, tyX11_ok, nmX11, rfl, by decide +kernel, rfl⟩
theorem fk_X11_42 : FLk RX11 42 11 4 (.object "NextLight$Watched") true := ⟨_, _, _, tyX11, rfl, by decide, gt_2 (List.mem_of_getElem? (i := 193) rfl) rfl, wi_X11, tyX11_ok, nmX11, rfl, by decide +kernel, rfl⟩
theorem fk_X11_48 : FLk RX11 48 11 5 (.array (.object "NextLight$Mark")) true := ⟨_, _, _, tyX11, rfl, by decide, gt_2 (List.mem_of_getElem? (i := 194) rfl) rfl, wi_X11, tyX11_ok, nmX11, rfl, by decide +kernel, rfl⟩
theorem fk_X11_56 : FLk RX11 56 11 6 (.object "NextLight$Ahead") true := ⟨_, _, _, tyX11, rfl, by decide, gt_2 (List.mem_of_getElem? (i := 195) rfl) rfl, wi_X11, tyX11_ok, nmX11, rfl, by decide +kernel, rfl⟩
theorem fk_X11_63 : FLk RX11 63 11 7 (.object "NextLight$Town") false := ⟨_, _, _, tyX11, rfl, by decide, gt_2 (List.mem_of_getElem? (i := 196) rfl) rfl, wi_X11, tyX11_ok, nmX11, rfl, by decide +kernel, rfl⟩
theorem fk_X11_67 : FLk RX11 67 11 8 (.object "NextLight$Town") false := ⟨_, _, _, tyX11, rfl, by decide, gt_2 (List.mem_of_getElem? (i := 197) rfl) rfl, wi_X11, tyX11_ok, nmX11, rfl, by decide +kernel, rfl⟩
theorem fk_X11_73 : FLk RX11 73 11 9 (.object "NextLight$Lines") false := ⟨_, _, _, tyX11, rfl, by decide, gt_2 (List.mem_of_getElem? (i := 198) rfl) rfl, wi_X11, tyX11_ok, nmX11, rfl, by decide +kernel, rfl⟩
theorem fk_X11_77 : FLk RX11 77 11 10 (.object "NextLight$Lines") false := ⟨_, _, _, tyX11, rfl, by decide, gt_2 (List.mem_of_getElem? (i := 199) rfl) rfl, wi_X11, tyX11_ok, nmX11, rfl, by decide +kernel, rfl⟩
theorem fk_X12_169 : FLk RX12 169 12 0 (.int) false := ⟨_, _, _, tyX12, rfl, by decide, gt_6 (List.mem_of_getElem? (i := 11) rfl) rfl, wi_X12, tyX12_ok, nmX12, rfl, by decide +kernel, rfl⟩
theorem fk_X12_174 : FLk RX12 174 12 1 (.int) false := ⟨_, _, _, tyX12, rfl, by decide, gt_6 (List.mem_of_getElem? (i := 12) rfl) rfl, wi_X12, tyX12_ok, nmX12, rfl, by decide +kernel, rfl⟩
theorem fk_X12_7 : FLk RX12 7 12 2 (.array .int) true := ⟨_, _, _, tyX12, rfl, by decide, gt_6 (List.mem_of_getElem? (i := 13) rfl) rfl, wi_X12, tyX12_ok, nmX12, rfl, by decide +kernel, rfl⟩
theorem fk_X12_177 : FLk RX12 177 12 3 (.int) false := ⟨_, _, _, tyX12, rfl, by decide, gt_6 (List.mem_of_getElem? (i := 14) rfl) rfl, wi_X12, tyX12_ok, nmX12, rfl, by decide +kernel, rfl⟩
theorem fk_X12_180 : FLk RX12 180 12 4 (.int) false := ⟨_, _, _, tyX12, rfl, by decide, gt_6 (List.mem_of_getElem? (i := 15) rfl) rfl, wi_X12, tyX12_ok, nmX12, rfl, by decide +kernel, rfl⟩
theorem fk_X12_183 : FLk RX12 183 12 5 (.int) false := ⟨_, _, _, tyX12, rfl, by decide, gt_6 (List.mem_of_getElem? (i := 16) rfl) rfl, wi_X12, tyX12_ok, nmX12, rfl, by decide +kernel, rfl⟩
theorem fk_X12_193 : FLk RX12 193 12 6 (.int) false := ⟨_, _, _, tyX12, rfl, by decide, gt_6 (List.mem_of_getElem? (i := 17) rfl) rfl, wi_X12, tyX12_ok, nmX12, rfl, by decide +kernel, rfl⟩
theorem fk_X12_186 : FLk RX12 186 12 7 (.long) false := ⟨_, _, _, tyX12, rfl, by decide, gt_6 (List.mem_of_getElem? (i := 18) rfl) rfl, wi_X12, tyX12_ok, nmX12, rfl, by decide +kernel, rfl⟩
theorem fk_X12_190 : FLk RX12 190 12 8 (.int) false := ⟨_, _, _, tyX12, rfl, by decide, gt_6 (List.mem_of_getElem? (i := 19) rfl) rfl, wi_X12, tyX12_ok, nmX12, rfl, by decide +kernel, rfl⟩
theorem fk_X12_204 : FLk RX12 204 12 9 (.int) false := ⟨_, _, _, tyX12, rfl, by decide, gt_6 (List.mem_of_getElem? (i := 20) rfl) rfl, wi_X12, tyX12_ok, nmX12, rfl, by decide +kernel, rfl⟩
theorem fk_X12_13 : FLk RX12 13 12 10 (.array .int) true := ⟨_, _, _, tyX12, rfl, by decide, gt_6 (List.mem_of_getElem? (i := 21) rfl) rfl, wi_X12, tyX12_ok, nmX12, rfl, by decide +kernel, rfl⟩
theorem fk_X12_16 : FLk RX12 16 12 11 (.array .long) true := ⟨_, _, _, tyX12, rfl, by decide, gt_6 (List.mem_of_getElem? (i := 22) rfl) rfl, wi_X12, tyX12_ok, nmX12, rfl, by decide +kernel, rfl⟩
theorem fk_X12_20 : FLk RX12 20 12 12 (.array .long) true := ⟨_, _, _, tyX12, rfl, by decide, gt_6 (List.mem_of_getElem? (i := 23) rfl) rfl, wi_X12, tyX12_ok, nmX12, rfl, by decide +kernel, rfl⟩
theorem fk_X12_23 : FLk RX12 23 12 13 (.array .int) true := ⟨_, _, _, tyX12, rfl, by decide, gt_6 (List.mem_of_getElem? (i := 24) rfl) rfl, wi_X12, tyX12_ok, nmX12, rfl, by decide +kernel, rfl⟩
theorem fk_X12_26 : FLk RX12 26 12 14 (.array .int) true := ⟨_, _, _, tyX12, rfl, by decide, gt_6 (List.mem_of_getElem? (i := 25) rfl) rfl, wi_X12, tyX12_ok, nmX12, rfl, by decide +kernel, rfl⟩
theorem fk_X12_29 : FLk RX12 29 12 15 (.array .int) true := ⟨_, _, _, tyX12, rfl, by decide, gt_6 (List.mem_of_getElem? (i := 26) rfl) rfl, wi_X12, tyX12_ok, nmX12, rfl, by decide +kernel, rfl⟩
theorem fk_X12_32 : FLk RX12 32 12 16 (.array .int) true := ⟨_, _, _, tyX12, rfl, by decide, gt_6 (List.mem_of_getElem? (i := 27) rfl) rfl, wi_X12, tyX12_ok, nmX12, rfl, by decide +kernel, rfl⟩
theorem fk_X12_35 : FLk RX12 35 12 17 (.array .int) true := ⟨_, _, _, tyX12, rfl, by decide, gt_6 (List.mem_of_getElem? (i := 28) rfl) rfl, wi_X12, tyX12_ok, nmX12, rfl, by decide +kernel, rfl⟩
theorem fk_X12_38 : FLk RX12 38 12 18 (.array .int) true := ⟨_, _, _, tyX12, rfl, by decide, gt_6 (List.mem_of_getElem? (i := 29) rfl) rfl, wi_X12, tyX12_ok, nmX12, rfl, by decide +kernel, rfl⟩
theorem fk_X12_41 : FLk RX12 41 12 19 (.array .int) true := ⟨_, _, _, tyX12, rfl, by decide, gt_6 (List.mem_of_getElem? (i := 30) rfl) rfl, wi_X12, tyX12_ok, nmX12, rfl, by decide +kernel, rfl⟩
theorem fk_X12_44 : FLk RX12 44 12 20 (.array .int) true := ⟨_, _, _, tyX12, rfl, by decide, gt_6 (List.mem_of_getElem? (i := 31) rfl) rfl, wi_X12, tyX12_ok, nmX12, rfl, by decide +kernel, rfl⟩
theorem fk_X12_47 : FLk RX12 47 12 21 (.array .int) true := ⟨_, _, _, tyX12, rfl, by decide, gt_6 (List.mem_of_getElem? (i := 32) rfl) rfl, wi_X12, tyX12_ok, nmX12, rfl, by decide +kernel, rfl⟩
theorem fk_X12_50 : FLk RX12 50 12 22 (.array .int) true := ⟨_, _, _, tyX12, rfl, by decide, gt_6 (List.mem_of_getElem? (i := 33) rfl) rfl, wi_X12, tyX12_ok, nmX12, rfl, by decide +kernel, rfl⟩
theorem fk_X12_207 : FLk RX12 207 12 23 (.int) false := ⟨_, _, _, tyX12, rfl, by decide, gt_6 (List.mem_of_getElem? (i := 34) rfl) rfl, wi_X12, tyX12_ok, nmX12, rfl, by decide +kernel, rfl⟩
theorem fk_X12_332 : FLk RX12 332 12 24 (.boolean) false := ⟨_, _, _, tyX12, rfl, by decide, gt_6 (List.mem_of_getElem? (i := 35) rfl) rfl, wi_X12, tyX12_ok, nmX12, rfl, by decide +kernel, rfl⟩
theorem fk_X12_53 : FLk RX12 53 12 25 (.array .int) true := ⟨_, _, _, tyX12, rfl, by decide, gt_6 (List.mem_of_getElem? (i := 36) rfl) rfl, wi_X12, tyX12_ok, nmX12, rfl, by decide +kernel, rfl⟩
theorem fk_X12_56 : FLk RX12 56 12 26 (.array .boolean) true := ⟨_, _, _, tyX12, rfl, by decide, gt_6 (List.mem_of_getElem? (i := 37) rfl) rfl, wi_X12, tyX12_ok, nmX12, rfl, by decide +kernel, rfl⟩
theorem fk_X12_60 : FLk RX12 60 12 27 (.array .int) true := ⟨_, _, _, tyX12, rfl, by decide, gt_6 (List.mem_of_getElem? (i := 38) rfl) rfl, wi_X12, tyX12_ok, nmX12, rfl, by decide +kernel, rfl⟩
theorem fk_X12_63 : FLk RX12 63 12 28 (.array .int) true := ⟨_, _, _, tyX12, rfl, by decide, gt_6 (List.mem_of_getElem? (i := 39) rfl) rfl, wi_X12, tyX12_ok, nmX12, rfl, by decide +kernel, rfl⟩
theorem fk_X12_66 : FLk RX12 66 12 29 (.array .int) true := ⟨_, _, _, tyX12, rfl, by decide, gt_6 (List.mem_of_getElem? (i := 40) rfl) rfl, wi_X12, tyX12_ok, nmX12, rfl, by decide +kernel, rfl⟩
theorem fk_X12_69 : FLk RX12 69 12 30 (.array .int) true := ⟨_, _, _, tyX12, rfl, by decide, gt_6 (List.mem_of_getElem? (i := 41) rfl) rfl, wi_X12, tyX12_ok, nmX12, rfl, by decide +kernel, rfl⟩
theorem fk_X12_72 : FLk RX12 72 12 31 (.array .int) true := ⟨_, _, _, tyX12, rfl, by decide, gt_6 (List.mem_of_getElem? (i := 42) rfl) rfl, wi_X12, tyX12_ok, nmX12, rfl, by decide +kernel, rfl⟩
theorem fk_X12_75 : FLk RX12 75 12 32 (.array .int) true := ⟨_, _, _, tyX12, rfl, by decide, gt_6 (List.mem_of_getElem? (i := 43) rfl) rfl, wi_X12, tyX12_ok, nmX12, rfl, by decide +kernel, rfl⟩
theorem fk_X12_78 : FLk RX12 78 12 33 (.array .int) true := ⟨_, _, _, tyX12, rfl, by decide, gt_6 (List.mem_of_getElem? (i := 44) rfl) rfl, wi_X12, tyX12_ok, nmX12, rfl, by decide +kernel, rfl⟩
theorem fk_X12_81 : FLk RX12 81 12 34 (.array .int) true := ⟨_, _, _, tyX12, rfl, by decide, gt_6 (List.mem_of_getElem? (i := 45) rfl) rfl, wi_X12, tyX12_ok, nmX12, rfl, by decide +kernel, rfl⟩
theorem fk_X12_84 : FLk RX12 84 12 35 (.array .int) true := ⟨_, _, _, tyX12, rfl, by decide, gt_6 (List.mem_of_getElem? (i := 46) rfl) rfl, wi_X12, tyX12_ok, nmX12, rfl, by decide +kernel, rfl⟩
theorem fk_X12_87 : FLk RX12 87 12 36 (.array .int) true := ⟨_, _, _, tyX12, rfl, by decide, gt_6 (List.mem_of_getElem? (i := 47) rfl) rfl, wi_X12, tyX12_ok, nmX12, rfl, by decide +kernel, rfl⟩
theorem fk_X12_291 : FLk RX12 291 12 37 (.int) false := ⟨_, _, _, tyX12, rfl, by decide, gt_6 (List.mem_of_getElem? (i := 48) rfl) rfl, wi_X12, tyX12_ok, nmX12, rfl, by decide +kernel, rfl⟩
theorem fk_X12_304 : FLk RX12 304 12 38 (.long) false := ⟨_, _, _, tyX12, rfl, by decide, gt_6 (List.mem_of_getElem? (i := 49) rfl) rfl, wi_X12, tyX12_ok, nmX12, rfl, by decide +kernel, rfl⟩
theorem fk_X12_309 : FLk RX12 309 12 39 (.int) false := ⟨_, _, _, tyX12, rfl, by decide, gt_6 (List.mem_of_getElem? (i := 50) rfl) rfl, wi_X12, tyX12_ok, nmX12, rfl, by decide +kernel, rfl⟩
theorem fk_X12_90 : FLk RX12 90 12 40 (.array .int) true := ⟨_, _, _, tyX12, rfl, by decide, gt_6 (List.mem_of_getElem? (i := 51) rfl) rfl, wi_X12, tyX12_ok, nmX12, rfl, by decide +kernel, rfl⟩
theorem fk_X12_93 : FLk RX12 93 12 41 (.array .int) true := ⟨_, _, _, tyX12, rfl, by decide, gt_6 (List.mem_of_getElem? (i := 52) rfl) rfl, wi_X12, tyX12_ok, nmX12, rfl, by decide +kernel, rfl⟩
theorem fk_X12_96 : FLk RX12 96 12 42 (.array .int) true := ⟨_, _, _, tyX12, rfl, by decide, gt_6 (List.mem_of_getElem? (i := 53) rfl) rfl, wi_X12, tyX12_ok, nmX12, rfl, by decide +kernel, rfl⟩
theorem fk_X12_99 : FLk RX12 99 12 43 (.array .int) true := ⟨_, _, _, tyX12, rfl, by decide, gt_6 (List.mem_of_getElem? (i := 54) rfl) rfl, wi_X12, tyX12_ok, nmX12, rfl, by decide +kernel, rfl⟩
theorem fk_X12_102 : FLk RX12 102 12 44 (.array .int) true := ⟨_, _, _, tyX12, rfl, by decide, gt_6 (List.mem_of_getElem? (i := 55) rfl) rfl, wi_X12, tyX12_ok, nmX12, rfl, by decide +kernel, rfl⟩
theorem fk_X12_105 : FLk RX12 105 12 45 (.array .int) true := ⟨_, _, _, tyX12, rfl, by decide, gt_6 (List.mem_of_getElem? (i := 56) rfl) rfl, wi_X12, tyX12_ok, nmX12, rfl, by decide +kernel, rfl⟩
theorem fk_X12_108 : FLk RX12 108 12 46 (.array .int) true := ⟨_, _, _, tyX12, rfl, by decide, gt_6 (List.mem_of_getElem? (i := 57) rfl) rfl, wi_X12, tyX12_ok, nmX12, rfl, by decide +kernel, rfl⟩
theorem fk_X12_111 : FLk RX12 111 12 47 (.array .int) true := ⟨_, _, _, tyX12, rfl, by decide, gt_6 (List.mem_of_getElem? (i := 58) rfl) rfl, wi_X12, tyX12_ok, nmX12, rfl, by decide +kernel, rfl⟩
theorem fk_X12_114 : FLk RX12 114 12 48 (.array .boolean) true := ⟨_, _, _, tyX12, rfl, by decide, gt_6 (List.mem_of_getElem? (i := 59) rfl) rfl, wi_X12, tyX12_ok, nmX12, rfl, by decide +kernel, rfl⟩
theorem fk_X12_117 : FLk RX12 117 12 49 (.array .int) true := ⟨_, _, _, tyX12, rfl, by decide, gt_6 (List.mem_of_getElem? (i := 60) rfl) rfl, wi_X12, tyX12_ok, nmX12, rfl, by decide +kernel, rfl⟩
theorem fk_X12_120 : FLk RX12 120 12 50 (.array .int) true := ⟨_, _, _, tyX12, rfl, by decide, gt_6 (List.mem_of_getElem? (i := 61) rfl) rfl, wi_X12, tyX12_ok, nmX12, rfl, by decide +kernel, rfl⟩
theorem fk_X12_123 : FLk RX12 123 12 51 (.array .int) true := ⟨_, _, _, tyX12, rfl, by decide, gt_6 (List.mem_of_getElem? (i := 62) rfl) rfl, wi_X12, tyX12_ok, nmX12, rfl, by decide +kernel, rfl⟩
theorem fk_X12_126 : FLk RX12 126 12 52 (.array .int) true := ⟨_, _, _, tyX12, rfl, by decide, gt_6 (List.mem_of_getElem? (i := 63) rfl) rfl, wi_X12, tyX12_ok, nmX12, rfl, by decide +kernel, rfl⟩
theorem fk_X12_129 : FLk RX12 129 12 53 (.array .int) true := ⟨_, _, _, tyX12, rfl, by decide, gt_6 (List.mem_of_getElem? (i := 64) rfl) rfl, wi_X12, tyX12_ok, nmX12, rfl, by decide +kernel, rfl⟩
theorem fk_X12_132 : FLk RX12 132 12 54 (.array .boolean) true := ⟨_, _, _, tyX12, rfl, by decide, gt_6 (List.mem_of_getElem? (i := 65) rfl) rfl, wi_X12, tyX12_ok, nmX12, rfl, by decide +kernel, rfl⟩
theorem fk_X12_377 : FLk RX12 377 12 55 (.int) false := ⟨_, _, _, tyX12, rfl, by decide, gt_6 (List.mem_of_getElem? (i := 66) rfl) rfl, wi_X12, tyX12_ok, nmX12, rfl, by decide +kernel, rfl⟩
theorem fk_X12_396 : FLk RX12 396 12 56 (.int) false := ⟨_, _, _, tyX12, rfl, by decide, gt_6 (List.mem_of_getElem? (i := 67) rfl) rfl, wi_X12, tyX12_ok, nmX12, rfl, by decide +kernel, rfl⟩
theorem fk_X12_135 : FLk RX12 135 12 57 (.int) false := ⟨_, _, _, tyX12, rfl, by decide, gt_6 (List.mem_of_getElem? (i := 68) rfl) rfl, wi_X12, tyX12_ok, nmX12, rfl, by decide +kernel, rfl⟩
theorem fk_X12_139 : FLk RX12 139 12 58 (.array .int) true := ⟨_, _, _, tyX12, rfl, by decide, gt_6 (List.mem_of_getElem? (i := 69) rfl) rfl, wi_X12, tyX12_ok, nmX12, rfl, by decide +kernel, rfl⟩
theorem fk_X12_142 : FLk RX12 142 12 59 (.array .int) true := ⟨_, _, _, tyX12, rfl, by decide, gt_6 (List.mem_of_getElem? (i := 70) rfl) rfl, wi_X12, tyX12_ok, nmX12, rfl, by decide +kernel, rfl⟩
theorem fk_X12_454 : FLk RX12 454 12 60 (.int) false := ⟨_, _, _, tyX12, rfl, by decide, gt_6 (List.mem_of_getElem? (i := 71) rfl) rfl, wi_X12, tyX12_ok, nmX12, rfl, by decide +kernel, rfl⟩
theorem fk_X12_457 : FLk RX12 457 12 61 (.int) false := ⟨_, _, _, tyX12, rfl, by decide, gt_6 (List.mem_of_getElem? (i := 72) rfl) rfl, wi_X12, tyX12_ok, nmX12, rfl, by decide +kernel, rfl⟩
theorem fk_X12_460 : FLk RX12 460 12 62 (.int) false := ⟨_, _, _, tyX12, rfl, by decide, gt_6 (List.mem_of_getElem? (i := 73) rfl) rfl, wi_X12, tyX12_ok, nmX12, rfl, by decide +kernel, rfl⟩
theorem fk_X12_463 : FLk RX12 463 12 63 (.int) false := ⟨_, _, _, tyX12, rfl, by decide, gt_6 (List.mem_of_getElem? (i := 74) rfl) rfl, wi_X12, tyX12_ok, nmX12, rfl, by decide +kernel, rfl⟩
theorem fk_X12_145 : FLk RX12 145 12 64 (.array .int) true := ⟨_, _, _, tyX12, rfl, by decide, gt_6 (List.mem_of_getElem? (i := 75) rfl) rfl, wi_X12, tyX12_ok, nmX12, rfl, by decide +kernel, rfl⟩
theorem fk_X12_148 : FLk RX12 148 12 65 (.array .int) true := ⟨_, _, _, tyX12, rfl, by decide, gt_6 (List.mem_of_getElem? (i := 76) rfl) rfl, wi_X12, tyX12_ok, nmX12, rfl, by decide +kernel, rfl⟩
theorem fk_X12_151 : FLk RX12 151 12 66 (.array .int) true := ⟨_, _, _, tyX12, rfl, by decide, gt_6 (List.mem_of_getElem? (i := 77) rfl) rfl, wi_X12, tyX12_ok, nmX12, rfl, by decide +kernel, rfl⟩
theorem fk_X12_154 : FLk RX12 154 12 67 (.array .int) true := ⟨_, _, _, tyX12, rfl, by decide, gt_6 (List.mem_of_getElem? (i := 78) rfl) rfl, wi_X12, tyX12_ok, nmX12, rfl, by decide +kernel, rfl⟩
theorem fk_X12_157 : FLk RX12 157 12 68 (.array .int) true := ⟨_, _, _, tyX12, rfl, by decide, gt_6 (List.mem_of_getElem? (i := 79) rfl) rfl, wi_X12, tyX12_ok, nmX12, rfl, by decide +kernel, rfl⟩
theorem fk_X12_481 : FLk RX12 481 12 69 (.int) false := ⟨_, _, _, tyX12, rfl, by decide, gt_6 (List.mem_of_getElem? (i := 80) rfl) rfl, wi_X12, tyX12_ok, nmX12, rfl, by decide +kernel, rfl⟩
theorem fk_X12_484 : FLk RX12 484 12 70 (.int) false := ⟨_, _, _, tyX12, rfl, by decide, gt_6 (List.mem_of_getElem? (i := 81) rfl) rfl, wi_X12, tyX12_ok, nmX12, rfl, by decide +kernel, rfl⟩
theorem fk_X12_160 : FLk RX12 160 12 71 (.array .int) true := ⟨_, _, _, tyX12, rfl, by decide, gt_6 (List.mem_of_getElem? (i := 82) rfl) rfl, wi_X12, tyX12_ok, nmX12, rfl, by decide +kernel, rfl⟩
theorem fk_X12_506 : FLk RX12 506 12 72 (.long) false := ⟨_, _, _, tyX12, rfl, by decide, gt_6 (List.mem_of_getElem? (i := 83) rfl) rfl, wi_X12, tyX12_ok, nmX12, rfl, by decide +kernel, rfl⟩
theorem lk_L_19 : Cond.methodLink RL 19 yX11_init ∈ GT := gt_1 (List.mem_of_getElem? (i := 28) rfl) rfl
theorem lk_X11_18 : Cond.methodLink RX11 18 yX6_init ∈ GT := gt_1 (List.mem_of_getElem? (i := 53) rfl) rfl
theorem lk_X6_11 : Cond.methodLink RX6 11 yX8_init ∈ GT := gt_1 (List.mem_of_getElem? (i := 59) rfl) rfl
theorem lk_X8_21 : Cond.methodLink RX8 21 yJ0_length_8abf5 ∈ GT := gt_1 (List.mem_of_getElem? (i := 64) rfl) rfl
theorem lk_X8_27 : Cond.methodLink RX8 27 yJ0_charAt_5068e ∈ GT := gt_1 (List.mem_of_getElem? (i := 74) rfl) rfl
theorem lk_X11_34 : Cond.methodLink RX11 34 yX5_init ∈ GT := gt_1 (List.mem_of_getElem? (i := 202) rfl) rfl
theorem lk_L_25 : Cond.methodLink RL 25 yX11_feed ∈ GT := gt_2 (List.mem_of_getElem? (i := 223) rfl) rfl
theorem mkX11_feed : MkV yX11_feed cX11_feed 7 (some .int) 3 11 := ⟨gt_2 (List.mem_of_getElem? (i := 224) rfl) rfl, gt_2 (List.mem_of_getElem? (i := 225) rfl) rfl, gt_1 (List.mem_of_getElem? (i := 1) rfl) rfl, gt_2 (List.mem_of_getElem? (i := 226) rfl) rfl, ⟨by decide +kernel, by decide +kernel, by decide +kernel⟩, ⟨_, _, rfl⟩, by decide⟩
theorem lk_X11_80 : Cond.methodLink RX11 80 yX7_addBytes ∈ GT := gt_2 (List.mem_of_getElem? (i := 227) rfl) rfl
theorem mkX7_addBytes : MkV yX7_addBytes cX7_addBytes 6 none 1 7 := ⟨gt_2 (List.mem_of_getElem? (i := 228) rfl) rfl, gt_2 (List.mem_of_getElem? (i := 229) rfl) rfl, gt_1 (List.mem_of_getElem? (i := 2) rfl) rfl, gt_2 (List.mem_of_getElem? (i := 230) rfl) rfl, ⟨by decide +kernel, by decide +kernel, by decide +kernel⟩, ⟨_, _, rfl⟩, by decide⟩
theorem cn_X7_13 : Cond.constantLong RX7 13 (255) ∈ GT := gt_2 (List.mem_of_getElem? (i := 231) rfl) rfl
theorem lk_L_30 : Cond.methodLink RL 30 yX11_town ∈ GT := gt_2 (List.mem_of_getElem? (i := 232) rfl) rfl
theorem mkX11_town : MkV yX11_town cX11_town 4 (some .int) 0 11 := ⟨gt_2 (List.mem_of_getElem? (i := 233) rfl) rfl, gt_2 (List.mem_of_getElem? (i := 234) rfl) rfl, gt_1 (List.mem_of_getElem? (i := 1) rfl) rfl, gt_2 (List.mem_of_getElem? (i := 235) rfl) rfl, ⟨by decide +kernel, by decide +kernel, by decide +kernel⟩, ⟨_, _, rfl⟩, by decide⟩
theorem lk_X11_88 : Cond.methodLink RX11 88 yX6_readTown ∈ GT := gt_2 (List.mem_of_getElem? (i := 236) rfl) rfl
theorem mkX6_readTown : MkV yX6_readTown cX6_readTown 3 (some .int) 1 6 := ⟨gt_2 (List.mem_of_getElem? (i := 237) rfl) rfl, gt_2 (List.mem_of_getElem? (i := 238) rfl) rfl, gt_1 (List.mem_of_getElem? (i := 3) rfl) rfl, gt_2 (List.mem_of_getElem? (i := 239) rfl) rfl, ⟨by decide +kernel, by decide +kernel, by decide +kernel⟩, ⟨_, _, rfl⟩, by decide⟩
theorem lk_X6_20 : Cond.methodLink RX6 20 yX9_empty ∈ GT := gt_3 (List.mem_of_getElem? (i := 0) rfl) rfl
theorem mkX9_empty : MkV yX9_empty cX9_empty 1 none 0 9 := ⟨gt_3 (List.mem_of_getElem? (i := 1) rfl) rfl, gt_3 (List.mem_of_getElem? (i := 2) rfl) rfl, gt_1 (List.mem_of_getElem? (i := 15) rfl) rfl, gt_3 (List.mem_of_getElem? (i := 3) rfl) rfl, ⟨by decide +kernel, by decide +kernel, by decide +kernel⟩, ⟨_, _, rfl⟩, by decide⟩
theorem lk_X6_29 : Cond.methodLink RX6 29 yX8_restart ∈ GT := gt_3 (List.mem_of_getElem? (i := 4) rfl) rfl
theorem mkX8_restart : MkV yX8_restart cX8_restart 1 none 0 8 := ⟨gt_3 (List.mem_of_getElem? (i := 5) rfl) rfl, gt_3 (List.mem_of_getElem? (i := 6) rfl) rfl, gt_1 (List.mem_of_getElem? (i := 4) rfl) rfl, gt_3 (List.mem_of_getElem? (i := 7) rfl) rfl, ⟨by decide +kernel, by decide +kernel, by decide +kernel⟩, ⟨_, _, rfl⟩, by decide⟩
theorem lk_X8_35 : Cond.methodLink RX8 35 yX8_advance ∈ GT := gt_3 (List.mem_of_getElem? (i := 8) rfl) rfl
theorem mkX8_advance : MkV yX8_advance cX8_advance 2 none 0 8 := ⟨gt_3 (List.mem_of_getElem? (i := 9) rfl) rfl, gt_3 (List.mem_of_getElem? (i := 10) rfl) rfl, gt_1 (List.mem_of_getElem? (i := 4) rfl) rfl, gt_3 (List.mem_of_getElem? (i := 11) rfl) rfl, ⟨by decide +kernel, by decide +kernel, by decide +kernel⟩, ⟨_, _, rfl⟩, by decide⟩
theorem lk_X8_52 : Cond.methodLink RX8 52 yX8_takeWord ∈ GT := gt_3 (List.mem_of_getElem? (i := 12) rfl) rfl
theorem mkX8_takeWord : MkV yX8_takeWord cX8_takeWord 2 none 0 8 := ⟨gt_3 (List.mem_of_getElem? (i := 14) rfl) rfl, gt_p 0 rfl rfl, gt_1 (List.mem_of_getElem? (i := 4) rfl) rfl, gt_3 (List.mem_of_getElem? (i := 15) rfl) rfl, ⟨by decide +kernel, by decide +kernel, by decide +kernel⟩, ⟨_, _, rfl⟩, by decide⟩
theorem lk_X8_55 : Cond.methodLink RX8 55 yX8_takeNumber ∈ GT := gt_3 (List.mem_of_getElem? (i := 16) rfl) rfl
theorem mkX8_takeNumber : MkV yX8_takeNumber cX8_takeNumber 1 none 0 8 := ⟨gt_3 (List.mem_of_getElem? (i := 18) rfl) rfl, gt_p 1 rfl rfl, gt_1 (List.mem_of_getElem? (i := 4) rfl) rfl, gt_3 (List.mem_of_getElem? (i := 19) rfl) rfl, ⟨by decide +kernel, by decide +kernel, by decide +kernel⟩, ⟨_, _, rfl⟩, by decide⟩
theorem lk_X8_60 : Cond.methodLink RX8 60 yJ0_indexOf_0f7a4 ∈ GT := gt_3 (List.mem_of_getElem? (i := 21) rfl) rfl
theorem cn_J2_227 : Cond.constant RJ2 227 (65536) ∈ GT := gt_3 (List.mem_of_getElem? (i := 50) rfl) rfl
theorem cn_J11_110 : Cond.constant RJ11 110 (55232) ∈ GT := gt_3 (List.mem_of_getElem? (i := 75) rfl) rfl
theorem cn_J11_76 : Cond.constant RJ11 76 (56320) ∈ GT := gt_3 (List.mem_of_getElem? (i := 79) rfl) rfl
theorem lk_X6_40 : Cond.methodLink RX6 40 yX6_readPlace ∈ GT := gt_3 (List.mem_of_getElem? (i := 80) rfl) rfl
theorem mkX6_readPlace : MkV yX6_readPlace cX6_readPlace 4 none 1 6 := ⟨gt_3 (List.mem_of_getElem? (i := 82) rfl) rfl, gt_p 2 rfl rfl, gt_1 (List.mem_of_getElem? (i := 3) rfl) rfl, gt_3 (List.mem_of_getElem? (i := 83) rfl) rfl, ⟨by decide +kernel, by decide +kernel, by decide +kernel⟩, ⟨_, _, rfl⟩, by decide⟩
theorem lk_X6_56 : Cond.methodLink RX6 56 yX6_wrong ∈ GT := gt_3 (List.mem_of_getElem? (i := 84) rfl) rfl
theorem mkX6_wrong : MkV yX6_wrong cX6_wrong 2 (some .boolean) 1 6 := ⟨gt_3 (List.mem_of_getElem? (i := 86) rfl) rfl, gt_p 3 rfl rfl, gt_1 (List.mem_of_getElem? (i := 3) rfl) rfl, gt_3 (List.mem_of_getElem? (i := 87) rfl) rfl, ⟨by decide +kernel, by decide +kernel, by decide +kernel⟩, ⟨_, _, rfl⟩, by decide⟩
theorem lk_X6_78 : Cond.methodLink RX6 78 yX8_advance ∈ GT := gt_3 (List.mem_of_getElem? (i := 88) rfl) rfl
theorem lk_X6_81 : Cond.methodLink RX6 81 yX6_isNewName ∈ GT := gt_3 (List.mem_of_getElem? (i := 89) rfl) rfl
theorem mkX6_isNewName : MkV yX6_isNewName cX6_isNewName 2 (some .boolean) 1 6 := ⟨gt_3 (List.mem_of_getElem? (i := 91) rfl) rfl, gt_p 4 rfl rfl, gt_1 (List.mem_of_getElem? (i := 3) rfl) rfl, gt_3 (List.mem_of_getElem? (i := 92) rfl) rfl, ⟨by decide +kernel, by decide +kernel, by decide +kernel⟩, ⟨_, _, rfl⟩, by decide⟩
theorem lk_X6_179 : Cond.methodLink RX6 179 yX8_isName ∈ GT := gt_3 (List.mem_of_getElem? (i := 93) rfl) rfl
theorem mkX8_isName : MkV yX8_isName cX8_isName 1 (some .boolean) 0 8 := ⟨gt_3 (List.mem_of_getElem? (i := 94) rfl) rfl, gt_3 (List.mem_of_getElem? (i := 95) rfl) rfl, gt_1 (List.mem_of_getElem? (i := 4) rfl) rfl, gt_3 (List.mem_of_getElem? (i := 96) rfl) rfl, ⟨by decide +kernel, by decide +kernel, by decide +kernel⟩, ⟨_, _, rfl⟩, by decide⟩
theorem lk_X6_107 : Cond.methodLink RX6 107 yX9_placeNamed ∈ GT := gt_3 (List.mem_of_getElem? (i := 97) rfl) rfl
theorem mkX9_placeNamed : MkV yX9_placeNamed cX9_placeNamed 4 (some .int) 1 9 := ⟨gt_3 (List.mem_of_getElem? (i := 98) rfl) rfl, gt_3 (List.mem_of_getElem? (i := 99) rfl) rfl, gt_1 (List.mem_of_getElem? (i := 15) rfl) rfl, gt_3 (List.mem_of_getElem? (i := 100) rfl) rfl, ⟨by decide +kernel, by decide +kernel, by decide +kernel⟩, ⟨_, _, rfl⟩, by decide⟩
theorem lk_X6_183 : Cond.methodLink RX6 183 yX9_walkerNamed ∈ GT := gt_3 (List.mem_of_getElem? (i := 101) rfl) rfl
theorem mkX9_walkerNamed : MkV yX9_walkerNamed cX9_walkerNamed 4 (some .int) 1 9 := ⟨gt_3 (List.mem_of_getElem? (i := 102) rfl) rfl, gt_3 (List.mem_of_getElem? (i := 103) rfl) rfl, gt_1 (List.mem_of_getElem? (i := 15) rfl) rfl, gt_3 (List.mem_of_getElem? (i := 104) rfl) rfl, ⟨by decide +kernel, by decide +kernel, by decide +kernel⟩, ⟨_, _, rfl⟩, by decide⟩
theorem lk_X6_89 : Cond.methodLink RX6 89 yX6_readSign ∈ GT := gt_3 (List.mem_of_getElem? (i := 105) rfl) rfl
theorem mkX6_readSign : MkV yX6_readSign cX6_readSign 2 (some .boolean) 1 6 := ⟨gt_3 (List.mem_of_getElem? (i := 107) rfl) rfl, gt_p 5 rfl rfl, gt_1 (List.mem_of_getElem? (i := 3) rfl) rfl, gt_3 (List.mem_of_getElem? (i := 108) rfl) rfl, ⟨by decide +kernel, by decide +kernel, by decide +kernel⟩, ⟨_, _, rfl⟩, by decide⟩
theorem lk_X6_171 : Cond.methodLink RX6 171 yX8_isSign ∈ GT := gt_3 (List.mem_of_getElem? (i := 109) rfl) rfl
theorem mkX8_isSign : MkV yX8_isSign cX8_isSign 2 (some .boolean) 1 8 := ⟨gt_3 (List.mem_of_getElem? (i := 110) rfl) rfl, gt_3 (List.mem_of_getElem? (i := 111) rfl) rfl, gt_1 (List.mem_of_getElem? (i := 4) rfl) rfl, gt_3 (List.mem_of_getElem? (i := 112) rfl) rfl, ⟨by decide +kernel, by decide +kernel, by decide +kernel⟩, ⟨_, _, rfl⟩, by decide⟩
theorem lk_X6_93 : Cond.methodLink RX6 93 yX9_addPlace ∈ GT := gt_3 (List.mem_of_getElem? (i := 113) rfl) rfl
theorem mkX9_addPlace : MkV yX9_addPlace cX9_addPlace 3 none 1 9 := ⟨gt_3 (List.mem_of_getElem? (i := 114) rfl) rfl, gt_3 (List.mem_of_getElem? (i := 115) rfl) rfl, gt_1 (List.mem_of_getElem? (i := 15) rfl) rfl, gt_3 (List.mem_of_getElem? (i := 116) rfl) rfl, ⟨by decide +kernel, by decide +kernel, by decide +kernel⟩, ⟨_, _, rfl⟩, by decide⟩
theorem lk_X6_44 : Cond.methodLink RX6 44 yX6_readLane ∈ GT := gt_3 (List.mem_of_getElem? (i := 117) rfl) rfl
theorem mkX6_readLane : MkV yX6_readLane cX6_readLane 5 none 1 6 := ⟨gt_3 (List.mem_of_getElem? (i := 119) rfl) rfl, gt_p 6 rfl rfl, gt_1 (List.mem_of_getElem? (i := 3) rfl) rfl, gt_3 (List.mem_of_getElem? (i := 120) rfl) rfl, ⟨by decide +kernel, by decide +kernel, by decide +kernel⟩, ⟨_, _, rfl⟩, by decide⟩
theorem lk_X6_100 : Cond.methodLink RX6 100 yX6_readPlaceName ∈ GT := gt_3 (List.mem_of_getElem? (i := 121) rfl) rfl
theorem mkX6_readPlaceName : MkV yX6_readPlaceName cX6_readPlaceName 2 (some .int) 1 6 := ⟨gt_3 (List.mem_of_getElem? (i := 123) rfl) rfl, gt_p 7 rfl rfl, gt_1 (List.mem_of_getElem? (i := 3) rfl) rfl, gt_3 (List.mem_of_getElem? (i := 124) rfl) rfl, ⟨by decide +kernel, by decide +kernel, by decide +kernel⟩, ⟨_, _, rfl⟩, by decide⟩
theorem lk_X6_186 : Cond.methodLink RX6 186 yX6_readTold ∈ GT := gt_3 (List.mem_of_getElem? (i := 125) rfl) rfl
theorem mkX6_readTold : MkV yX6_readTold cX6_readTold 2 (some .int) 1 6 := ⟨gt_3 (List.mem_of_getElem? (i := 127) rfl) rfl, gt_p 8 rfl rfl, gt_1 (List.mem_of_getElem? (i := 3) rfl) rfl, gt_3 (List.mem_of_getElem? (i := 128) rfl) rfl, ⟨by decide +kernel, by decide +kernel, by decide +kernel⟩, ⟨_, _, rfl⟩, by decide⟩
theorem lk_X6_104 : Cond.methodLink RX6 104 yX6_isPlaceName ∈ GT := gt_3 (List.mem_of_getElem? (i := 129) rfl) rfl
theorem mkX6_isPlaceName : MkV yX6_isPlaceName cX6_isPlaceName 2 (some .boolean) 1 6 := ⟨gt_3 (List.mem_of_getElem? (i := 131) rfl) rfl, gt_p 9 rfl rfl, gt_1 (List.mem_of_getElem? (i := 3) rfl) rfl, gt_3 (List.mem_of_getElem? (i := 132) rfl) rfl, ⟨by decide +kernel, by decide +kernel, by decide +kernel⟩, ⟨_, _, rfl⟩, by decide⟩
theorem lk_X6_111 : Cond.methodLink RX6 111 yX9_laneBetween ∈ GT := gt_3 (List.mem_of_getElem? (i := 133) rfl) rfl
theorem mkX9_laneBetween : MkV yX9_laneBetween cX9_laneBetween 4 (some .int) 2 9 := ⟨gt_3 (List.mem_of_getElem? (i := 134) rfl) rfl, gt_3 (List.mem_of_getElem? (i := 135) rfl) rfl, gt_1 (List.mem_of_getElem? (i := 15) rfl) rfl, gt_3 (List.mem_of_getElem? (i := 136) rfl) rfl, ⟨by decide +kernel, by decide +kernel, by decide +kernel⟩, ⟨_, _, rfl⟩, by decide⟩
theorem lk_X6_115 : Cond.methodLink RX6 115 yX6_readWord ∈ GT := gt_3 (List.mem_of_getElem? (i := 137) rfl) rfl
theorem mkX6_readWord : MkV yX6_readWord cX6_readWord 2 (some .boolean) 1 6 := ⟨gt_3 (List.mem_of_getElem? (i := 139) rfl) rfl, gt_p 10 rfl rfl, gt_1 (List.mem_of_getElem? (i := 3) rfl) rfl, gt_3 (List.mem_of_getElem? (i := 140) rfl) rfl, ⟨by decide +kernel, by decide +kernel, by decide +kernel⟩, ⟨_, _, rfl⟩, by decide⟩
theorem lk_X6_168 : Cond.methodLink RX6 168 yX8_isWord ∈ GT := gt_3 (List.mem_of_getElem? (i := 141) rfl) rfl
theorem mkX8_isWord : MkV yX8_isWord cX8_isWord 2 (some .boolean) 1 8 := ⟨gt_3 (List.mem_of_getElem? (i := 142) rfl) rfl, gt_3 (List.mem_of_getElem? (i := 143) rfl) rfl, gt_1 (List.mem_of_getElem? (i := 4) rfl) rfl, gt_3 (List.mem_of_getElem? (i := 144) rfl) rfl, ⟨by decide +kernel, by decide +kernel, by decide +kernel⟩, ⟨_, _, rfl⟩, by decide⟩
theorem lk_X6_118 : Cond.methodLink RX6 118 yX6_readNumber ∈ GT := gt_3 (List.mem_of_getElem? (i := 145) rfl) rfl
theorem mkX6_readNumber : MkV yX6_readNumber cX6_readNumber 3 (some .int) 1 6 := ⟨gt_3 (List.mem_of_getElem? (i := 147) rfl) rfl, gt_p 11 rfl rfl, gt_1 (List.mem_of_getElem? (i := 3) rfl) rfl, gt_3 (List.mem_of_getElem? (i := 148) rfl) rfl, ⟨by decide +kernel, by decide +kernel, by decide +kernel⟩, ⟨_, _, rfl⟩, by decide⟩
theorem lk_X6_122 : Cond.methodLink RX6 122 yX9_addLane ∈ GT := gt_3 (List.mem_of_getElem? (i := 149) rfl) rfl
theorem mkX9_addLane : MkV yX9_addLane cX9_addLane 4 none 3 9 := ⟨gt_3 (List.mem_of_getElem? (i := 150) rfl) rfl, gt_3 (List.mem_of_getElem? (i := 151) rfl) rfl, gt_1 (List.mem_of_getElem? (i := 15) rfl) rfl, gt_3 (List.mem_of_getElem? (i := 152) rfl) rfl, ⟨by decide +kernel, by decide +kernel, by decide +kernel⟩, ⟨_, _, rfl⟩, by decide⟩
theorem lk_X6_47 : Cond.methodLink RX6 47 yX6_readWalker ∈ GT := gt_3 (List.mem_of_getElem? (i := 153) rfl) rfl
theorem mkX6_readWalker : MkV yX6_readWalker cX6_readWalker 8 none 1 6 := ⟨gt_3 (List.mem_of_getElem? (i := 155) rfl) rfl, gt_p 12 rfl rfl, gt_1 (List.mem_of_getElem? (i := 3) rfl) rfl, gt_3 (List.mem_of_getElem? (i := 156) rfl) rfl, ⟨by decide +kernel, by decide +kernel, by decide +kernel⟩, ⟨_, _, rfl⟩, by decide⟩
theorem lk_X6_129 : Cond.methodLink RX6 129 yX6_readKind ∈ GT := gt_3 (List.mem_of_getElem? (i := 157) rfl) rfl
theorem mkX6_readKind : MkV yX6_readKind cX6_readKind 2 (some .int) 0 6 := ⟨gt_3 (List.mem_of_getElem? (i := 159) rfl) rfl, gt_p 13 rfl rfl, gt_1 (List.mem_of_getElem? (i := 3) rfl) rfl, gt_3 (List.mem_of_getElem? (i := 160) rfl) rfl, ⟨by decide +kernel, by decide +kernel, by decide +kernel⟩, ⟨_, _, rfl⟩, by decide⟩
theorem lk_X6_133 : Cond.methodLink RX6 133 yX9_addWalker ∈ GT := gt_3 (List.mem_of_getElem? (i := 161) rfl) rfl
theorem mkX9_addWalker : MkV yX9_addWalker cX9_addWalker 7 none 5 9 := ⟨gt_3 (List.mem_of_getElem? (i := 162) rfl) rfl, gt_3 (List.mem_of_getElem? (i := 163) rfl) rfl, gt_1 (List.mem_of_getElem? (i := 15) rfl) rfl, gt_3 (List.mem_of_getElem? (i := 164) rfl) rfl, ⟨by decide +kernel, by decide +kernel, by decide +kernel⟩, ⟨_, _, rfl⟩, by decide⟩
theorem lk_X6_50 : Cond.methodLink RX6 50 yX6_readBoy ∈ GT := gt_3 (List.mem_of_getElem? (i := 165) rfl) rfl
theorem mkX6_readBoy : MkV yX6_readBoy cX6_readBoy 3 none 1 6 := ⟨gt_3 (List.mem_of_getElem? (i := 167) rfl) rfl, gt_p 14 rfl rfl, gt_1 (List.mem_of_getElem? (i := 3) rfl) rfl, gt_3 (List.mem_of_getElem? (i := 168) rfl) rfl, ⟨by decide +kernel, by decide +kernel, by decide +kernel⟩, ⟨_, _, rfl⟩, by decide⟩
theorem lk_X6_53 : Cond.methodLink RX6 53 yX6_readLaw ∈ GT := gt_3 (List.mem_of_getElem? (i := 169) rfl) rfl
theorem mkX6_readLaw : MkV yX6_readLaw cX6_readLaw 2 none 1 6 := ⟨gt_3 (List.mem_of_getElem? (i := 171) rfl) rfl, gt_p 15 rfl rfl, gt_1 (List.mem_of_getElem? (i := 3) rfl) rfl, gt_3 (List.mem_of_getElem? (i := 172) rfl) rfl, ⟨by decide +kernel, by decide +kernel, by decide +kernel⟩, ⟨_, _, rfl⟩, by decide⟩
theorem lk_X6_153 : Cond.methodLink RX6 153 yX6_readLevel ∈ GT := gt_3 (List.mem_of_getElem? (i := 173) rfl) rfl
theorem mkX6_readLevel : MkV yX6_readLevel cX6_readLevel 6 (some .boolean) 3 6 := ⟨gt_3 (List.mem_of_getElem? (i := 175) rfl) rfl, gt_p 16 rfl rfl, gt_1 (List.mem_of_getElem? (i := 3) rfl) rfl, gt_3 (List.mem_of_getElem? (i := 176) rfl) rfl, ⟨by decide +kernel, by decide +kernel, by decide +kernel⟩, ⟨_, _, rfl⟩, by decide⟩
theorem lk_X6_157 : Cond.methodLink RX6 157 yX6_readPart ∈ GT := gt_3 (List.mem_of_getElem? (i := 177) rfl) rfl
theorem mkX6_readPart : MkV yX6_readPart cX6_readPart 7 (some .boolean) 2 6 := ⟨gt_3 (List.mem_of_getElem? (i := 179) rfl) rfl, gt_p 17 rfl rfl, gt_1 (List.mem_of_getElem? (i := 3) rfl) rfl, gt_3 (List.mem_of_getElem? (i := 180) rfl) rfl, ⟨by decide +kernel, by decide +kernel, by decide +kernel⟩, ⟨_, _, rfl⟩, by decide⟩
theorem lk_X6_164 : Cond.methodLink RX6 164 yX1_add ∈ GT := gt_3 (List.mem_of_getElem? (i := 181) rfl) rfl
theorem mkX1_add : MkV yX1_add cX1_add 2 none 1 1 := ⟨gt_3 (List.mem_of_getElem? (i := 182) rfl) rfl, gt_3 (List.mem_of_getElem? (i := 183) rfl) rfl, gt_1 (List.mem_of_getElem? (i := 16) rfl) rfl, gt_3 (List.mem_of_getElem? (i := 184) rfl) rfl, ⟨by decide +kernel, by decide +kernel, by decide +kernel⟩, ⟨_, _, rfl⟩, by decide⟩
theorem lk_X6_161 : Cond.methodLink RX6 161 yX6_operationHere ∈ GT := gt_3 (List.mem_of_getElem? (i := 185) rfl) rfl
theorem mkX6_operationHere : MkV yX6_operationHere cX6_operationHere 2 (some .int) 1 6 := ⟨gt_3 (List.mem_of_getElem? (i := 187) rfl) rfl, gt_p 18 rfl rfl, gt_1 (List.mem_of_getElem? (i := 3) rfl) rfl, gt_3 (List.mem_of_getElem? (i := 188) rfl) rfl, ⟨by decide +kernel, by decide +kernel, by decide +kernel⟩, ⟨_, _, rfl⟩, by decide⟩
theorem lk_X6_60 : Cond.methodLink RX6 60 yX9_findWays ∈ GT := gt_3 (List.mem_of_getElem? (i := 189) rfl) rfl
theorem mkX9_findWays : MkV yX9_findWays cX9_findWays 3 none 0 9 := ⟨gt_3 (List.mem_of_getElem? (i := 190) rfl) rfl, gt_3 (List.mem_of_getElem? (i := 191) rfl) rfl, gt_1 (List.mem_of_getElem? (i := 15) rfl) rfl, gt_3 (List.mem_of_getElem? (i := 192) rfl) rfl, ⟨by decide +kernel, by decide +kernel, by decide +kernel⟩, ⟨_, _, rfl⟩, by decide⟩
theorem lk_X9_80 : Cond.methodLink RX9 80 yX9_findWaysOfLength ∈ GT := gt_3 (List.mem_of_getElem? (i := 193) rfl) rfl
theorem mkX9_findWaysOfLength : MkV yX9_findWaysOfLength cX9_findWaysOfLength 5 none 2 9 := ⟨gt_3 (List.mem_of_getElem? (i := 195) rfl) rfl, gt_p 19 rfl rfl, gt_1 (List.mem_of_getElem? (i := 15) rfl) rfl, gt_3 (List.mem_of_getElem? (i := 196) rfl) rfl, ⟨by decide +kernel, by decide +kernel, by decide +kernel⟩, ⟨_, _, rfl⟩, by decide⟩
theorem lk_X9_84 : Cond.methodLink RX9 84 yX9_lanesOfWay ∈ GT := gt_3 (List.mem_of_getElem? (i := 197) rfl) rfl
theorem mkX9_lanesOfWay : MkV yX9_lanesOfWay cX9_lanesOfWay 3 (some .int) 2 9 := ⟨gt_3 (List.mem_of_getElem? (i := 198) rfl) rfl, gt_3 (List.mem_of_getElem? (i := 199) rfl) rfl, gt_1 (List.mem_of_getElem? (i := 15) rfl) rfl, gt_3 (List.mem_of_getElem? (i := 200) rfl) rfl, ⟨by decide +kernel, by decide +kernel, by decide +kernel⟩, ⟨_, _, rfl⟩, by decide⟩
theorem lk_X9_77 : Cond.methodLink RX9 77 yX9_hasPlace ∈ GT := gt_3 (List.mem_of_getElem? (i := 201) rfl) rfl
theorem mkX9_hasPlace : MkV yX9_hasPlace cX9_hasPlace 2 (some .boolean) 1 9 := ⟨gt_3 (List.mem_of_getElem? (i := 202) rfl) rfl, gt_3 (List.mem_of_getElem? (i := 203) rfl) rfl, gt_1 (List.mem_of_getElem? (i := 15) rfl) rfl, gt_3 (List.mem_of_getElem? (i := 204) rfl) rfl, ⟨by decide +kernel, by decide +kernel, by decide +kernel⟩, ⟨_, _, rfl⟩, by decide⟩
theorem lk_X9_88 : Cond.methodLink RX9 88 yX9_laneNearer ∈ GT := gt_3 (List.mem_of_getElem? (i := 205) rfl) rfl
theorem mkX9_laneNearer : MkV yX9_laneNearer cX9_laneNearer 6 (some .int) 3 9 := ⟨gt_3 (List.mem_of_getElem? (i := 207) rfl) rfl, gt_p 20 rfl rfl, gt_1 (List.mem_of_getElem? (i := 15) rfl) rfl, gt_3 (List.mem_of_getElem? (i := 208) rfl) rfl, ⟨by decide +kernel, by decide +kernel, by decide +kernel⟩, ⟨_, _, rfl⟩, by decide⟩
theorem lk_X9_92 : Cond.methodLink RX9 92 yX9_laneBetween ∈ GT := gt_3 (List.mem_of_getElem? (i := 209) rfl) rfl
theorem lk_X11_92 : Cond.methodLink RX11 92 yX4_begin ∈ GT := gt_3 (List.mem_of_getElem? (i := 210) rfl) rfl
theorem mkX4_begin : MkV yX4_begin cX4_begin 3 none 1 4 := ⟨gt_3 (List.mem_of_getElem? (i := 211) rfl) rfl, gt_3 (List.mem_of_getElem? (i := 212) rfl) rfl, gt_1 (List.mem_of_getElem? (i := 9) rfl) rfl, gt_3 (List.mem_of_getElem? (i := 213) rfl) rfl, ⟨by decide +kernel, by decide +kernel, by decide +kernel⟩, ⟨_, _, rfl⟩, by decide⟩
theorem lk_X11_100 : Cond.methodLink RX11 100 yX5_forget ∈ GT := gt_3 (List.mem_of_getElem? (i := 214) rfl) rfl
theorem mkX5_forget : MkV yX5_forget cX5_forget 1 none 0 5 := ⟨gt_3 (List.mem_of_getElem? (i := 215) rfl) rfl, gt_3 (List.mem_of_getElem? (i := 216) rfl) rfl, gt_1 (List.mem_of_getElem? (i := 10) rfl) rfl, gt_3 (List.mem_of_getElem? (i := 217) rfl) rfl, ⟨by decide +kernel, by decide +kernel, by decide +kernel⟩, ⟨_, _, rfl⟩, by decide⟩
theorem lk_X11_103 : Cond.methodLink RX11 103 yX0_forget ∈ GT := gt_3 (List.mem_of_getElem? (i := 218) rfl) rfl
theorem mkX0_forget : MkV yX0_forget cX0_forget 1 none 0 0 := ⟨gt_3 (List.mem_of_getElem? (i := 219) rfl) rfl, gt_3 (List.mem_of_getElem? (i := 220) rfl) rfl, gt_1 (List.mem_of_getElem? (i := 14) rfl) rfl, gt_3 (List.mem_of_getElem? (i := 221) rfl) rfl, ⟨by decide +kernel, by decide +kernel, by decide +kernel⟩, ⟨_, _, rfl⟩, by decide⟩
theorem lk_L_35 : Cond.methodLink RL 35 yX11_evening ∈ GT := gt_3 (List.mem_of_getElem? (i := 222) rfl) rfl
theorem mkX11_evening : MkV yX11_evening cX11_evening 3 (some .int) 0 11 := ⟨gt_3 (List.mem_of_getElem? (i := 223) rfl) rfl, gt_3 (List.mem_of_getElem? (i := 224) rfl) rfl, gt_1 (List.mem_of_getElem? (i := 1) rfl) rfl, gt_3 (List.mem_of_getElem? (i := 225) rfl) rfl, ⟨by decide +kernel, by decide +kernel, by decide +kernel⟩, ⟨_, _, rfl⟩, by decide⟩
theorem lk_X11_108 : Cond.methodLink RX11 108 yX6_readEvening ∈ GT := gt_3 (List.mem_of_getElem? (i := 226) rfl) rfl
theorem mkX6_readEvening : MkV yX6_readEvening cX6_readEvening 4 (some .int) 2 6 := ⟨gt_3 (List.mem_of_getElem? (i := 227) rfl) rfl, gt_3 (List.mem_of_getElem? (i := 228) rfl) rfl, gt_1 (List.mem_of_getElem? (i := 3) rfl) rfl, gt_3 (List.mem_of_getElem? (i := 229) rfl) rfl, ⟨by decide +kernel, by decide +kernel, by decide +kernel⟩, ⟨_, _, rfl⟩, by decide⟩
theorem lk_X6_68 : Cond.methodLink RX6 68 yX6_readEveningLine ∈ GT := gt_3 (List.mem_of_getElem? (i := 230) rfl) rfl
theorem mkX6_readEveningLine : MkV yX6_readEveningLine cX6_readEveningLine 6 none 2 6 := ⟨gt_3 (List.mem_of_getElem? (i := 232) rfl) rfl, gt_p 21 rfl rfl, gt_1 (List.mem_of_getElem? (i := 3) rfl) rfl, gt_3 (List.mem_of_getElem? (i := 233) rfl) rfl, ⟨by decide +kernel, by decide +kernel, by decide +kernel⟩, ⟨_, _, rfl⟩, by decide⟩
theorem lk_X6_174 : Cond.methodLink RX6 174 yX6_readWalkerName ∈ GT := gt_3 (List.mem_of_getElem? (i := 234) rfl) rfl
theorem mkX6_readWalkerName : MkV yX6_readWalkerName cX6_readWalkerName 2 (some .int) 1 6 := ⟨gt_3 (List.mem_of_getElem? (i := 236) rfl) rfl, gt_p 22 rfl rfl, gt_1 (List.mem_of_getElem? (i := 3) rfl) rfl, gt_3 (List.mem_of_getElem? (i := 237) rfl) rfl, ⟨by decide +kernel, by decide +kernel, by decide +kernel⟩, ⟨_, _, rfl⟩, by decide⟩
theorem lk_X6_177 : Cond.methodLink RX6 177 yX2_add ∈ GT := gt_3 (List.mem_of_getElem? (i := 238) rfl) rfl
theorem mkX2_add : MkV yX2_add cX2_add 4 none 3 2 := ⟨gt_3 (List.mem_of_getElem? (i := 239) rfl) rfl, gt_4 (List.mem_of_getElem? (i := 0) rfl) rfl, gt_1 (List.mem_of_getElem? (i := 13) rfl) rfl, gt_4 (List.mem_of_getElem? (i := 1) rfl) rfl, ⟨by decide +kernel, by decide +kernel, by decide +kernel⟩, ⟨_, _, rfl⟩, by decide⟩
theorem lk_L_39 : Cond.methodLink RL 39 yX11_lane ∈ GT := gt_4 (List.mem_of_getElem? (i := 2) rfl) rfl
theorem mkX11_lane : MkV yX11_lane cX11_lane 3 (some .int) 2 11 := ⟨gt_4 (List.mem_of_getElem? (i := 3) rfl) rfl, gt_4 (List.mem_of_getElem? (i := 4) rfl) rfl, gt_1 (List.mem_of_getElem? (i := 1) rfl) rfl, gt_4 (List.mem_of_getElem? (i := 5) rfl) rfl, ⟨by decide +kernel, by decide +kernel, by decide +kernel⟩, ⟨_, _, rfl⟩, by decide⟩
theorem lk_X11_112 : Cond.methodLink RX11 112 yX9_hasLane ∈ GT := gt_4 (List.mem_of_getElem? (i := 6) rfl) rfl
theorem mkX9_hasLane : MkV yX9_hasLane cX9_hasLane 2 (some .boolean) 1 9 := ⟨gt_4 (List.mem_of_getElem? (i := 7) rfl) rfl, gt_4 (List.mem_of_getElem? (i := 8) rfl) rfl, gt_1 (List.mem_of_getElem? (i := 15) rfl) rfl, gt_4 (List.mem_of_getElem? (i := 9) rfl) rfl, ⟨by decide +kernel, by decide +kernel, by decide +kernel⟩, ⟨_, _, rfl⟩, by decide⟩
theorem lk_L_44 : Cond.methodLink RL 44 yX11_walker ∈ GT := gt_4 (List.mem_of_getElem? (i := 10) rfl) rfl
theorem mkX11_walker : MkV yX11_walker cX11_walker 3 (some .int) 2 11 := ⟨gt_4 (List.mem_of_getElem? (i := 11) rfl) rfl, gt_4 (List.mem_of_getElem? (i := 12) rfl) rfl, gt_1 (List.mem_of_getElem? (i := 1) rfl) rfl, gt_4 (List.mem_of_getElem? (i := 13) rfl) rfl, ⟨by decide +kernel, by decide +kernel, by decide +kernel⟩, ⟨_, _, rfl⟩, by decide⟩
theorem lk_X11_129 : Cond.methodLink RX11 129 yX9_hasWalker ∈ GT := gt_4 (List.mem_of_getElem? (i := 14) rfl) rfl
theorem mkX9_hasWalker : MkV yX9_hasWalker cX9_hasWalker 2 (some .boolean) 1 9 := ⟨gt_4 (List.mem_of_getElem? (i := 15) rfl) rfl, gt_4 (List.mem_of_getElem? (i := 16) rfl) rfl, gt_1 (List.mem_of_getElem? (i := 15) rfl) rfl, gt_4 (List.mem_of_getElem? (i := 17) rfl) rfl, ⟨by decide +kernel, by decide +kernel, by decide +kernel⟩, ⟨_, _, rfl⟩, by decide⟩
theorem lk_X11_135 : Cond.methodLink RX11 135 yX4_placeOf ∈ GT := gt_4 (List.mem_of_getElem? (i := 18) rfl) rfl
theorem mkX4_placeOf : MkV yX4_placeOf cX4_placeOf 4 (some .int) 2 4 := ⟨gt_4 (List.mem_of_getElem? (i := 19) rfl) rfl, gt_4 (List.mem_of_getElem? (i := 20) rfl) rfl, gt_1 (List.mem_of_getElem? (i := 9) rfl) rfl, gt_4 (List.mem_of_getElem? (i := 21) rfl) rfl, ⟨by decide +kernel, by decide +kernel, by decide +kernel⟩, ⟨_, _, rfl⟩, by decide⟩
theorem lk_X4_60 : Cond.methodLink RX4 60 yX9_firstLane ∈ GT := gt_4 (List.mem_of_getElem? (i := 22) rfl) rfl
theorem mkX9_firstLane : MkV yX9_firstLane cX9_firstLane 4 (some .int) 2 9 := ⟨gt_4 (List.mem_of_getElem? (i := 23) rfl) rfl, gt_4 (List.mem_of_getElem? (i := 24) rfl) rfl, gt_1 (List.mem_of_getElem? (i := 15) rfl) rfl, gt_4 (List.mem_of_getElem? (i := 25) rfl) rfl, ⟨by decide +kernel, by decide +kernel, by decide +kernel⟩, ⟨_, _, rfl⟩, by decide⟩
theorem lk_X4_71 : Cond.methodLink RX4 71 yX9_otherEnd ∈ GT := gt_4 (List.mem_of_getElem? (i := 26) rfl) rfl
theorem mkX9_otherEnd : MkV yX9_otherEnd cX9_otherEnd 3 (some .int) 2 9 := ⟨gt_4 (List.mem_of_getElem? (i := 27) rfl) rfl, gt_4 (List.mem_of_getElem? (i := 28) rfl) rfl, gt_1 (List.mem_of_getElem? (i := 15) rfl) rfl, gt_4 (List.mem_of_getElem? (i := 29) rfl) rfl, ⟨by decide +kernel, by decide +kernel, by decide +kernel⟩, ⟨_, _, rfl⟩, by decide⟩
theorem lk_X9_73 : Cond.methodLink RX9 73 yX9_hasLane ∈ GT := gt_4 (List.mem_of_getElem? (i := 30) rfl) rfl
theorem lk_X11_145 : Cond.methodLink RX11 145 yX4_isHome ∈ GT := gt_4 (List.mem_of_getElem? (i := 31) rfl) rfl
theorem mkX4_isHome : MkV yX4_isHome cX4_isHome 3 (some .boolean) 2 4 := ⟨gt_4 (List.mem_of_getElem? (i := 32) rfl) rfl, gt_4 (List.mem_of_getElem? (i := 33) rfl) rfl, gt_1 (List.mem_of_getElem? (i := 9) rfl) rfl, gt_4 (List.mem_of_getElem? (i := 34) rfl) rfl, ⟨by decide +kernel, by decide +kernel, by decide +kernel⟩, ⟨_, _, rfl⟩, by decide⟩
theorem lk_X11_149 : Cond.methodLink RX11 149 yX4_isOut ∈ GT := gt_4 (List.mem_of_getElem? (i := 35) rfl) rfl
theorem mkX4_isOut : MkV yX4_isOut cX4_isOut 3 (some .boolean) 2 4 := ⟨gt_4 (List.mem_of_getElem? (i := 36) rfl) rfl, gt_4 (List.mem_of_getElem? (i := 37) rfl) rfl, gt_1 (List.mem_of_getElem? (i := 9) rfl) rfl, gt_4 (List.mem_of_getElem? (i := 38) rfl) rfl, ⟨by decide +kernel, by decide +kernel, by decide +kernel⟩, ⟨_, _, rfl⟩, by decide⟩
theorem lk_X4_64 : Cond.methodLink RX4 64 yX4_isHome ∈ GT := gt_4 (List.mem_of_getElem? (i := 39) rfl) rfl
theorem lk_L_48 : Cond.methodLink RL 48 yX11_way ∈ GT := gt_4 (List.mem_of_getElem? (i := 40) rfl) rfl
theorem mkX11_way : MkV yX11_way cX11_way 3 (some .int) 2 11 := ⟨gt_4 (List.mem_of_getElem? (i := 41) rfl) rfl, gt_4 (List.mem_of_getElem? (i := 42) rfl) rfl, gt_1 (List.mem_of_getElem? (i := 1) rfl) rfl, gt_4 (List.mem_of_getElem? (i := 43) rfl) rfl, ⟨by decide +kernel, by decide +kernel, by decide +kernel⟩, ⟨_, _, rfl⟩, by decide⟩
theorem lk_X11_152 : Cond.methodLink RX11 152 yX9_lanesOfWay ∈ GT := gt_4 (List.mem_of_getElem? (i := 44) rfl) rfl
theorem lk_L_52 : Cond.methodLink RL 52 yX11_next ∈ GT := gt_4 (List.mem_of_getElem? (i := 45) rfl) rfl
theorem mkX11_next : MkV yX11_next cX11_next 2 (some .int) 1 11 := ⟨gt_4 (List.mem_of_getElem? (i := 46) rfl) rfl, gt_4 (List.mem_of_getElem? (i := 47) rfl) rfl, gt_1 (List.mem_of_getElem? (i := 1) rfl) rfl, gt_4 (List.mem_of_getElem? (i := 48) rfl) rfl, ⟨by decide +kernel, by decide +kernel, by decide +kernel⟩, ⟨_, _, rfl⟩, by decide⟩
theorem lk_X11_156 : Cond.methodLink RX11 156 yX4_laneAhead ∈ GT := gt_4 (List.mem_of_getElem? (i := 49) rfl) rfl
theorem mkX4_laneAhead : MkV yX4_laneAhead cX4_laneAhead 3 (some .int) 2 4 := ⟨gt_4 (List.mem_of_getElem? (i := 50) rfl) rfl, gt_4 (List.mem_of_getElem? (i := 51) rfl) rfl, gt_1 (List.mem_of_getElem? (i := 9) rfl) rfl, gt_4 (List.mem_of_getElem? (i := 52) rfl) rfl, ⟨by decide +kernel, by decide +kernel, by decide +kernel⟩, ⟨_, _, rfl⟩, by decide⟩
theorem lk_L_56 : Cond.methodLink RL 56 yX11_minute ∈ GT := gt_4 (List.mem_of_getElem? (i := 53) rfl) rfl
theorem mkX11_minute : MkV yX11_minute cX11_minute 1 (some .int) 0 11 := ⟨gt_4 (List.mem_of_getElem? (i := 54) rfl) rfl, gt_4 (List.mem_of_getElem? (i := 55) rfl) rfl, gt_1 (List.mem_of_getElem? (i := 1) rfl) rfl, gt_4 (List.mem_of_getElem? (i := 56) rfl) rfl, ⟨by decide +kernel, by decide +kernel, by decide +kernel⟩, ⟨_, _, rfl⟩, by decide⟩
theorem lk_X11_159 : Cond.methodLink RX11 159 yX11_keepPast ∈ GT := gt_4 (List.mem_of_getElem? (i := 57) rfl) rfl
theorem mkX11_keepPast : MkV yX11_keepPast cX11_keepPast 1 none 0 11 := ⟨gt_4 (List.mem_of_getElem? (i := 59) rfl) rfl, gt_p 23 rfl rfl, gt_1 (List.mem_of_getElem? (i := 1) rfl) rfl, gt_4 (List.mem_of_getElem? (i := 60) rfl) rfl, ⟨by decide +kernel, by decide +kernel, by decide +kernel⟩, ⟨_, _, rfl⟩, by decide⟩
theorem lk_X11_319 : Cond.methodLink RX11 319 yX5_keep ∈ GT := gt_4 (List.mem_of_getElem? (i := 61) rfl) rfl
theorem mkX5_keep : MkV yX5_keep cX5_keep 3 none 1 5 := ⟨gt_4 (List.mem_of_getElem? (i := 62) rfl) rfl, gt_4 (List.mem_of_getElem? (i := 63) rfl) rfl, gt_1 (List.mem_of_getElem? (i := 10) rfl) rfl, gt_4 (List.mem_of_getElem? (i := 64) rfl) rfl, ⟨by decide +kernel, by decide +kernel, by decide +kernel⟩, ⟨_, _, rfl⟩, by decide⟩
theorem lk_X5_23 : Cond.methodLink RX5 23 yX4_copyFrom ∈ GT := gt_4 (List.mem_of_getElem? (i := 65) rfl) rfl
theorem mkX4_copyFrom : MkV yX4_copyFrom cX4_copyFrom 2 none 1 4 := ⟨gt_4 (List.mem_of_getElem? (i := 66) rfl) rfl, gt_4 (List.mem_of_getElem? (i := 67) rfl) rfl, gt_1 (List.mem_of_getElem? (i := 9) rfl) rfl, gt_4 (List.mem_of_getElem? (i := 68) rfl) rfl, ⟨by decide +kernel, by decide +kernel, by decide +kernel⟩, ⟨_, _, rfl⟩, by decide⟩
theorem lk_X5_27 : Cond.methodLink RX5 27 yJ9_min_7cf53 ∈ GT := gt_4 (List.mem_of_getElem? (i := 72) rfl) rfl
theorem lk_X11_162 : Cond.methodLink RX11 162 yX4_pass ∈ GT := gt_4 (List.mem_of_getElem? (i := 73) rfl) rfl
theorem mkX4_pass : MkV yX4_pass cX4_pass 5 none 2 4 := ⟨gt_4 (List.mem_of_getElem? (i := 74) rfl) rfl, gt_4 (List.mem_of_getElem? (i := 75) rfl) rfl, gt_1 (List.mem_of_getElem? (i := 9) rfl) rfl, gt_4 (List.mem_of_getElem? (i := 76) rfl) rfl, ⟨by decide +kernel, by decide +kernel, by decide +kernel⟩, ⟨_, _, rfl⟩, by decide⟩
theorem lk_X4_80 : Cond.methodLink RX4 80 yX4_laneAhead ∈ GT := gt_4 (List.mem_of_getElem? (i := 77) rfl) rfl
theorem lk_X4_84 : Cond.methodLink RX4 84 yX9_hasLane ∈ GT := gt_4 (List.mem_of_getElem? (i := 78) rfl) rfl
theorem lk_X4_88 : Cond.methodLink RX4 88 yX4_goAlong ∈ GT := gt_4 (List.mem_of_getElem? (i := 79) rfl) rfl
theorem mkX4_goAlong : MkV yX4_goAlong cX4_goAlong 5 none 3 4 := ⟨gt_4 (List.mem_of_getElem? (i := 81) rfl) rfl, gt_p 24 rfl rfl, gt_1 (List.mem_of_getElem? (i := 9) rfl) rfl, gt_4 (List.mem_of_getElem? (i := 82) rfl) rfl, ⟨by decide +kernel, by decide +kernel, by decide +kernel⟩, ⟨_, _, rfl⟩, by decide⟩
theorem lk_X4_92 : Cond.methodLink RX4 92 yX4_lightUp ∈ GT := gt_4 (List.mem_of_getElem? (i := 83) rfl) rfl
theorem mkX4_lightUp : MkV yX4_lightUp cX4_lightUp 6 none 4 4 := ⟨gt_4 (List.mem_of_getElem? (i := 85) rfl) rfl, gt_p 25 rfl rfl, gt_1 (List.mem_of_getElem? (i := 9) rfl) rfl, gt_4 (List.mem_of_getElem? (i := 86) rfl) rfl, ⟨by decide +kernel, by decide +kernel, by decide +kernel⟩, ⟨_, _, rfl⟩, by decide⟩
theorem lk_X4_112 : Cond.methodLink RX4 112 yX1_tells ∈ GT := gt_4 (List.mem_of_getElem? (i := 87) rfl) rfl
theorem mkX1_tells : MkV yX1_tells cX1_tells 8 (some .int) 4 1 := ⟨gt_4 (List.mem_of_getElem? (i := 88) rfl) rfl, gt_4 (List.mem_of_getElem? (i := 89) rfl) rfl, gt_1 (List.mem_of_getElem? (i := 16) rfl) rfl, gt_4 (List.mem_of_getElem? (i := 90) rfl) rfl, ⟨by decide +kernel, by decide +kernel, by decide +kernel⟩, ⟨_, _, rfl⟩, by decide⟩
theorem lk_X1_23 : Cond.methodLink RX1 23 yJ9_min_7cf53 ∈ GT := gt_4 (List.mem_of_getElem? (i := 91) rfl) rfl
theorem lk_X1_29 : Cond.methodLink RX1 29 yX1_joined ∈ GT := gt_4 (List.mem_of_getElem? (i := 92) rfl) rfl
theorem mkX1_joined : MkS yX1_joined cX1_joined 3 (some .int) 3 := ⟨gt_4 (List.mem_of_getElem? (i := 93) rfl) rfl, gt_1 (List.mem_of_getElem? (i := 16) rfl) rfl, gt_4 (List.mem_of_getElem? (i := 94) rfl) rfl, ⟨by decide +kernel, by decide +kernel, by decide +kernel⟩, by decide⟩
theorem lk_X1_33 : Cond.methodLink RX1 33 yJ9_max_7cf53 ∈ GT := gt_4 (List.mem_of_getElem? (i := 95) rfl) rfl
theorem lk_X4_96 : Cond.methodLink RX4 96 yJ6_bitCount_0f7a4 ∈ GT := gt_4 (List.mem_of_getElem? (i := 96) rfl) rfl
theorem mkJ6_bitCount_0f7a4 : MkS yJ6_bitCount_0f7a4 cJ6_bitCount_0f7a4 1 (some .int) 1 := ⟨gt_4 (List.mem_of_getElem? (i := 97) rfl) rfl, gt_1 (List.mem_of_getElem? (i := 21) rfl) rfl, gt_4 (List.mem_of_getElem? (i := 98) rfl) rfl, ⟨by decide +kernel, by decide +kernel, by decide +kernel⟩, by decide⟩
theorem cn_J6_265 : Cond.constant RJ6 265 (1431655765) ∈ GT := gt_4 (List.mem_of_getElem? (i := 99) rfl) rfl
theorem cn_J6_266 : Cond.constant RJ6 266 (858993459) ∈ GT := gt_4 (List.mem_of_getElem? (i := 100) rfl) rfl
theorem cn_J6_267 : Cond.constant RJ6 267 (252645135) ∈ GT := gt_4 (List.mem_of_getElem? (i := 101) rfl) rfl
theorem lk_X11_169 : Cond.methodLink RX11 169 yJ6_bitCount_0f7a4 ∈ GT := gt_4 (List.mem_of_getElem? (i := 102) rfl) rfl
theorem lk_L_60 : Cond.methodLink RL 60 yX11_send ∈ GT := gt_4 (List.mem_of_getElem? (i := 103) rfl) rfl
theorem mkX11_send : MkV yX11_send cX11_send 4 (some .int) 2 11 := ⟨gt_4 (List.mem_of_getElem? (i := 104) rfl) rfl, gt_4 (List.mem_of_getElem? (i := 105) rfl) rfl, gt_1 (List.mem_of_getElem? (i := 1) rfl) rfl, gt_4 (List.mem_of_getElem? (i := 106) rfl) rfl, ⟨by decide +kernel, by decide +kernel, by decide +kernel⟩, ⟨_, _, rfl⟩, by decide⟩
theorem lk_X11_175 : Cond.methodLink RX11 175 yX9_laneBetween ∈ GT := gt_4 (List.mem_of_getElem? (i := 107) rfl) rfl
theorem lk_X11_178 : Cond.methodLink RX11 178 yX4_sendBoy ∈ GT := gt_4 (List.mem_of_getElem? (i := 108) rfl) rfl
theorem mkX4_sendBoy : MkV yX4_sendBoy cX4_sendBoy 3 none 2 4 := ⟨gt_4 (List.mem_of_getElem? (i := 109) rfl) rfl, gt_4 (List.mem_of_getElem? (i := 110) rfl) rfl, gt_1 (List.mem_of_getElem? (i := 9) rfl) rfl, gt_4 (List.mem_of_getElem? (i := 111) rfl) rfl, ⟨by decide +kernel, by decide +kernel, by decide +kernel⟩, ⟨_, _, rfl⟩, by decide⟩
theorem lk_L_64 : Cond.methodLink RL 64 yX11_waits ∈ GT := gt_4 (List.mem_of_getElem? (i := 112) rfl) rfl
theorem mkX11_waits : MkV yX11_waits cX11_waits 2 (some .int) 1 11 := ⟨gt_4 (List.mem_of_getElem? (i := 113) rfl) rfl, gt_4 (List.mem_of_getElem? (i := 114) rfl) rfl, gt_1 (List.mem_of_getElem? (i := 1) rfl) rfl, gt_4 (List.mem_of_getElem? (i := 115) rfl) rfl, ⟨by decide +kernel, by decide +kernel, by decide +kernel⟩, ⟨_, _, rfl⟩, by decide⟩
theorem lk_X11_181 : Cond.methodLink RX11 181 yX4_putOff ∈ GT := gt_4 (List.mem_of_getElem? (i := 116) rfl) rfl
theorem mkX4_putOff : MkV yX4_putOff cX4_putOff 2 none 1 4 := ⟨gt_4 (List.mem_of_getElem? (i := 117) rfl) rfl, gt_4 (List.mem_of_getElem? (i := 118) rfl) rfl, gt_1 (List.mem_of_getElem? (i := 9) rfl) rfl, gt_4 (List.mem_of_getElem? (i := 119) rfl) rfl, ⟨by decide +kernel, by decide +kernel, by decide +kernel⟩, ⟨_, _, rfl⟩, by decide⟩
theorem lk_X4_121 : Cond.methodLink RX4 121 yJ9_max_7cf53 ∈ GT := gt_4 (List.mem_of_getElem? (i := 120) rfl) rfl
theorem lk_L_68 : Cond.methodLink RL 68 yX11_back ∈ GT := gt_4 (List.mem_of_getElem? (i := 121) rfl) rfl
theorem mkX11_back : MkV yX11_back cX11_back 2 (some .boolean) 1 11 := ⟨gt_4 (List.mem_of_getElem? (i := 122) rfl) rfl, gt_4 (List.mem_of_getElem? (i := 123) rfl) rfl, gt_1 (List.mem_of_getElem? (i := 1) rfl) rfl, gt_4 (List.mem_of_getElem? (i := 124) rfl) rfl, ⟨by decide +kernel, by decide +kernel, by decide +kernel⟩, ⟨_, _, rfl⟩, by decide⟩
theorem lk_X11_185 : Cond.methodLink RX11 185 yX4_canTurn ∈ GT := gt_4 (List.mem_of_getElem? (i := 125) rfl) rfl
theorem mkX4_canTurn : MkV yX4_canTurn cX4_canTurn 3 (some .boolean) 2 4 := ⟨gt_4 (List.mem_of_getElem? (i := 126) rfl) rfl, gt_4 (List.mem_of_getElem? (i := 127) rfl) rfl, gt_1 (List.mem_of_getElem? (i := 9) rfl) rfl, gt_4 (List.mem_of_getElem? (i := 128) rfl) rfl, ⟨by decide +kernel, by decide +kernel, by decide +kernel⟩, ⟨_, _, rfl⟩, by decide⟩
theorem lk_X4_126 : Cond.methodLink RX4 126 yX4_isOut ∈ GT := gt_4 (List.mem_of_getElem? (i := 129) rfl) rfl
theorem lk_X11_188 : Cond.methodLink RX11 188 yX4_turn ∈ GT := gt_4 (List.mem_of_getElem? (i := 130) rfl) rfl
theorem mkX4_turn : MkV yX4_turn cX4_turn 3 none 2 4 := ⟨gt_4 (List.mem_of_getElem? (i := 131) rfl) rfl, gt_4 (List.mem_of_getElem? (i := 132) rfl) rfl, gt_1 (List.mem_of_getElem? (i := 9) rfl) rfl, gt_4 (List.mem_of_getElem? (i := 133) rfl) rfl, ⟨by decide +kernel, by decide +kernel, by decide +kernel⟩, ⟨_, _, rfl⟩, by decide⟩
theorem lk_L_73 : Cond.methodLink RL 73 yX11_undo ∈ GT := gt_4 (List.mem_of_getElem? (i := 134) rfl) rfl
theorem mkX11_undo : MkV yX11_undo cX11_undo 1 (some .boolean) 0 11 := ⟨gt_4 (List.mem_of_getElem? (i := 135) rfl) rfl, gt_4 (List.mem_of_getElem? (i := 136) rfl) rfl, gt_1 (List.mem_of_getElem? (i := 1) rfl) rfl, gt_4 (List.mem_of_getElem? (i := 137) rfl) rfl, ⟨by decide +kernel, by decide +kernel, by decide +kernel⟩, ⟨_, _, rfl⟩, by decide⟩
theorem lk_X11_191 : Cond.methodLink RX11 191 yX5_bringBack ∈ GT := gt_4 (List.mem_of_getElem? (i := 138) rfl) rfl
theorem mkX5_bringBack : MkV yX5_bringBack cX5_bringBack 3 (some .boolean) 1 5 := ⟨gt_4 (List.mem_of_getElem? (i := 139) rfl) rfl, gt_4 (List.mem_of_getElem? (i := 140) rfl) rfl, gt_1 (List.mem_of_getElem? (i := 10) rfl) rfl, gt_4 (List.mem_of_getElem? (i := 141) rfl) rfl, ⟨by decide +kernel, by decide +kernel, by decide +kernel⟩, ⟨_, _, rfl⟩, by decide⟩
theorem lk_L_78 : Cond.methodLink RL 78 yX11_judged ∈ GT := gt_4 (List.mem_of_getElem? (i := 142) rfl) rfl
theorem mkX11_judged : MkV yX11_judged cX11_judged 2 (some .int) 1 11 := ⟨gt_4 (List.mem_of_getElem? (i := 143) rfl) rfl, gt_4 (List.mem_of_getElem? (i := 144) rfl) rfl, gt_1 (List.mem_of_getElem? (i := 1) rfl) rfl, gt_4 (List.mem_of_getElem? (i := 145) rfl) rfl, ⟨by decide +kernel, by decide +kernel, by decide +kernel⟩, ⟨_, _, rfl⟩, by decide⟩
theorem lk_X11_195 : Cond.methodLink RX11 195 yX0_judge ∈ GT := gt_4 (List.mem_of_getElem? (i := 146) rfl) rfl
theorem mkX0_judge : MkV yX0_judge cX0_judge 9 (some .int) 3 0 := ⟨gt_4 (List.mem_of_getElem? (i := 147) rfl) rfl, gt_4 (List.mem_of_getElem? (i := 148) rfl) rfl, gt_1 (List.mem_of_getElem? (i := 14) rfl) rfl, gt_4 (List.mem_of_getElem? (i := 149) rfl) rfl, ⟨by decide +kernel, by decide +kernel, by decide +kernel⟩, ⟨_, _, rfl⟩, by decide⟩
theorem lk_X0_32 : Cond.methodLink RX0 32 yX4_begin ∈ GT := gt_4 (List.mem_of_getElem? (i := 150) rfl) rfl
theorem lk_X0_55 : Cond.methodLink RX0 55 yX4_obey ∈ GT := gt_4 (List.mem_of_getElem? (i := 151) rfl) rfl
theorem mkX4_obey : MkV yX4_obey cX4_obey 6 (some .boolean) 4 4 := ⟨gt_4 (List.mem_of_getElem? (i := 152) rfl) rfl, gt_4 (List.mem_of_getElem? (i := 153) rfl) rfl, gt_1 (List.mem_of_getElem? (i := 9) rfl) rfl, gt_4 (List.mem_of_getElem? (i := 154) rfl) rfl, ⟨by decide +kernel, by decide +kernel, by decide +kernel⟩, ⟨_, _, rfl⟩, by decide⟩
theorem lk_X4_131 : Cond.methodLink RX4 131 yX4_pass ∈ GT := gt_4 (List.mem_of_getElem? (i := 155) rfl) rfl
theorem lk_X4_135 : Cond.methodLink RX4 135 yX9_laneBetween ∈ GT := gt_4 (List.mem_of_getElem? (i := 156) rfl) rfl
theorem lk_X4_138 : Cond.methodLink RX4 138 yX4_sendBoy ∈ GT := gt_4 (List.mem_of_getElem? (i := 157) rfl) rfl
theorem lk_X4_141 : Cond.methodLink RX4 141 yX9_hasWalker ∈ GT := gt_4 (List.mem_of_getElem? (i := 158) rfl) rfl
theorem lk_X4_144 : Cond.methodLink RX4 144 yX4_putOff ∈ GT := gt_4 (List.mem_of_getElem? (i := 159) rfl) rfl
theorem lk_X4_148 : Cond.methodLink RX4 148 yX4_canTurn ∈ GT := gt_4 (List.mem_of_getElem? (i := 160) rfl) rfl
theorem lk_X4_151 : Cond.methodLink RX4 151 yX4_turn ∈ GT := gt_4 (List.mem_of_getElem? (i := 161) rfl) rfl
theorem lk_L_82 : Cond.methodLink RL 82 yX11_darks ∈ GT := gt_4 (List.mem_of_getElem? (i := 162) rfl) rfl
theorem mkX11_darks : MkV yX11_darks cX11_darks 2 (some .int) 1 11 := ⟨gt_4 (List.mem_of_getElem? (i := 163) rfl) rfl, gt_4 (List.mem_of_getElem? (i := 164) rfl) rfl, gt_1 (List.mem_of_getElem? (i := 1) rfl) rfl, gt_4 (List.mem_of_getElem? (i := 165) rfl) rfl, ⟨by decide +kernel, by decide +kernel, by decide +kernel⟩, ⟨_, _, rfl⟩, by decide⟩
theorem lk_X11_199 : Cond.methodLink RX11 199 yX0_darkTimesOf ∈ GT := gt_4 (List.mem_of_getElem? (i := 166) rfl) rfl
theorem mkX0_darkTimesOf : MkV yX0_darkTimesOf cX0_darkTimesOf 6 (some .int) 3 0 := ⟨gt_4 (List.mem_of_getElem? (i := 167) rfl) rfl, gt_4 (List.mem_of_getElem? (i := 168) rfl) rfl, gt_1 (List.mem_of_getElem? (i := 14) rfl) rfl, gt_4 (List.mem_of_getElem? (i := 169) rfl) rfl, ⟨by decide +kernel, by decide +kernel, by decide +kernel⟩, ⟨_, _, rfl⟩, by decide⟩
theorem lk_X0_59 : Cond.methodLink RX0 59 yX4_copyFrom ∈ GT := gt_4 (List.mem_of_getElem? (i := 170) rfl) rfl
theorem lk_X0_63 : Cond.methodLink RX0 63 yX4_isAllHome ∈ GT := gt_4 (List.mem_of_getElem? (i := 171) rfl) rfl
theorem mkX4_isAllHome : MkV yX4_isAllHome cX4_isAllHome 3 (some .boolean) 1 4 := ⟨gt_4 (List.mem_of_getElem? (i := 172) rfl) rfl, gt_4 (List.mem_of_getElem? (i := 173) rfl) rfl, gt_1 (List.mem_of_getElem? (i := 9) rfl) rfl, gt_4 (List.mem_of_getElem? (i := 174) rfl) rfl, ⟨by decide +kernel, by decide +kernel, by decide +kernel⟩, ⟨_, _, rfl⟩, by decide⟩
theorem lk_X0_67 : Cond.methodLink RX0 67 yX4_pass ∈ GT := gt_4 (List.mem_of_getElem? (i := 175) rfl) rfl
theorem lk_L_86 : Cond.methodLink RL 86 yX11_home ∈ GT := gt_4 (List.mem_of_getElem? (i := 176) rfl) rfl
theorem mkX11_home : MkV yX11_home cX11_home 2 (some .int) 1 11 := ⟨gt_4 (List.mem_of_getElem? (i := 177) rfl) rfl, gt_4 (List.mem_of_getElem? (i := 178) rfl) rfl, gt_1 (List.mem_of_getElem? (i := 1) rfl) rfl, gt_4 (List.mem_of_getElem? (i := 179) rfl) rfl, ⟨by decide +kernel, by decide +kernel, by decide +kernel⟩, ⟨_, _, rfl⟩, by decide⟩
theorem lk_X11_203 : Cond.methodLink RX11 203 yX0_minutesTillHome ∈ GT := gt_4 (List.mem_of_getElem? (i := 180) rfl) rfl
theorem mkX0_minutesTillHome : MkV yX0_minutesTillHome cX0_minutesTillHome 5 (some .int) 3 0 := ⟨gt_4 (List.mem_of_getElem? (i := 181) rfl) rfl, gt_4 (List.mem_of_getElem? (i := 182) rfl) rfl, gt_1 (List.mem_of_getElem? (i := 14) rfl) rfl, gt_4 (List.mem_of_getElem? (i := 183) rfl) rfl, ⟨by decide +kernel, by decide +kernel, by decide +kernel⟩, ⟨_, _, rfl⟩, by decide⟩
theorem lk_X0_74 : Cond.methodLink RX0 74 yX4_isHome ∈ GT := gt_4 (List.mem_of_getElem? (i := 184) rfl) rfl
theorem lk_L_90 : Cond.methodLink RL 90 yX11_glow ∈ GT := gt_4 (List.mem_of_getElem? (i := 185) rfl) rfl
theorem mkX11_glow : MkV yX11_glow cX11_glow 1 (some .int) 0 11 := ⟨gt_4 (List.mem_of_getElem? (i := 186) rfl) rfl, gt_4 (List.mem_of_getElem? (i := 187) rfl) rfl, gt_1 (List.mem_of_getElem? (i := 1) rfl) rfl, gt_4 (List.mem_of_getElem? (i := 188) rfl) rfl, ⟨by decide +kernel, by decide +kernel, by decide +kernel⟩, ⟨_, _, rfl⟩, by decide⟩
theorem lk_X11_206 : Cond.methodLink RX11 206 yX0_brightest ∈ GT := gt_4 (List.mem_of_getElem? (i := 189) rfl) rfl
theorem mkX0_brightest : MkV yX0_brightest cX0_brightest 7 (some .int) 2 0 := ⟨gt_4 (List.mem_of_getElem? (i := 190) rfl) rfl, gt_4 (List.mem_of_getElem? (i := 191) rfl) rfl, gt_1 (List.mem_of_getElem? (i := 14) rfl) rfl, gt_4 (List.mem_of_getElem? (i := 192) rfl) rfl, ⟨by decide +kernel, by decide +kernel, by decide +kernel⟩, ⟨_, _, rfl⟩, by decide⟩
theorem lk_X0_81 : Cond.methodLink RX0 81 yX4_litBits ∈ GT := gt_4 (List.mem_of_getElem? (i := 193) rfl) rfl
theorem mkX4_litBits : MkV yX4_litBits cX4_litBits 4 (some .int) 1 4 := ⟨gt_4 (List.mem_of_getElem? (i := 194) rfl) rfl, gt_4 (List.mem_of_getElem? (i := 195) rfl) rfl, gt_1 (List.mem_of_getElem? (i := 9) rfl) rfl, gt_4 (List.mem_of_getElem? (i := 196) rfl) rfl, ⟨by decide +kernel, by decide +kernel, by decide +kernel⟩, ⟨_, _, rfl⟩, by decide⟩
theorem lk_X0_85 : Cond.methodLink RX0 85 yJ6_bitCount_0f7a4 ∈ GT := gt_4 (List.mem_of_getElem? (i := 197) rfl) rfl
theorem lk_L_94 : Cond.methodLink RL 94 yX11_burns ∈ GT := gt_4 (List.mem_of_getElem? (i := 198) rfl) rfl
theorem mkX11_burns : MkV yX11_burns cX11_burns 3 (some .int) 2 11 := ⟨gt_4 (List.mem_of_getElem? (i := 199) rfl) rfl, gt_4 (List.mem_of_getElem? (i := 200) rfl) rfl, gt_1 (List.mem_of_getElem? (i := 1) rfl) rfl, gt_4 (List.mem_of_getElem? (i := 201) rfl) rfl, ⟨by decide +kernel, by decide +kernel, by decide +kernel⟩, ⟨_, _, rfl⟩, by decide⟩
theorem lk_X11_210 : Cond.methodLink RX11 210 yX0_litBehind ∈ GT := gt_4 (List.mem_of_getElem? (i := 202) rfl) rfl
theorem mkX0_litBehind : MkV yX0_litBehind cX0_litBehind 6 (some .int) 4 0 := ⟨gt_4 (List.mem_of_getElem? (i := 203) rfl) rfl, gt_4 (List.mem_of_getElem? (i := 204) rfl) rfl, gt_1 (List.mem_of_getElem? (i := 14) rfl) rfl, gt_4 (List.mem_of_getElem? (i := 205) rfl) rfl, ⟨by decide +kernel, by decide +kernel, by decide +kernel⟩, ⟨_, _, rfl⟩, by decide⟩
theorem lk_L_98 : Cond.methodLink RL 98 yX11_delay ∈ GT := gt_4 (List.mem_of_getElem? (i := 206) rfl) rfl
theorem mkX11_delay : MkV yX11_delay cX11_delay 2 (some .int) 1 11 := ⟨gt_4 (List.mem_of_getElem? (i := 207) rfl) rfl, gt_4 (List.mem_of_getElem? (i := 208) rfl) rfl, gt_1 (List.mem_of_getElem? (i := 1) rfl) rfl, gt_4 (List.mem_of_getElem? (i := 209) rfl) rfl, ⟨by decide +kernel, by decide +kernel, by decide +kernel⟩, ⟨_, _, rfl⟩, by decide⟩
theorem lk_X11_214 : Cond.methodLink RX11 214 yX0_findDelays ∈ GT := gt_4 (List.mem_of_getElem? (i := 210) rfl) rfl
theorem mkX0_findDelays : MkV yX0_findDelays cX0_findDelays 6 none 2 0 := ⟨gt_4 (List.mem_of_getElem? (i := 211) rfl) rfl, gt_4 (List.mem_of_getElem? (i := 212) rfl) rfl, gt_1 (List.mem_of_getElem? (i := 14) rfl) rfl, gt_4 (List.mem_of_getElem? (i := 213) rfl) rfl, ⟨by decide +kernel, by decide +kernel, by decide +kernel⟩, ⟨_, _, rfl⟩, by decide⟩
theorem lk_X0_94 : Cond.methodLink RX0 94 yX4_homeBits ∈ GT := gt_4 (List.mem_of_getElem? (i := 214) rfl) rfl
theorem mkX4_homeBits : MkV yX4_homeBits cX4_homeBits 4 (some .int) 1 4 := ⟨gt_4 (List.mem_of_getElem? (i := 215) rfl) rfl, gt_4 (List.mem_of_getElem? (i := 216) rfl) rfl, gt_1 (List.mem_of_getElem? (i := 9) rfl) rfl, gt_4 (List.mem_of_getElem? (i := 217) rfl) rfl, ⟨by decide +kernel, by decide +kernel, by decide +kernel⟩, ⟨_, _, rfl⟩, by decide⟩
theorem cn_X0_102 : Cond.constant RX0 102 (2147483647) ∈ GT := gt_4 (List.mem_of_getElem? (i := 218) rfl) rfl
theorem lk_X0_109 : Cond.methodLink RX0 109 yX0_tryRow ∈ GT := gt_4 (List.mem_of_getElem? (i := 219) rfl) rfl
theorem mkX0_tryRow : MkV yX0_tryRow cX0_tryRow 8 none 4 0 := ⟨gt_4 (List.mem_of_getElem? (i := 221) rfl) rfl, gt_p 26 rfl rfl, gt_1 (List.mem_of_getElem? (i := 14) rfl) rfl, gt_4 (List.mem_of_getElem? (i := 222) rfl) rfl, ⟨by decide +kernel, by decide +kernel, by decide +kernel⟩, ⟨_, _, rfl⟩, by decide⟩
theorem lk_X0_113 : Cond.methodLink RX0 113 yX0_layRow ∈ GT := gt_4 (List.mem_of_getElem? (i := 223) rfl) rfl
theorem mkX0_layRow : MkV yX0_layRow cX0_layRow 7 (some .int) 3 0 := ⟨gt_4 (List.mem_of_getElem? (i := 225) rfl) rfl, gt_p 27 rfl rfl, gt_1 (List.mem_of_getElem? (i := 14) rfl) rfl, gt_4 (List.mem_of_getElem? (i := 226) rfl) rfl, ⟨by decide +kernel, by decide +kernel, by decide +kernel⟩, ⟨_, _, rfl⟩, by decide⟩
theorem lk_X0_117 : Cond.methodLink RX0 117 yX4_putOff ∈ GT := gt_4 (List.mem_of_getElem? (i := 227) rfl) rfl
theorem lk_X0_121 : Cond.methodLink RX0 121 yX0_darkTimesOfAll ∈ GT := gt_4 (List.mem_of_getElem? (i := 228) rfl) rfl
theorem mkX0_darkTimesOfAll : MkV yX0_darkTimesOfAll cX0_darkTimesOfAll 6 (some .int) 3 0 := ⟨gt_4 (List.mem_of_getElem? (i := 230) rfl) rfl, gt_p 28 rfl rfl, gt_1 (List.mem_of_getElem? (i := 14) rfl) rfl, gt_4 (List.mem_of_getElem? (i := 231) rfl) rfl, ⟨by decide +kernel, by decide +kernel, by decide +kernel⟩, ⟨_, _, rfl⟩, by decide⟩
theorem lk_L_102 : Cond.methodLink RL 102 yX11_boys ∈ GT := gt_4 (List.mem_of_getElem? (i := 232) rfl) rfl
theorem mkX11_boys : MkV yX11_boys cX11_boys 1 (some .int) 0 11 := ⟨gt_4 (List.mem_of_getElem? (i := 233) rfl) rfl, gt_4 (List.mem_of_getElem? (i := 234) rfl) rfl, gt_1 (List.mem_of_getElem? (i := 1) rfl) rfl, gt_4 (List.mem_of_getElem? (i := 235) rfl) rfl, ⟨by decide +kernel, by decide +kernel, by decide +kernel⟩, ⟨_, _, rfl⟩, by decide⟩
theorem lk_X11_224 : Cond.methodLink RX11 224 yX0_fewestBoys ∈ GT := gt_4 (List.mem_of_getElem? (i := 236) rfl) rfl
theorem mkX0_fewestBoys : MkV yX0_fewestBoys cX0_fewestBoys 6 (some .int) 2 0 := ⟨gt_4 (List.mem_of_getElem? (i := 237) rfl) rfl, gt_4 (List.mem_of_getElem? (i := 238) rfl) rfl, gt_1 (List.mem_of_getElem? (i := 14) rfl) rfl, gt_4 (List.mem_of_getElem? (i := 239) rfl) rfl, ⟨by decide +kernel, by decide +kernel, by decide +kernel⟩, ⟨_, _, rfl⟩, by decide⟩
theorem lk_X0_127 : Cond.methodLink RX0 127 yX0_isLightEnough ∈ GT := gt_5 (List.mem_of_getElem? (i := 0) rfl) rfl
theorem mkX0_isLightEnough : MkV yX0_isLightEnough cX0_isLightEnough 5 (some .boolean) 3 0 := ⟨gt_5 (List.mem_of_getElem? (i := 2) rfl) rfl, gt_p 29 rfl rfl, gt_1 (List.mem_of_getElem? (i := 14) rfl) rfl, gt_5 (List.mem_of_getElem? (i := 3) rfl) rfl, ⟨by decide +kernel, by decide +kernel, by decide +kernel⟩, ⟨_, _, rfl⟩, by decide⟩
theorem lk_X0_131 : Cond.methodLink RX0 131 yX4_sendBoy ∈ GT := gt_5 (List.mem_of_getElem? (i := 4) rfl) rfl
theorem lk_L_106 : Cond.methodLink RL 106 yX11_alarm ∈ GT := gt_5 (List.mem_of_getElem? (i := 5) rfl) rfl
theorem mkX11_alarm : MkV yX11_alarm cX11_alarm 4 (some .int) 0 11 := ⟨gt_5 (List.mem_of_getElem? (i := 6) rfl) rfl, gt_5 (List.mem_of_getElem? (i := 7) rfl) rfl, gt_1 (List.mem_of_getElem? (i := 1) rfl) rfl, gt_5 (List.mem_of_getElem? (i := 8) rfl) rfl, ⟨by decide +kernel, by decide +kernel, by decide +kernel⟩, ⟨_, _, rfl⟩, by decide⟩
theorem lk_X11_230 : Cond.methodLink RX11 230 yX4_litBits ∈ GT := gt_5 (List.mem_of_getElem? (i := 9) rfl) rfl
theorem lk_L_110 : Cond.methodLink RL 110 yX11_blind ∈ GT := gt_5 (List.mem_of_getElem? (i := 10) rfl) rfl
theorem mkX11_blind : MkV yX11_blind cX11_blind 1 (some .int) 0 11 := ⟨gt_5 (List.mem_of_getElem? (i := 11) rfl) rfl, gt_5 (List.mem_of_getElem? (i := 12) rfl) rfl, gt_1 (List.mem_of_getElem? (i := 1) rfl) rfl, gt_5 (List.mem_of_getElem? (i := 13) rfl) rfl, ⟨by decide +kernel, by decide +kernel, by decide +kernel⟩, ⟨_, _, rfl⟩, by decide⟩
theorem lk_X11_233 : Cond.methodLink RX11 233 yX0_neverWalked ∈ GT := gt_5 (List.mem_of_getElem? (i := 14) rfl) rfl
theorem mkX0_neverWalked : MkV yX0_neverWalked cX0_neverWalked 5 (some .int) 2 0 := ⟨gt_5 (List.mem_of_getElem? (i := 15) rfl) rfl, gt_5 (List.mem_of_getElem? (i := 16) rfl) rfl, gt_1 (List.mem_of_getElem? (i := 14) rfl) rfl, gt_5 (List.mem_of_getElem? (i := 17) rfl) rfl, ⟨by decide +kernel, by decide +kernel, by decide +kernel⟩, ⟨_, _, rfl⟩, by decide⟩
theorem lk_L_114 : Cond.methodLink RL 114 yX11_meet ∈ GT := gt_5 (List.mem_of_getElem? (i := 18) rfl) rfl
theorem mkX11_meet : MkV yX11_meet cX11_meet 3 (some .int) 2 11 := ⟨gt_5 (List.mem_of_getElem? (i := 19) rfl) rfl, gt_5 (List.mem_of_getElem? (i := 20) rfl) rfl, gt_1 (List.mem_of_getElem? (i := 1) rfl) rfl, gt_5 (List.mem_of_getElem? (i := 21) rfl) rfl, ⟨by decide +kernel, by decide +kernel, by decide +kernel⟩, ⟨_, _, rfl⟩, by decide⟩
theorem lk_X11_236 : Cond.methodLink RX11 236 yX0_minutesTillMet ∈ GT := gt_5 (List.mem_of_getElem? (i := 22) rfl) rfl
theorem mkX0_minutesTillMet : MkV yX0_minutesTillMet cX0_minutesTillMet 6 (some .int) 4 0 := ⟨gt_5 (List.mem_of_getElem? (i := 23) rfl) rfl, gt_5 (List.mem_of_getElem? (i := 24) rfl) rfl, gt_1 (List.mem_of_getElem? (i := 14) rfl) rfl, gt_5 (List.mem_of_getElem? (i := 25) rfl) rfl, ⟨by decide +kernel, by decide +kernel, by decide +kernel⟩, ⟨_, _, rfl⟩, by decide⟩
theorem lk_X0_137 : Cond.methodLink RX0 137 yX0_areTogether ∈ GT := gt_5 (List.mem_of_getElem? (i := 26) rfl) rfl
theorem mkX0_areTogether : MkV yX0_areTogether cX0_areTogether 4 (some .boolean) 3 0 := ⟨gt_5 (List.mem_of_getElem? (i := 28) rfl) rfl, gt_p 30 rfl rfl, gt_1 (List.mem_of_getElem? (i := 14) rfl) rfl, gt_5 (List.mem_of_getElem? (i := 29) rfl) rfl, ⟨by decide +kernel, by decide +kernel, by decide +kernel⟩, ⟨_, _, rfl⟩, by decide⟩
theorem lk_X0_141 : Cond.methodLink RX0 141 yX4_isOut ∈ GT := gt_5 (List.mem_of_getElem? (i := 30) rfl) rfl
theorem lk_X0_144 : Cond.methodLink RX0 144 yX4_placeOf ∈ GT := gt_5 (List.mem_of_getElem? (i := 31) rfl) rfl
theorem lk_L_118 : Cond.methodLink RL 118 yX11_thief ∈ GT := gt_5 (List.mem_of_getElem? (i := 32) rfl) rfl
theorem mkX11_thief : MkV yX11_thief cX11_thief 1 (some .int) 0 11 := ⟨gt_5 (List.mem_of_getElem? (i := 33) rfl) rfl, gt_5 (List.mem_of_getElem? (i := 34) rfl) rfl, gt_1 (List.mem_of_getElem? (i := 1) rfl) rfl, gt_5 (List.mem_of_getElem? (i := 35) rfl) rfl, ⟨by decide +kernel, by decide +kernel, by decide +kernel⟩, ⟨_, _, rfl⟩, by decide⟩
theorem lk_X11_239 : Cond.methodLink RX11 239 yX0_bestFollowed ∈ GT := gt_5 (List.mem_of_getElem? (i := 36) rfl) rfl
theorem mkX0_bestFollowed : MkV yX0_bestFollowed cX0_bestFollowed 11 (some .int) 2 0 := ⟨gt_5 (List.mem_of_getElem? (i := 37) rfl) rfl, gt_5 (List.mem_of_getElem? (i := 38) rfl) rfl, gt_1 (List.mem_of_getElem? (i := 14) rfl) rfl, gt_5 (List.mem_of_getElem? (i := 39) rfl) rfl, ⟨by decide +kernel, by decide +kernel, by decide +kernel⟩, ⟨_, _, rfl⟩, by decide⟩
theorem lk_L_122 : Cond.methodLink RL 122 yX11_watch ∈ GT := gt_5 (List.mem_of_getElem? (i := 40) rfl) rfl
theorem mkX11_watch : MkV yX11_watch cX11_watch 4 (some .boolean) 3 11 := ⟨gt_5 (List.mem_of_getElem? (i := 41) rfl) rfl, gt_5 (List.mem_of_getElem? (i := 42) rfl) rfl, gt_1 (List.mem_of_getElem? (i := 1) rfl) rfl, gt_5 (List.mem_of_getElem? (i := 43) rfl) rfl, ⟨by decide +kernel, by decide +kernel, by decide +kernel⟩, ⟨_, _, rfl⟩, by decide⟩
theorem lk_X11_242 : Cond.methodLink RX11 242 yX10_add ∈ GT := gt_5 (List.mem_of_getElem? (i := 44) rfl) rfl
theorem mkX10_add : MkV yX10_add cX10_add 4 (some .boolean) 3 10 := ⟨gt_5 (List.mem_of_getElem? (i := 45) rfl) rfl, gt_5 (List.mem_of_getElem? (i := 46) rfl) rfl, gt_1 (List.mem_of_getElem? (i := 11) rfl) rfl, gt_5 (List.mem_of_getElem? (i := 47) rfl) rfl, ⟨by decide +kernel, by decide +kernel, by decide +kernel⟩, ⟨_, _, rfl⟩, by decide⟩
theorem lk_L_127 : Cond.methodLink RL 127 yX11_sets ∈ GT := gt_5 (List.mem_of_getElem? (i := 48) rfl) rfl
theorem mkX11_sets : MkV yX11_sets cX11_sets 2 (some .int) 1 11 := ⟨gt_5 (List.mem_of_getElem? (i := 49) rfl) rfl, gt_5 (List.mem_of_getElem? (i := 50) rfl) rfl, gt_1 (List.mem_of_getElem? (i := 1) rfl) rfl, gt_5 (List.mem_of_getElem? (i := 51) rfl) rfl, ⟨by decide +kernel, by decide +kernel, by decide +kernel⟩, ⟨_, _, rfl⟩, by decide⟩
theorem lk_X11_246 : Cond.methodLink RX11 246 yX0_fittingSets ∈ GT := gt_5 (List.mem_of_getElem? (i := 52) rfl) rfl
theorem mkX0_fittingSets : MkV yX0_fittingSets cX0_fittingSets 10 (some .int) 4 0 := ⟨gt_5 (List.mem_of_getElem? (i := 53) rfl) rfl, gt_5 (List.mem_of_getElem? (i := 54) rfl) rfl, gt_1 (List.mem_of_getElem? (i := 14) rfl) rfl, gt_5 (List.mem_of_getElem? (i := 55) rfl) rfl, ⟨by decide +kernel, by decide +kernel, by decide +kernel⟩, ⟨_, _, rfl⟩, by decide⟩
theorem lk_X0_148 : Cond.methodLink RX0 148 yX0_litBySet ∈ GT := gt_5 (List.mem_of_getElem? (i := 56) rfl) rfl
theorem mkX0_litBySet : MkV yX0_litBySet cX0_litBySet 10 (some .int) 5 0 := ⟨gt_5 (List.mem_of_getElem? (i := 58) rfl) rfl, gt_p 31 rfl rfl, gt_1 (List.mem_of_getElem? (i := 14) rfl) rfl, gt_5 (List.mem_of_getElem? (i := 59) rfl) rfl, ⟨by decide +kernel, by decide +kernel, by decide +kernel⟩, ⟨_, _, rfl⟩, by decide⟩
theorem lk_X0_158 : Cond.methodLink RX0 158 yX4_bringHome ∈ GT := gt_5 (List.mem_of_getElem? (i := 60) rfl) rfl
theorem mkX4_bringHome : MkV yX4_bringHome cX4_bringHome 2 none 1 4 := ⟨gt_5 (List.mem_of_getElem? (i := 61) rfl) rfl, gt_5 (List.mem_of_getElem? (i := 62) rfl) rfl, gt_1 (List.mem_of_getElem? (i := 9) rfl) rfl, gt_5 (List.mem_of_getElem? (i := 63) rfl) rfl, ⟨by decide +kernel, by decide +kernel, by decide +kernel⟩, ⟨_, _, rfl⟩, by decide⟩
theorem lk_X0_161 : Cond.methodLink RX0 161 yX10_lastMinute ∈ GT := gt_5 (List.mem_of_getElem? (i := 64) rfl) rfl
theorem mkX10_lastMinute : MkV yX10_lastMinute cX10_lastMinute 3 (some .int) 0 10 := ⟨gt_5 (List.mem_of_getElem? (i := 65) rfl) rfl, gt_5 (List.mem_of_getElem? (i := 66) rfl) rfl, gt_1 (List.mem_of_getElem? (i := 11) rfl) rfl, gt_5 (List.mem_of_getElem? (i := 67) rfl) rfl, ⟨by decide +kernel, by decide +kernel, by decide +kernel⟩, ⟨_, _, rfl⟩, by decide⟩
theorem lk_X10_24 : Cond.methodLink RX10 24 yJ9_max_7cf53 ∈ GT := gt_5 (List.mem_of_getElem? (i := 68) rfl) rfl
theorem lk_X0_152 : Cond.methodLink RX0 152 yJ9_max_7cf53 ∈ GT := gt_5 (List.mem_of_getElem? (i := 69) rfl) rfl
theorem lk_X0_167 : Cond.methodLink RX0 167 yX10_isSo ∈ GT := gt_5 (List.mem_of_getElem? (i := 70) rfl) rfl
theorem mkX10_isSo : MkV yX10_isSo cX10_isSo 5 (some .boolean) 2 10 := ⟨gt_5 (List.mem_of_getElem? (i := 71) rfl) rfl, gt_5 (List.mem_of_getElem? (i := 72) rfl) rfl, gt_1 (List.mem_of_getElem? (i := 11) rfl) rfl, gt_5 (List.mem_of_getElem? (i := 73) rfl) rfl, ⟨by decide +kernel, by decide +kernel, by decide +kernel⟩, ⟨_, _, rfl⟩, by decide⟩
theorem lk_L_131 : Cond.methodLink RL 131 yX11_look ∈ GT := gt_5 (List.mem_of_getElem? (i := 74) rfl) rfl
theorem mkX11_look : MkV yX11_look cX11_look 2 (some .int) 1 11 := ⟨gt_5 (List.mem_of_getElem? (i := 75) rfl) rfl, gt_5 (List.mem_of_getElem? (i := 76) rfl) rfl, gt_1 (List.mem_of_getElem? (i := 1) rfl) rfl, gt_5 (List.mem_of_getElem? (i := 77) rfl) rfl, ⟨by decide +kernel, by decide +kernel, by decide +kernel⟩, ⟨_, _, rfl⟩, by decide⟩
theorem lk_X11_250 : Cond.methodLink RX11 250 yX0_laneToWatch ∈ GT := gt_5 (List.mem_of_getElem? (i := 78) rfl) rfl
theorem mkX0_laneToWatch : MkV yX0_laneToWatch cX0_laneToWatch 11 (some .int) 4 0 := ⟨gt_5 (List.mem_of_getElem? (i := 79) rfl) rfl, gt_5 (List.mem_of_getElem? (i := 80) rfl) rfl, gt_1 (List.mem_of_getElem? (i := 14) rfl) rfl, gt_5 (List.mem_of_getElem? (i := 81) rfl) rfl, ⟨by decide +kernel, by decide +kernel, by decide +kernel⟩, ⟨_, _, rfl⟩, by decide⟩
theorem lk_L_135 : Cond.methodLink RL 135 yX11_oil ∈ GT := gt_5 (List.mem_of_getElem? (i := 82) rfl) rfl
theorem mkX11_oil : MkV yX11_oil cX11_oil 1 (some .int) 0 11 := ⟨gt_5 (List.mem_of_getElem? (i := 83) rfl) rfl, gt_5 (List.mem_of_getElem? (i := 84) rfl) rfl, gt_1 (List.mem_of_getElem? (i := 1) rfl) rfl, gt_5 (List.mem_of_getElem? (i := 85) rfl) rfl, ⟨by decide +kernel, by decide +kernel, by decide +kernel⟩, ⟨_, _, rfl⟩, by decide⟩
theorem lk_X11_253 : Cond.methodLink RX11 253 yX0_oilWithout ∈ GT := gt_5 (List.mem_of_getElem? (i := 86) rfl) rfl
theorem mkX0_oilWithout : MkV yX0_oilWithout cX0_oilWithout 4 (some .int) 3 0 := ⟨gt_5 (List.mem_of_getElem? (i := 87) rfl) rfl, gt_5 (List.mem_of_getElem? (i := 88) rfl) rfl, gt_1 (List.mem_of_getElem? (i := 14) rfl) rfl, gt_5 (List.mem_of_getElem? (i := 89) rfl) rfl, ⟨by decide +kernel, by decide +kernel, by decide +kernel⟩, ⟨_, _, rfl⟩, by decide⟩
theorem lk_X0_171 : Cond.methodLink RX0 171 yX0_oilToTheEnd ∈ GT := gt_5 (List.mem_of_getElem? (i := 90) rfl) rfl
theorem mkX0_oilToTheEnd : MkV yX0_oilToTheEnd cX0_oilToTheEnd 4 (some .int) 1 0 := ⟨gt_5 (List.mem_of_getElem? (i := 92) rfl) rfl, gt_p 32 rfl rfl, gt_1 (List.mem_of_getElem? (i := 14) rfl) rfl, gt_5 (List.mem_of_getElem? (i := 93) rfl) rfl, ⟨by decide +kernel, by decide +kernel, by decide +kernel⟩, ⟨_, _, rfl⟩, by decide⟩
theorem lk_L_148 : Cond.methodLink RL 148 yX11_longer ∈ GT := gt_5 (List.mem_of_getElem? (i := 94) rfl) rfl
theorem mkX11_longer : MkV yX11_longer cX11_longer 2 (some .int) 1 11 := ⟨gt_5 (List.mem_of_getElem? (i := 95) rfl) rfl, gt_5 (List.mem_of_getElem? (i := 96) rfl) rfl, gt_1 (List.mem_of_getElem? (i := 1) rfl) rfl, gt_5 (List.mem_of_getElem? (i := 97) rfl) rfl, ⟨by decide +kernel, by decide +kernel, by decide +kernel⟩, ⟨_, _, rfl⟩, by decide⟩
theorem lk_X11_263 : Cond.methodLink RX11 263 yX0_darkTimesIfLonger ∈ GT := gt_5 (List.mem_of_getElem? (i := 98) rfl) rfl
theorem mkX0_darkTimesIfLonger : MkV yX0_darkTimesIfLonger cX0_darkTimesIfLonger 4 (some .int) 3 0 := ⟨gt_5 (List.mem_of_getElem? (i := 99) rfl) rfl, gt_5 (List.mem_of_getElem? (i := 100) rfl) rfl, gt_1 (List.mem_of_getElem? (i := 14) rfl) rfl, gt_5 (List.mem_of_getElem? (i := 101) rfl) rfl, ⟨by decide +kernel, by decide +kernel, by decide +kernel⟩, ⟨_, _, rfl⟩, by decide⟩
theorem lk_L_156 : Cond.methodLink RL 156 yX11_nights ∈ GT := gt_5 (List.mem_of_getElem? (i := 102) rfl) rfl
theorem mkX11_nights : MkV yX11_nights cX11_nights 4 (some .int) 3 11 := ⟨gt_5 (List.mem_of_getElem? (i := 103) rfl) rfl, gt_5 (List.mem_of_getElem? (i := 104) rfl) rfl, gt_1 (List.mem_of_getElem? (i := 1) rfl) rfl, gt_5 (List.mem_of_getElem? (i := 105) rfl) rfl, ⟨by decide +kernel, by decide +kernel, by decide +kernel⟩, ⟨_, _, rfl⟩, by decide⟩
theorem lk_X11_277 : Cond.methodLink RX11 277 yX0_drawnNights ∈ GT := gt_5 (List.mem_of_getElem? (i := 106) rfl) rfl
theorem mkX0_drawnNights : MkV yX0_drawnNights cX0_drawnNights 12 (some .int) 4 0 := ⟨gt_5 (List.mem_of_getElem? (i := 107) rfl) rfl, gt_5 (List.mem_of_getElem? (i := 108) rfl) rfl, gt_1 (List.mem_of_getElem? (i := 14) rfl) rfl, gt_5 (List.mem_of_getElem? (i := 109) rfl) rfl, ⟨by decide +kernel, by decide +kernel, by decide +kernel⟩, ⟨_, _, rfl⟩, by decide⟩
theorem cn_X0_174 : Cond.constantLong RX0 174 (1103515245) ∈ GT := gt_5 (List.mem_of_getElem? (i := 110) rfl) rfl
theorem cn_X0_176 : Cond.constantLong RX0 176 (12345) ∈ GT := gt_5 (List.mem_of_getElem? (i := 111) rfl) rfl
theorem cn_X0_178 : Cond.constantLong RX0 178 (2147483648) ∈ GT := gt_5 (List.mem_of_getElem? (i := 112) rfl) rfl
theorem cn_X0_183 : Cond.constantLong RX0 183 (65536) ∈ GT := gt_5 (List.mem_of_getElem? (i := 113) rfl) rfl
theorem cn_X0_185 : Cond.constantLong RX0 185 (31) ∈ GT := gt_5 (List.mem_of_getElem? (i := 114) rfl) rfl
theorem lk_L_161 : Cond.methodLink RL 161 yX11_mark ∈ GT := gt_5 (List.mem_of_getElem? (i := 115) rfl) rfl
theorem mkX11_mark : MkV yX11_mark cX11_mark 4 (some .boolean) 2 11 := ⟨gt_5 (List.mem_of_getElem? (i := 116) rfl) rfl, gt_5 (List.mem_of_getElem? (i := 117) rfl) rfl, gt_1 (List.mem_of_getElem? (i := 1) rfl) rfl, gt_5 (List.mem_of_getElem? (i := 118) rfl) rfl, ⟨by decide +kernel, by decide +kernel, by decide +kernel⟩, ⟨_, _, rfl⟩, by decide⟩
theorem lk_X11_281 : Cond.methodLink RX11 281 yX3_lay ∈ GT := gt_5 (List.mem_of_getElem? (i := 119) rfl) rfl
theorem mkX3_lay : MkV yX3_lay cX3_lay 4 none 3 3 := ⟨gt_5 (List.mem_of_getElem? (i := 120) rfl) rfl, gt_5 (List.mem_of_getElem? (i := 121) rfl) rfl, gt_1 (List.mem_of_getElem? (i := 12) rfl) rfl, gt_5 (List.mem_of_getElem? (i := 122) rfl) rfl, ⟨by decide +kernel, by decide +kernel, by decide +kernel⟩, ⟨_, _, rfl⟩, by decide⟩
theorem lk_X3_34 : Cond.methodLink RX3 34 yX4_copyFrom ∈ GT := gt_5 (List.mem_of_getElem? (i := 123) rfl) rfl
theorem lk_X3_38 : Cond.methodLink RX3 38 yX2_copyFrom ∈ GT := gt_5 (List.mem_of_getElem? (i := 124) rfl) rfl
theorem mkX2_copyFrom : MkV yX2_copyFrom cX2_copyFrom 2 none 1 2 := ⟨gt_5 (List.mem_of_getElem? (i := 125) rfl) rfl, gt_5 (List.mem_of_getElem? (i := 126) rfl) rfl, gt_1 (List.mem_of_getElem? (i := 13) rfl) rfl, gt_5 (List.mem_of_getElem? (i := 127) rfl) rfl, ⟨by decide +kernel, by decide +kernel, by decide +kernel⟩, ⟨_, _, rfl⟩, by decide⟩
theorem lk_X3_41 : Cond.methodLink RX3 41 yX10_copyFrom ∈ GT := gt_5 (List.mem_of_getElem? (i := 129) rfl) rfl
theorem mkX10_copyFrom : MkV yX10_copyFrom cX10_copyFrom 3 none 1 10 := ⟨gt_5 (List.mem_of_getElem? (i := 130) rfl) rfl, gt_5 (List.mem_of_getElem? (i := 131) rfl) rfl, gt_1 (List.mem_of_getElem? (i := 11) rfl) rfl, gt_5 (List.mem_of_getElem? (i := 132) rfl) rfl, ⟨by decide +kernel, by decide +kernel, by decide +kernel⟩, ⟨_, _, rfl⟩, by decide⟩
theorem lk_X11_288 : Cond.methodLink RX11 288 yX4_copyFrom ∈ GT := gt_5 (List.mem_of_getElem? (i := 133) rfl) rfl
theorem lk_X11_293 : Cond.methodLink RX11 293 yX2_copyFrom ∈ GT := gt_5 (List.mem_of_getElem? (i := 134) rfl) rfl
theorem lk_X11_297 : Cond.methodLink RX11 297 yX10_copyFrom ∈ GT := gt_5 (List.mem_of_getElem? (i := 135) rfl) rfl
theorem lk_L_166 : Cond.methodLink RL 166 yX11_count ∈ GT := gt_5 (List.mem_of_getElem? (i := 136) rfl) rfl
theorem mkX11_count : MkV yX11_count cX11_count 2 (some .int) 1 11 := ⟨gt_5 (List.mem_of_getElem? (i := 137) rfl) rfl, gt_5 (List.mem_of_getElem? (i := 138) rfl) rfl, gt_1 (List.mem_of_getElem? (i := 1) rfl) rfl, gt_5 (List.mem_of_getElem? (i := 139) rfl) rfl, ⟨by decide +kernel, by decide +kernel, by decide +kernel⟩, ⟨_, _, rfl⟩, by decide⟩
theorem lk_X11_309 : Cond.methodLink RX11 309 yX4_homeBits ∈ GT := gt_5 (List.mem_of_getElem? (i := 140) rfl) rfl
theorem lk_L_139 : Cond.methodLink RL 139 yL_share ∈ GT := gt_5 (List.mem_of_getElem? (i := 141) rfl) rfl
theorem lk_L_7 : Cond.methodLink RL 7 yX11_share ∈ GT := gt_5 (List.mem_of_getElem? (i := 145) rfl) rfl
theorem mkX11_share : MkV yX11_share cX11_share 2 (some .int) 1 11 := ⟨gt_5 (List.mem_of_getElem? (i := 146) rfl) rfl, gt_5 (List.mem_of_getElem? (i := 147) rfl) rfl, gt_1 (List.mem_of_getElem? (i := 1) rfl) rfl, gt_5 (List.mem_of_getElem? (i := 148) rfl) rfl, ⟨by decide +kernel, by decide +kernel, by decide +kernel⟩, ⟨_, _, rfl⟩, by decide⟩
theorem lk_L_152 : Cond.methodLink RL 152 yL_rests ∈ GT := gt_5 (List.mem_of_getElem? (i := 214) rfl) rfl
theorem lk_L_15 : Cond.methodLink RL 15 yX11_rests ∈ GT := gt_5 (List.mem_of_getElem? (i := 217) rfl) rfl
theorem mkX11_rests : MkV yX11_rests cX11_rests 7 (some .int) 4 11 := ⟨gt_5 (List.mem_of_getElem? (i := 218) rfl) rfl, gt_5 (List.mem_of_getElem? (i := 219) rfl) rfl, gt_1 (List.mem_of_getElem? (i := 1) rfl) rfl, gt_5 (List.mem_of_getElem? (i := 220) rfl) rfl, ⟨by decide +kernel, by decide +kernel, by decide +kernel⟩, ⟨_, _, rfl⟩, by decide⟩
theorem lk_X11_266 : Cond.methodLink RX11 266 yX11_isPay ∈ GT := gt_5 (List.mem_of_getElem? (i := 221) rfl) rfl
theorem mkX11_isPay : MkS yX11_isPay cX11_isPay 1 (some .boolean) 1 := ⟨gt_5 (List.mem_of_getElem? (i := 222) rfl) rfl, gt_1 (List.mem_of_getElem? (i := 1) rfl) rfl, gt_5 (List.mem_of_getElem? (i := 223) rfl) rfl, ⟨by decide +kernel, by decide +kernel, by decide +kernel⟩, by decide⟩
theorem lk_X11_271 : Cond.methodLink RX11 271 yX11_isRest ∈ GT := gt_5 (List.mem_of_getElem? (i := 225) rfl) rfl
theorem mkX11_isRest : MkS yX11_isRest cX11_isRest 6 (some .boolean) 4 := ⟨gt_5 (List.mem_of_getElem? (i := 226) rfl) rfl, gt_1 (List.mem_of_getElem? (i := 1) rfl) rfl, gt_5 (List.mem_of_getElem? (i := 227) rfl) rfl, ⟨by decide +kernel, by decide +kernel, by decide +kernel⟩, by decide⟩
theorem lk_X11_322 : Cond.methodLink RX11 322 yX11_gain ∈ GT := gt_5 (List.mem_of_getElem? (i := 228) rfl) rfl
theorem mkX11_gain : MkS yX11_gain cX11_gain 5 (some .int) 5 := ⟨gt_5 (List.mem_of_getElem? (i := 229) rfl) rfl, gt_1 (List.mem_of_getElem? (i := 1) rfl) rfl, gt_5 (List.mem_of_getElem? (i := 230) rfl) rfl, ⟨by decide +kernel, by decide +kernel, by decide +kernel⟩, by decide⟩
theorem lk_L_22 : Cond.methodLink RL 22 yX12_init ∈ GT := gt_5 (List.mem_of_getElem? (i := 234) rfl) rfl
theorem lk_X12_163 : Cond.methodLink RX12 163 yX12_lays0 ∈ GT := gt_5 (List.mem_of_getElem? (i := 238) rfl) rfl
theorem mkX12_lays0 : MkV yX12_lays0 cX12_lays0 3 none 0 12 := ⟨gt_6 (List.mem_of_getElem? (i := 0) rfl) rfl, gt_p 34 rfl rfl, gt_1 (List.mem_of_getElem? (i := 17) rfl) rfl, gt_6 (List.mem_of_getElem? (i := 1) rfl) rfl, ⟨by decide +kernel, by decide +kernel, by decide +kernel⟩, ⟨_, _, rfl⟩, by decide⟩
theorem lk_X12_321 : Cond.methodLink RX12 321 yX12_laneOf ∈ GT := gt_6 (List.mem_of_getElem? (i := 2) rfl) rfl
theorem mkX12_laneOf : MkV yX12_laneOf cX12_laneOf 5 (some .int) 3 12 := ⟨gt_6 (List.mem_of_getElem? (i := 4) rfl) rfl, gt_p 35 rfl rfl, gt_1 (List.mem_of_getElem? (i := 17) rfl) rfl, gt_6 (List.mem_of_getElem? (i := 5) rfl) rfl, ⟨by decide +kernel, by decide +kernel, by decide +kernel⟩, ⟨_, _, rfl⟩, by decide⟩
theorem lk_X12_365 : Cond.methodLink RX12 365 yJ9_min_7cf53 ∈ GT := gt_6 (List.mem_of_getElem? (i := 6) rfl) rfl
theorem lk_X12_166 : Cond.methodLink RX12 166 yX12_fresh ∈ GT := gt_6 (List.mem_of_getElem? (i := 7) rfl) rfl
theorem mkX12_fresh : MkV yX12_fresh cX12_fresh 2 none 0 12 := ⟨gt_6 (List.mem_of_getElem? (i := 9) rfl) rfl, gt_p 36 rfl rfl, gt_1 (List.mem_of_getElem? (i := 17) rfl) rfl, gt_6 (List.mem_of_getElem? (i := 10) rfl) rfl, ⟨by decide +kernel, by decide +kernel, by decide +kernel⟩, ⟨_, _, rfl⟩, by decide⟩
theorem lk_L_145 : Cond.methodLink RL 145 yX12_thrown ∈ GT := gt_6 (List.mem_of_getElem? (i := 231) rfl) rfl
theorem mkX12_thrown : MkV yX12_thrown cX12_thrown 1 (some .int) 0 12 := ⟨gt_6 (List.mem_of_getElem? (i := 232) rfl) rfl, gt_6 (List.mem_of_getElem? (i := 233) rfl) rfl, gt_1 (List.mem_of_getElem? (i := 17) rfl) rfl, gt_6 (List.mem_of_getElem? (i := 234) rfl) rfl, ⟨by decide +kernel, by decide +kernel, by decide +kernel⟩, ⟨_, _, rfl⟩, by decide⟩
theorem lk_L_29 : Cond.methodLink RL 29 yX12_feed ∈ GT := gt_6 (List.mem_of_getElem? (i := 235) rfl) rfl
theorem mkX12_feed : MkV yX12_feed cX12_feed 11 (some .int) 3 12 := ⟨gt_6 (List.mem_of_getElem? (i := 236) rfl) rfl, gt_6 (List.mem_of_getElem? (i := 237) rfl) rfl, gt_1 (List.mem_of_getElem? (i := 17) rfl) rfl, gt_6 (List.mem_of_getElem? (i := 238) rfl) rfl, ⟨by decide +kernel, by decide +kernel, by decide +kernel⟩, ⟨_, _, rfl⟩, by decide⟩
theorem cn_X12_172 : Cond.constantLong RX12 172 (255) ∈ GT := gt_6 (List.mem_of_getElem? (i := 239) rfl) rfl
theorem lk_L_34 : Cond.methodLink RL 34 yX12_town ∈ GT := gt_7 (List.mem_of_getElem? (i := 0) rfl) rfl
theorem mkX12_town : MkV yX12_town cX12_town 2 (some .int) 0 12 := ⟨gt_7 (List.mem_of_getElem? (i := 1) rfl) rfl, gt_7 (List.mem_of_getElem? (i := 2) rfl) rfl, gt_1 (List.mem_of_getElem? (i := 17) rfl) rfl, gt_7 (List.mem_of_getElem? (i := 3) rfl) rfl, ⟨by decide +kernel, by decide +kernel, by decide +kernel⟩, ⟨_, _, rfl⟩, by decide⟩
theorem lk_X12_371 : Cond.methodLink RX12 371 yX12_readsAll ∈ GT := gt_7 (List.mem_of_getElem? (i := 4) rfl) rfl
theorem mkX12_readsAll : MkV yX12_readsAll cX12_readsAll 2 (some .boolean) 0 12 := ⟨gt_7 (List.mem_of_getElem? (i := 6) rfl) rfl, gt_p 37 rfl rfl, gt_1 (List.mem_of_getElem? (i := 17) rfl) rfl, gt_7 (List.mem_of_getElem? (i := 7) rfl) rfl, ⟨by decide +kernel, by decide +kernel, by decide +kernel⟩, ⟨_, _, rfl⟩, by decide⟩
theorem lk_X12_339 : Cond.methodLink RX12 339 yX12_begins ∈ GT := gt_7 (List.mem_of_getElem? (i := 8) rfl) rfl
theorem mkX12_begins : MkV yX12_begins cX12_begins 1 none 0 12 := ⟨gt_7 (List.mem_of_getElem? (i := 10) rfl) rfl, gt_p 38 rfl rfl, gt_1 (List.mem_of_getElem? (i := 17) rfl) rfl, gt_7 (List.mem_of_getElem? (i := 11) rfl) rfl, ⟨by decide +kernel, by decide +kernel, by decide +kernel⟩, ⟨_, _, rfl⟩, by decide⟩
theorem lk_X12_239 : Cond.methodLink RX12 239 yX12_nextToken ∈ GT := gt_7 (List.mem_of_getElem? (i := 12) rfl) rfl
theorem mkX12_nextToken : MkV yX12_nextToken cX12_nextToken 2 none 0 12 := ⟨gt_7 (List.mem_of_getElem? (i := 14) rfl) rfl, gt_p 39 rfl rfl, gt_1 (List.mem_of_getElem? (i := 17) rfl) rfl, gt_7 (List.mem_of_getElem? (i := 15) rfl) rfl, ⟨by decide +kernel, by decide +kernel, by decide +kernel⟩, ⟨_, _, rfl⟩, by decide⟩
theorem lk_X12_196 : Cond.methodLink RX12 196 yX12_signAt ∈ GT := gt_7 (List.mem_of_getElem? (i := 16) rfl) rfl
theorem mkX12_signAt : MkV yX12_signAt cX12_signAt 2 (some .int) 1 12 := ⟨gt_7 (List.mem_of_getElem? (i := 18) rfl) rfl, gt_p 40 rfl rfl, gt_1 (List.mem_of_getElem? (i := 17) rfl) rfl, gt_7 (List.mem_of_getElem? (i := 19) rfl) rfl, ⟨by decide +kernel, by decide +kernel, by decide +kernel⟩, ⟨_, _, rfl⟩, by decide⟩
theorem cn_X12_200 : Cond.constantLong RX12 200 (27) ∈ GT := gt_7 (List.mem_of_getElem? (i := 20) rfl) rfl
theorem cn_X12_202 : Cond.constantLong RX12 202 (96) ∈ GT := gt_7 (List.mem_of_getElem? (i := 21) rfl) rfl
theorem cn_X12_255 : Cond.constantLong RX12 255 (8740067) ∈ GT := gt_7 (List.mem_of_getElem? (i := 22) rfl) rfl
theorem lk_X12_224 : Cond.methodLink RX12 224 yX12_isWord ∈ GT := gt_7 (List.mem_of_getElem? (i := 23) rfl) rfl
theorem mkX12_isWord : MkV yX12_isWord cX12_isWord 3 (some .boolean) 1 12 := ⟨gt_7 (List.mem_of_getElem? (i := 25) rfl) rfl, gt_p 41 rfl rfl, gt_1 (List.mem_of_getElem? (i := 17) rfl) rfl, gt_7 (List.mem_of_getElem? (i := 26) rfl) rfl, ⟨by decide +kernel, by decide +kernel, by decide +kernel⟩, ⟨_, _, rfl⟩, by decide⟩
theorem lk_X12_342 : Cond.methodLink RX12 342 yX12_readsPlace ∈ GT := gt_7 (List.mem_of_getElem? (i := 27) rfl) rfl
theorem mkX12_readsPlace : MkV yX12_readsPlace cX12_readsPlace 2 (some .boolean) 0 12 := ⟨gt_7 (List.mem_of_getElem? (i := 29) rfl) rfl, gt_p 42 rfl rfl, gt_1 (List.mem_of_getElem? (i := 17) rfl) rfl, gt_7 (List.mem_of_getElem? (i := 30) rfl) rfl, ⟨by decide +kernel, by decide +kernel, by decide +kernel⟩, ⟨_, _, rfl⟩, by decide⟩
theorem lk_X12_232 : Cond.methodLink RX12 232 yX12_fails ∈ GT := gt_7 (List.mem_of_getElem? (i := 31) rfl) rfl
theorem mkX12_fails : MkV yX12_fails cX12_fails 2 (some .boolean) 1 12 := ⟨gt_7 (List.mem_of_getElem? (i := 33) rfl) rfl, gt_p 43 rfl rfl, gt_1 (List.mem_of_getElem? (i := 17) rfl) rfl, gt_7 (List.mem_of_getElem? (i := 34) rfl) rfl, ⟨by decide +kernel, by decide +kernel, by decide +kernel⟩, ⟨_, _, rfl⟩, by decide⟩
theorem lk_X12_312 : Cond.methodLink RX12 312 yX12_needsNew ∈ GT := gt_7 (List.mem_of_getElem? (i := 35) rfl) rfl
theorem mkX12_needsNew : MkV yX12_needsNew cX12_needsNew 1 (some .boolean) 0 12 := ⟨gt_7 (List.mem_of_getElem? (i := 37) rfl) rfl, gt_p 44 rfl rfl, gt_1 (List.mem_of_getElem? (i := 17) rfl) rfl, gt_7 (List.mem_of_getElem? (i := 38) rfl) rfl, ⟨by decide +kernel, by decide +kernel, by decide +kernel⟩, ⟨_, _, rfl⟩, by decide⟩
theorem lk_X12_294 : Cond.methodLink RX12 294 yX12_isKept ∈ GT := gt_7 (List.mem_of_getElem? (i := 39) rfl) rfl
theorem mkX12_isKept : MkV yX12_isKept cX12_isKept 1 (some .boolean) 0 12 := ⟨gt_7 (List.mem_of_getElem? (i := 41) rfl) rfl, gt_p 45 rfl rfl, gt_1 (List.mem_of_getElem? (i := 17) rfl) rfl, gt_7 (List.mem_of_getElem? (i := 42) rfl) rfl, ⟨by decide +kernel, by decide +kernel, by decide +kernel⟩, ⟨_, _, rfl⟩, by decide⟩
theorem cn_X12_257 : Cond.constantLong RX12 257 (237308) ∈ GT := gt_7 (List.mem_of_getElem? (i := 43) rfl) rfl
theorem cn_X12_259 : Cond.constantLong RX12 259 (1489744) ∈ GT := gt_7 (List.mem_of_getElem? (i := 44) rfl) rfl
theorem cn_X12_261 : Cond.constantLong RX12 261 (330800670) ∈ GT := gt_7 (List.mem_of_getElem? (i := 45) rfl) rfl
theorem cn_X12_263 : Cond.constantLong RX12 263 (131638) ∈ GT := gt_7 (List.mem_of_getElem? (i := 46) rfl) rfl
theorem cn_X12_265 : Cond.constantLong RX12 265 (555) ∈ GT := gt_7 (List.mem_of_getElem? (i := 47) rfl) rfl
theorem cn_X12_267 : Cond.constantLong RX12 267 (47) ∈ GT := gt_7 (List.mem_of_getElem? (i := 48) rfl) rfl
theorem cn_X12_269 : Cond.constantLong RX12 269 (1888) ∈ GT := gt_7 (List.mem_of_getElem? (i := 49) rfl) rfl
theorem cn_X12_271 : Cond.constantLong RX12 271 (191610176) ∈ GT := gt_7 (List.mem_of_getElem? (i := 50) rfl) rfl
theorem cn_X12_273 : Cond.constantLong RX12 273 (378004) ∈ GT := gt_7 (List.mem_of_getElem? (i := 51) rfl) rfl
theorem cn_X12_275 : Cond.constantLong RX12 275 (453701) ∈ GT := gt_7 (List.mem_of_getElem? (i := 52) rfl) rfl
theorem cn_X12_277 : Cond.constantLong RX12 277 (40187) ∈ GT := gt_7 (List.mem_of_getElem? (i := 53) rfl) rfl
theorem cn_X12_279 : Cond.constantLong RX12 279 (8740238) ∈ GT := gt_7 (List.mem_of_getElem? (i := 54) rfl) rfl
theorem cn_X12_281 : Cond.constantLong RX12 281 (237292) ∈ GT := gt_7 (List.mem_of_getElem? (i := 55) rfl) rfl
theorem cn_X12_283 : Cond.constantLong RX12 283 (1306021) ∈ GT := gt_7 (List.mem_of_getElem? (i := 56) rfl) rfl
theorem cn_X12_285 : Cond.constantLong RX12 285 (2495756) ∈ GT := gt_7 (List.mem_of_getElem? (i := 57) rfl) rfl
theorem cn_X12_222 : Cond.constantLong RX12 222 (10631) ∈ GT := gt_7 (List.mem_of_getElem? (i := 58) rfl) rfl
theorem cn_X12_242 : Cond.constantLong RX12 242 (1111) ∈ GT := gt_7 (List.mem_of_getElem? (i := 59) rfl) rfl
theorem cn_X12_244 : Cond.constantLong RX12 244 (423) ∈ GT := gt_7 (List.mem_of_getElem? (i := 60) rfl) rfl
theorem lk_X12_298 : Cond.methodLink RX12 298 yX12_placeNamed ∈ GT := gt_7 (List.mem_of_getElem? (i := 61) rfl) rfl
theorem mkX12_placeNamed : MkV yX12_placeNamed cX12_placeNamed 3 (some .int) 1 12 := ⟨gt_7 (List.mem_of_getElem? (i := 63) rfl) rfl, gt_p 46 rfl rfl, gt_1 (List.mem_of_getElem? (i := 17) rfl) rfl, gt_7 (List.mem_of_getElem? (i := 64) rfl) rfl, ⟨by decide +kernel, by decide +kernel, by decide +kernel⟩, ⟨_, _, rfl⟩, by decide⟩
theorem lk_X12_301 : Cond.methodLink RX12 301 yX12_walkerNamed ∈ GT := gt_7 (List.mem_of_getElem? (i := 65) rfl) rfl
theorem mkX12_walkerNamed : MkV yX12_walkerNamed cX12_walkerNamed 3 (some .int) 1 12 := ⟨gt_7 (List.mem_of_getElem? (i := 67) rfl) rfl, gt_p 47 rfl rfl, gt_1 (List.mem_of_getElem? (i := 17) rfl) rfl, gt_7 (List.mem_of_getElem? (i := 68) rfl) rfl, ⟨by decide +kernel, by decide +kernel, by decide +kernel⟩, ⟨_, _, rfl⟩, by decide⟩
theorem lk_X12_315 : Cond.methodLink RX12 315 yX12_closes ∈ GT := gt_7 (List.mem_of_getElem? (i := 69) rfl) rfl
theorem mkX12_closes : MkV yX12_closes cX12_closes 1 (some .boolean) 0 12 := ⟨gt_7 (List.mem_of_getElem? (i := 71) rfl) rfl, gt_p 48 rfl rfl, gt_1 (List.mem_of_getElem? (i := 17) rfl) rfl, gt_7 (List.mem_of_getElem? (i := 72) rfl) rfl, ⟨by decide +kernel, by decide +kernel, by decide +kernel⟩, ⟨_, _, rfl⟩, by decide⟩
theorem lk_X12_228 : Cond.methodLink RX12 228 yX12_isSign ∈ GT := gt_7 (List.mem_of_getElem? (i := 73) rfl) rfl
theorem mkX12_isSign : MkV yX12_isSign cX12_isSign 2 (some .boolean) 1 12 := ⟨gt_7 (List.mem_of_getElem? (i := 75) rfl) rfl, gt_p 49 rfl rfl, gt_1 (List.mem_of_getElem? (i := 17) rfl) rfl, gt_7 (List.mem_of_getElem? (i := 76) rfl) rfl, ⟨by decide +kernel, by decide +kernel, by decide +kernel⟩, ⟨_, _, rfl⟩, by decide⟩
theorem lk_X12_345 : Cond.methodLink RX12 345 yX12_readsLane ∈ GT := gt_7 (List.mem_of_getElem? (i := 77) rfl) rfl
theorem mkX12_readsLane : MkV yX12_readsLane cX12_readsLane 2 (some .boolean) 0 12 := ⟨gt_7 (List.mem_of_getElem? (i := 79) rfl) rfl, gt_p 50 rfl rfl, gt_1 (List.mem_of_getElem? (i := 17) rfl) rfl, gt_7 (List.mem_of_getElem? (i := 80) rfl) rfl, ⟨by decide +kernel, by decide +kernel, by decide +kernel⟩, ⟨_, _, rfl⟩, by decide⟩
theorem lk_X12_318 : Cond.methodLink RX12 318 yX12_needsTwo ∈ GT := gt_7 (List.mem_of_getElem? (i := 81) rfl) rfl
theorem mkX12_needsTwo : MkV yX12_needsTwo cX12_needsTwo 2 (some .boolean) 1 12 := ⟨gt_7 (List.mem_of_getElem? (i := 83) rfl) rfl, gt_p 51 rfl rfl, gt_1 (List.mem_of_getElem? (i := 17) rfl) rfl, gt_7 (List.mem_of_getElem? (i := 84) rfl) rfl, ⟨by decide +kernel, by decide +kernel, by decide +kernel⟩, ⟨_, _, rfl⟩, by decide⟩
theorem lk_X12_306 : Cond.methodLink RX12 306 yX12_needsPlace ∈ GT := gt_7 (List.mem_of_getElem? (i := 85) rfl) rfl
theorem mkX12_needsPlace : MkV yX12_needsPlace cX12_needsPlace 2 (some .boolean) 1 12 := ⟨gt_7 (List.mem_of_getElem? (i := 87) rfl) rfl, gt_p 52 rfl rfl, gt_1 (List.mem_of_getElem? (i := 17) rfl) rfl, gt_7 (List.mem_of_getElem? (i := 88) rfl) rfl, ⟨by decide +kernel, by decide +kernel, by decide +kernel⟩, ⟨_, _, rfl⟩, by decide⟩
theorem lk_X12_325 : Cond.methodLink RX12 325 yX12_needsWord ∈ GT := gt_7 (List.mem_of_getElem? (i := 89) rfl) rfl
theorem mkX12_needsWord : MkV yX12_needsWord cX12_needsWord 3 (some .boolean) 1 12 := ⟨gt_7 (List.mem_of_getElem? (i := 91) rfl) rfl, gt_p 53 rfl rfl, gt_1 (List.mem_of_getElem? (i := 17) rfl) rfl, gt_7 (List.mem_of_getElem? (i := 92) rfl) rfl, ⟨by decide +kernel, by decide +kernel, by decide +kernel⟩, ⟨_, _, rfl⟩, by decide⟩
theorem lk_X12_328 : Cond.methodLink RX12 328 yX12_needsNumber ∈ GT := gt_7 (List.mem_of_getElem? (i := 93) rfl) rfl
theorem mkX12_needsNumber : MkV yX12_needsNumber cX12_needsNumber 3 (some .boolean) 2 12 := ⟨gt_7 (List.mem_of_getElem? (i := 95) rfl) rfl, gt_p 54 rfl rfl, gt_1 (List.mem_of_getElem? (i := 17) rfl) rfl, gt_7 (List.mem_of_getElem? (i := 96) rfl) rfl, ⟨by decide +kernel, by decide +kernel, by decide +kernel⟩, ⟨_, _, rfl⟩, by decide⟩
theorem lk_X12_287 : Cond.methodLink RX12 287 yX12_within ∈ GT := gt_7 (List.mem_of_getElem? (i := 97) rfl) rfl
theorem mkX12_within : MkS yX12_within cX12_within 3 (some .boolean) 3 := ⟨gt_7 (List.mem_of_getElem? (i := 98) rfl) rfl, gt_1 (List.mem_of_getElem? (i := 17) rfl) rfl, gt_7 (List.mem_of_getElem? (i := 99) rfl) rfl, ⟨by decide +kernel, by decide +kernel, by decide +kernel⟩, by decide⟩
theorem lk_X12_348 : Cond.methodLink RX12 348 yX12_readsWalker ∈ GT := gt_7 (List.mem_of_getElem? (i := 100) rfl) rfl
theorem mkX12_readsWalker : MkV yX12_readsWalker cX12_readsWalker 4 (some .boolean) 0 12 := ⟨gt_7 (List.mem_of_getElem? (i := 102) rfl) rfl, gt_p 55 rfl rfl, gt_1 (List.mem_of_getElem? (i := 17) rfl) rfl, gt_7 (List.mem_of_getElem? (i := 103) rfl) rfl, ⟨by decide +kernel, by decide +kernel, by decide +kernel⟩, ⟨_, _, rfl⟩, by decide⟩
theorem lk_X12_351 : Cond.methodLink RX12 351 yX12_readsBoy ∈ GT := gt_7 (List.mem_of_getElem? (i := 104) rfl) rfl
theorem mkX12_readsBoy : MkV yX12_readsBoy cX12_readsBoy 1 (some .boolean) 0 12 := ⟨gt_7 (List.mem_of_getElem? (i := 106) rfl) rfl, gt_p 56 rfl rfl, gt_1 (List.mem_of_getElem? (i := 17) rfl) rfl, gt_7 (List.mem_of_getElem? (i := 107) rfl) rfl, ⟨by decide +kernel, by decide +kernel, by decide +kernel⟩, ⟨_, _, rfl⟩, by decide⟩
theorem lk_X12_354 : Cond.methodLink RX12 354 yX12_readsBurns ∈ GT := gt_7 (List.mem_of_getElem? (i := 108) rfl) rfl
theorem mkX12_readsBurns : MkV yX12_readsBurns cX12_readsBurns 1 (some .boolean) 0 12 := ⟨gt_7 (List.mem_of_getElem? (i := 110) rfl) rfl, gt_p 57 rfl rfl, gt_1 (List.mem_of_getElem? (i := 17) rfl) rfl, gt_7 (List.mem_of_getElem? (i := 111) rfl) rfl, ⟨by decide +kernel, by decide +kernel, by decide +kernel⟩, ⟨_, _, rfl⟩, by decide⟩
theorem lk_X12_336 : Cond.methodLink RX12 336 yX12_reads ∈ GT := gt_7 (List.mem_of_getElem? (i := 112) rfl) rfl
theorem mkX12_reads : MkV yX12_reads cX12_reads 6 (some .boolean) 0 12 := ⟨gt_7 (List.mem_of_getElem? (i := 114) rfl) rfl, gt_p 58 rfl rfl, gt_1 (List.mem_of_getElem? (i := 17) rfl) rfl, gt_7 (List.mem_of_getElem? (i := 115) rfl) rfl, ⟨by decide +kernel, by decide +kernel, by decide +kernel⟩, ⟨_, _, rfl⟩, by decide⟩
theorem lk_X12_218 : Cond.methodLink RX12 218 yX12_fact ∈ GT := gt_7 (List.mem_of_getElem? (i := 116) rfl) rfl
theorem mkX12_fact : MkV yX12_fact cX12_fact 1 (some .int) 0 12 := ⟨gt_7 (List.mem_of_getElem? (i := 118) rfl) rfl, gt_p 59 rfl rfl, gt_1 (List.mem_of_getElem? (i := 17) rfl) rfl, gt_7 (List.mem_of_getElem? (i := 119) rfl) rfl, ⟨by decide +kernel, by decide +kernel, by decide +kernel⟩, ⟨_, _, rfl⟩, by decide⟩
theorem cn_X12_210 : Cond.constantLong RX12 210 (404923) ∈ GT := gt_7 (List.mem_of_getElem? (i := 120) rfl) rfl
theorem cn_X12_212 : Cond.constantLong RX12 212 (240023) ∈ GT := gt_7 (List.mem_of_getElem? (i := 121) rfl) rfl
theorem cn_X12_214 : Cond.constantLong RX12 214 (121898) ∈ GT := gt_7 (List.mem_of_getElem? (i := 122) rfl) rfl
theorem cn_X12_216 : Cond.constantLong RX12 216 (237470) ∈ GT := gt_7 (List.mem_of_getElem? (i := 123) rfl) rfl
theorem lk_X12_235 : Cond.methodLink RX12 235 yX12_puts ∈ GT := gt_7 (List.mem_of_getElem? (i := 124) rfl) rfl
theorem mkX12_puts : MkV yX12_puts cX12_puts 2 none 1 12 := ⟨gt_7 (List.mem_of_getElem? (i := 126) rfl) rfl, gt_p 60 rfl rfl, gt_1 (List.mem_of_getElem? (i := 17) rfl) rfl, gt_7 (List.mem_of_getElem? (i := 127) rfl) rfl, ⟨by decide +kernel, by decide +kernel, by decide +kernel⟩, ⟨_, _, rfl⟩, by decide⟩
theorem lk_X12_374 : Cond.methodLink RX12 374 yX12_lays ∈ GT := gt_7 (List.mem_of_getElem? (i := 128) rfl) rfl
theorem mkX12_lays : MkV yX12_lays cX12_lays 1 none 0 12 := ⟨gt_7 (List.mem_of_getElem? (i := 130) rfl) rfl, gt_p 61 rfl rfl, gt_1 (List.mem_of_getElem? (i := 17) rfl) rfl, gt_7 (List.mem_of_getElem? (i := 131) rfl) rfl, ⟨by decide +kernel, by decide +kernel, by decide +kernel⟩, ⟨_, _, rfl⟩, by decide⟩
theorem lk_X12_357 : Cond.methodLink RX12 357 yX12_shifts ∈ GT := gt_7 (List.mem_of_getElem? (i := 132) rfl) rfl
theorem mkX12_shifts : MkS yX12_shifts cX12_shifts 3 none 2 := ⟨gt_7 (List.mem_of_getElem? (i := 133) rfl) rfl, gt_1 (List.mem_of_getElem? (i := 17) rfl) rfl, gt_7 (List.mem_of_getElem? (i := 134) rfl) rfl, ⟨by decide +kernel, by decide +kernel, by decide +kernel⟩, by decide⟩
theorem lk_X12_361 : Cond.methodLink RX12 361 yX12_shiftsNames ∈ GT := gt_7 (List.mem_of_getElem? (i := 135) rfl) rfl
theorem mkX12_shiftsNames : MkS yX12_shiftsNames cX12_shiftsNames 3 none 2 := ⟨gt_7 (List.mem_of_getElem? (i := 136) rfl) rfl, gt_1 (List.mem_of_getElem? (i := 17) rfl) rfl, gt_7 (List.mem_of_getElem? (i := 137) rfl) rfl, ⟨by decide +kernel, by decide +kernel, by decide +kernel⟩, by decide⟩
theorem lk_L_38 : Cond.methodLink RL 38 yX12_evening ∈ GT := gt_7 (List.mem_of_getElem? (i := 138) rfl) rfl
theorem mkX12_evening : MkV yX12_evening cX12_evening 1 (some .int) 0 12 := ⟨gt_7 (List.mem_of_getElem? (i := 139) rfl) rfl, gt_7 (List.mem_of_getElem? (i := 140) rfl) rfl, gt_1 (List.mem_of_getElem? (i := 17) rfl) rfl, gt_7 (List.mem_of_getElem? (i := 141) rfl) rfl, ⟨by decide +kernel, by decide +kernel, by decide +kernel⟩, ⟨_, _, rfl⟩, by decide⟩
theorem lk_X12_380 : Cond.methodLink RX12 380 yX12_readsLine ∈ GT := gt_7 (List.mem_of_getElem? (i := 142) rfl) rfl
theorem mkX12_readsLine : MkV yX12_readsLine cX12_readsLine 3 (some .boolean) 0 12 := ⟨gt_7 (List.mem_of_getElem? (i := 144) rfl) rfl, gt_p 62 rfl rfl, gt_1 (List.mem_of_getElem? (i := 17) rfl) rfl, gt_7 (List.mem_of_getElem? (i := 145) rfl) rfl, ⟨by decide +kernel, by decide +kernel, by decide +kernel⟩, ⟨_, _, rfl⟩, by decide⟩
theorem lk_X12_383 : Cond.methodLink RX12 383 yX12_laysLines ∈ GT := gt_7 (List.mem_of_getElem? (i := 146) rfl) rfl
theorem mkX12_laysLines : MkV yX12_laysLines cX12_laysLines 4 none 2 12 := ⟨gt_7 (List.mem_of_getElem? (i := 148) rfl) rfl, gt_p 63 rfl rfl, gt_1 (List.mem_of_getElem? (i := 17) rfl) rfl, gt_7 (List.mem_of_getElem? (i := 149) rfl) rfl, ⟨by decide +kernel, by decide +kernel, by decide +kernel⟩, ⟨_, _, rfl⟩, by decide⟩
theorem lk_L_43 : Cond.methodLink RL 43 yX12_lane ∈ GT := gt_7 (List.mem_of_getElem? (i := 150) rfl) rfl
theorem mkX12_lane : MkV yX12_lane cX12_lane 3 (some .int) 2 12 := ⟨gt_7 (List.mem_of_getElem? (i := 151) rfl) rfl, gt_7 (List.mem_of_getElem? (i := 152) rfl) rfl, gt_1 (List.mem_of_getElem? (i := 17) rfl) rfl, gt_7 (List.mem_of_getElem? (i := 153) rfl) rfl, ⟨by decide +kernel, by decide +kernel, by decide +kernel⟩, ⟨_, _, rfl⟩, by decide⟩
theorem lk_X12_420 : Cond.methodLink RX12 420 yX12_isLane ∈ GT := gt_7 (List.mem_of_getElem? (i := 154) rfl) rfl
theorem mkX12_isLane : MkV yX12_isLane cX12_isLane 2 (some .boolean) 1 12 := ⟨gt_7 (List.mem_of_getElem? (i := 156) rfl) rfl, gt_p 64 rfl rfl, gt_1 (List.mem_of_getElem? (i := 17) rfl) rfl, gt_7 (List.mem_of_getElem? (i := 157) rfl) rfl, ⟨by decide +kernel, by decide +kernel, by decide +kernel⟩, ⟨_, _, rfl⟩, by decide⟩
theorem lk_L_47 : Cond.methodLink RL 47 yX12_walker ∈ GT := gt_7 (List.mem_of_getElem? (i := 158) rfl) rfl
theorem mkX12_walker : MkV yX12_walker cX12_walker 3 (some .int) 2 12 := ⟨gt_7 (List.mem_of_getElem? (i := 159) rfl) rfl, gt_7 (List.mem_of_getElem? (i := 160) rfl) rfl, gt_1 (List.mem_of_getElem? (i := 17) rfl) rfl, gt_7 (List.mem_of_getElem? (i := 161) rfl) rfl, ⟨by decide +kernel, by decide +kernel, by decide +kernel⟩, ⟨_, _, rfl⟩, by decide⟩
theorem lk_X12_423 : Cond.methodLink RX12 423 yX12_isWalker ∈ GT := gt_7 (List.mem_of_getElem? (i := 162) rfl) rfl
theorem mkX12_isWalker : MkV yX12_isWalker cX12_isWalker 2 (some .boolean) 1 12 := ⟨gt_7 (List.mem_of_getElem? (i := 164) rfl) rfl, gt_p 65 rfl rfl, gt_1 (List.mem_of_getElem? (i := 17) rfl) rfl, gt_7 (List.mem_of_getElem? (i := 165) rfl) rfl, ⟨by decide +kernel, by decide +kernel, by decide +kernel⟩, ⟨_, _, rfl⟩, by decide⟩
theorem lk_X12_387 : Cond.methodLink RX12 387 yX12_isHome ∈ GT := gt_7 (List.mem_of_getElem? (i := 166) rfl) rfl
theorem mkX12_isHome : MkV yX12_isHome cX12_isHome 2 (some .boolean) 1 12 := ⟨gt_7 (List.mem_of_getElem? (i := 168) rfl) rfl, gt_p 66 rfl rfl, gt_1 (List.mem_of_getElem? (i := 17) rfl) rfl, gt_7 (List.mem_of_getElem? (i := 169) rfl) rfl, ⟨by decide +kernel, by decide +kernel, by decide +kernel⟩, ⟨_, _, rfl⟩, by decide⟩
theorem lk_X12_408 : Cond.methodLink RX12 408 yX12_isOut ∈ GT := gt_7 (List.mem_of_getElem? (i := 170) rfl) rfl
theorem mkX12_isOut : MkV yX12_isOut cX12_isOut 2 (some .boolean) 1 12 := ⟨gt_7 (List.mem_of_getElem? (i := 172) rfl) rfl, gt_p 67 rfl rfl, gt_1 (List.mem_of_getElem? (i := 17) rfl) rfl, gt_7 (List.mem_of_getElem? (i := 173) rfl) rfl, ⟨by decide +kernel, by decide +kernel, by decide +kernel⟩, ⟨_, _, rfl⟩, by decide⟩
theorem lk_L_51 : Cond.methodLink RL 51 yX12_way ∈ GT := gt_7 (List.mem_of_getElem? (i := 174) rfl) rfl
theorem mkX12_way : MkV yX12_way cX12_way 3 (some .int) 2 12 := ⟨gt_7 (List.mem_of_getElem? (i := 175) rfl) rfl, gt_7 (List.mem_of_getElem? (i := 176) rfl) rfl, gt_1 (List.mem_of_getElem? (i := 17) rfl) rfl, gt_7 (List.mem_of_getElem? (i := 177) rfl) rfl, ⟨by decide +kernel, by decide +kernel, by decide +kernel⟩, ⟨_, _, rfl⟩, by decide⟩
theorem lk_X12_426 : Cond.methodLink RX12 426 yX12_isPlace ∈ GT := gt_7 (List.mem_of_getElem? (i := 178) rfl) rfl
theorem mkX12_isPlace : MkV yX12_isPlace cX12_isPlace 2 (some .boolean) 1 12 := ⟨gt_7 (List.mem_of_getElem? (i := 180) rfl) rfl, gt_p 68 rfl rfl, gt_1 (List.mem_of_getElem? (i := 17) rfl) rfl, gt_7 (List.mem_of_getElem? (i := 181) rfl) rfl, ⟨by decide +kernel, by decide +kernel, by decide +kernel⟩, ⟨_, _, rfl⟩, by decide⟩
theorem lk_L_55 : Cond.methodLink RL 55 yX12_next ∈ GT := gt_7 (List.mem_of_getElem? (i := 182) rfl) rfl
theorem mkX12_next : MkV yX12_next cX12_next 2 (some .int) 1 12 := ⟨gt_7 (List.mem_of_getElem? (i := 183) rfl) rfl, gt_7 (List.mem_of_getElem? (i := 184) rfl) rfl, gt_1 (List.mem_of_getElem? (i := 17) rfl) rfl, gt_7 (List.mem_of_getElem? (i := 185) rfl) rfl, ⟨by decide +kernel, by decide +kernel, by decide +kernel⟩, ⟨_, _, rfl⟩, by decide⟩
theorem lk_X12_411 : Cond.methodLink RX12 411 yX12_lanesAhead ∈ GT := gt_7 (List.mem_of_getElem? (i := 186) rfl) rfl
theorem mkX12_lanesAhead : MkV yX12_lanesAhead cX12_lanesAhead 2 (some .int) 1 12 := ⟨gt_7 (List.mem_of_getElem? (i := 188) rfl) rfl, gt_p 69 rfl rfl, gt_1 (List.mem_of_getElem? (i := 17) rfl) rfl, gt_7 (List.mem_of_getElem? (i := 189) rfl) rfl, ⟨by decide +kernel, by decide +kernel, by decide +kernel⟩, ⟨_, _, rfl⟩, by decide⟩
theorem lk_X12_393 : Cond.methodLink RX12 393 yX12_nextPlace ∈ GT := gt_7 (List.mem_of_getElem? (i := 190) rfl) rfl
theorem mkX12_nextPlace : MkV yX12_nextPlace cX12_nextPlace 4 (some .int) 2 12 := ⟨gt_7 (List.mem_of_getElem? (i := 192) rfl) rfl, gt_p 70 rfl rfl, gt_1 (List.mem_of_getElem? (i := 17) rfl) rfl, gt_7 (List.mem_of_getElem? (i := 193) rfl) rfl, ⟨by decide +kernel, by decide +kernel, by decide +kernel⟩, ⟨_, _, rfl⟩, by decide⟩
theorem lk_L_59 : Cond.methodLink RL 59 yX12_minute ∈ GT := gt_7 (List.mem_of_getElem? (i := 194) rfl) rfl
theorem mkX12_minute : MkV yX12_minute cX12_minute 1 (some .int) 0 12 := ⟨gt_7 (List.mem_of_getElem? (i := 195) rfl) rfl, gt_7 (List.mem_of_getElem? (i := 196) rfl) rfl, gt_1 (List.mem_of_getElem? (i := 17) rfl) rfl, gt_7 (List.mem_of_getElem? (i := 197) rfl) rfl, ⟨by decide +kernel, by decide +kernel, by decide +kernel⟩, ⟨_, _, rfl⟩, by decide⟩
theorem lk_X12_433 : Cond.methodLink RX12 433 yX12_keeps ∈ GT := gt_7 (List.mem_of_getElem? (i := 198) rfl) rfl
theorem mkX12_keeps : MkV yX12_keeps cX12_keeps 2 none 0 12 := ⟨gt_7 (List.mem_of_getElem? (i := 200) rfl) rfl, gt_p 71 rfl rfl, gt_1 (List.mem_of_getElem? (i := 17) rfl) rfl, gt_7 (List.mem_of_getElem? (i := 201) rfl) rfl, ⟨by decide +kernel, by decide +kernel, by decide +kernel⟩, ⟨_, _, rfl⟩, by decide⟩
theorem lk_X12_429 : Cond.methodLink RX12 429 yX12_copies ∈ GT := gt_7 (List.mem_of_getElem? (i := 202) rfl) rfl
theorem mkX12_copies : MkS yX12_copies cX12_copies 5 none 4 := ⟨gt_7 (List.mem_of_getElem? (i := 203) rfl) rfl, gt_1 (List.mem_of_getElem? (i := 17) rfl) rfl, gt_7 (List.mem_of_getElem? (i := 204) rfl) rfl, ⟨by decide +kernel, by decide +kernel, by decide +kernel⟩, by decide⟩
theorem lk_X12_436 : Cond.methodLink RX12 436 yX12_passes ∈ GT := gt_7 (List.mem_of_getElem? (i := 205) rfl) rfl
theorem mkX12_passes : MkV yX12_passes cX12_passes 4 (some .int) 0 12 := ⟨gt_7 (List.mem_of_getElem? (i := 207) rfl) rfl, gt_p 72 rfl rfl, gt_1 (List.mem_of_getElem? (i := 17) rfl) rfl, gt_7 (List.mem_of_getElem? (i := 208) rfl) rfl, ⟨by decide +kernel, by decide +kernel, by decide +kernel⟩, ⟨_, _, rfl⟩, by decide⟩
theorem lk_X12_414 : Cond.methodLink RX12 414 yX12_goesAlong ∈ GT := gt_7 (List.mem_of_getElem? (i := 209) rfl) rfl
theorem mkX12_goesAlong : MkV yX12_goesAlong cX12_goesAlong 3 none 2 12 := ⟨gt_7 (List.mem_of_getElem? (i := 211) rfl) rfl, gt_p 73 rfl rfl, gt_1 (List.mem_of_getElem? (i := 17) rfl) rfl, gt_7 (List.mem_of_getElem? (i := 212) rfl) rfl, ⟨by decide +kernel, by decide +kernel, by decide +kernel⟩, ⟨_, _, rfl⟩, by decide⟩
theorem lk_X12_405 : Cond.methodLink RX12 405 yJ9_max_7cf53 ∈ GT := gt_7 (List.mem_of_getElem? (i := 213) rfl) rfl
theorem lk_X12_417 : Cond.methodLink RX12 417 yX12_burnsBy ∈ GT := gt_7 (List.mem_of_getElem? (i := 214) rfl) rfl
theorem mkX12_burnsBy : MkV yX12_burnsBy cX12_burnsBy 5 (some .int) 3 12 := ⟨gt_7 (List.mem_of_getElem? (i := 216) rfl) rfl, gt_p 74 rfl rfl, gt_1 (List.mem_of_getElem? (i := 17) rfl) rfl, gt_7 (List.mem_of_getElem? (i := 217) rfl) rfl, ⟨by decide +kernel, by decide +kernel, by decide +kernel⟩, ⟨_, _, rfl⟩, by decide⟩
theorem lk_X12_399 : Cond.methodLink RX12 399 yX12_worked ∈ GT := gt_7 (List.mem_of_getElem? (i := 218) rfl) rfl
theorem mkX12_worked : MkV yX12_worked cX12_worked 6 (some .int) 1 12 := ⟨gt_7 (List.mem_of_getElem? (i := 220) rfl) rfl, gt_p 75 rfl rfl, gt_1 (List.mem_of_getElem? (i := 17) rfl) rfl, gt_7 (List.mem_of_getElem? (i := 221) rfl) rfl, ⟨by decide +kernel, by decide +kernel, by decide +kernel⟩, ⟨_, _, rfl⟩, by decide⟩
theorem lk_X12_249 : Cond.methodLink RX12 249 yX12_opens ∈ GT := gt_7 (List.mem_of_getElem? (i := 222) rfl) rfl
theorem mkX12_opens : MkV yX12_opens cX12_opens 2 none 1 12 := ⟨gt_7 (List.mem_of_getElem? (i := 224) rfl) rfl, gt_p 76 rfl rfl, gt_1 (List.mem_of_getElem? (i := 17) rfl) rfl, gt_7 (List.mem_of_getElem? (i := 225) rfl) rfl, ⟨by decide +kernel, by decide +kernel, by decide +kernel⟩, ⟨_, _, rfl⟩, by decide⟩
theorem lk_X12_246 : Cond.methodLink RX12 246 yX12_sums ∈ GT := gt_7 (List.mem_of_getElem? (i := 226) rfl) rfl
theorem mkX12_sums : MkV yX12_sums cX12_sums 2 none 1 12 := ⟨gt_7 (List.mem_of_getElem? (i := 228) rfl) rfl, gt_p 77 rfl rfl, gt_1 (List.mem_of_getElem? (i := 17) rfl) rfl, gt_7 (List.mem_of_getElem? (i := 229) rfl) rfl, ⟨by decide +kernel, by decide +kernel, by decide +kernel⟩, ⟨_, _, rfl⟩, by decide⟩
theorem lk_X12_252 : Cond.methodLink RX12 252 yX12_tests ∈ GT := gt_7 (List.mem_of_getElem? (i := 230) rfl) rfl
theorem mkX12_tests : MkV yX12_tests cX12_tests 3 none 1 12 := ⟨gt_7 (List.mem_of_getElem? (i := 232) rfl) rfl, gt_p 78 rfl rfl, gt_1 (List.mem_of_getElem? (i := 17) rfl) rfl, gt_7 (List.mem_of_getElem? (i := 233) rfl) rfl, ⟨by decide +kernel, by decide +kernel, by decide +kernel⟩, ⟨_, _, rfl⟩, by decide⟩
theorem lk_X12_402 : Cond.methodLink RX12 402 yX12_between ∈ GT := gt_7 (List.mem_of_getElem? (i := 234) rfl) rfl
theorem mkX12_between : MkS yX12_between cX12_between 3 (some .int) 3 := ⟨gt_7 (List.mem_of_getElem? (i := 235) rfl) rfl, gt_1 (List.mem_of_getElem? (i := 17) rfl) rfl, gt_7 (List.mem_of_getElem? (i := 236) rfl) rfl, ⟨by decide +kernel, by decide +kernel, by decide +kernel⟩, by decide⟩
theorem lk_L_63 : Cond.methodLink RL 63 yX12_send ∈ GT := gt_7 (List.mem_of_getElem? (i := 237) rfl) rfl
theorem mkX12_send : MkV yX12_send cX12_send 3 (some .int) 2 12 := ⟨gt_7 (List.mem_of_getElem? (i := 238) rfl) rfl, gt_7 (List.mem_of_getElem? (i := 239) rfl) rfl, gt_1 (List.mem_of_getElem? (i := 17) rfl) rfl, gt_8 (List.mem_of_getElem? (i := 0) rfl) rfl, ⟨by decide +kernel, by decide +kernel, by decide +kernel⟩, ⟨_, _, rfl⟩, by decide⟩
theorem lk_X12_439 : Cond.methodLink RX12 439 yX12_sends ∈ GT := gt_8 (List.mem_of_getElem? (i := 1) rfl) rfl
theorem mkX12_sends : MkV yX12_sends cX12_sends 2 none 1 12 := ⟨gt_8 (List.mem_of_getElem? (i := 3) rfl) rfl, gt_p 79 rfl rfl, gt_1 (List.mem_of_getElem? (i := 17) rfl) rfl, gt_8 (List.mem_of_getElem? (i := 4) rfl) rfl, ⟨by decide +kernel, by decide +kernel, by decide +kernel⟩, ⟨_, _, rfl⟩, by decide⟩
theorem lk_L_67 : Cond.methodLink RL 67 yX12_waits ∈ GT := gt_8 (List.mem_of_getElem? (i := 5) rfl) rfl
theorem mkX12_waits : MkV yX12_waits cX12_waits 2 (some .int) 1 12 := ⟨gt_8 (List.mem_of_getElem? (i := 6) rfl) rfl, gt_8 (List.mem_of_getElem? (i := 7) rfl) rfl, gt_1 (List.mem_of_getElem? (i := 17) rfl) rfl, gt_8 (List.mem_of_getElem? (i := 8) rfl) rfl, ⟨by decide +kernel, by decide +kernel, by decide +kernel⟩, ⟨_, _, rfl⟩, by decide⟩
theorem lk_X12_442 : Cond.methodLink RX12 442 yX12_waitsMore ∈ GT := gt_8 (List.mem_of_getElem? (i := 9) rfl) rfl
theorem mkX12_waitsMore : MkV yX12_waitsMore cX12_waitsMore 2 none 1 12 := ⟨gt_8 (List.mem_of_getElem? (i := 11) rfl) rfl, gt_p 80 rfl rfl, gt_1 (List.mem_of_getElem? (i := 17) rfl) rfl, gt_8 (List.mem_of_getElem? (i := 12) rfl) rfl, ⟨by decide +kernel, by decide +kernel, by decide +kernel⟩, ⟨_, _, rfl⟩, by decide⟩
theorem lk_L_72 : Cond.methodLink RL 72 yX12_back ∈ GT := gt_8 (List.mem_of_getElem? (i := 13) rfl) rfl
theorem mkX12_back : MkV yX12_back cX12_back 2 (some .boolean) 1 12 := ⟨gt_8 (List.mem_of_getElem? (i := 14) rfl) rfl, gt_8 (List.mem_of_getElem? (i := 15) rfl) rfl, gt_1 (List.mem_of_getElem? (i := 17) rfl) rfl, gt_8 (List.mem_of_getElem? (i := 16) rfl) rfl, ⟨by decide +kernel, by decide +kernel, by decide +kernel⟩, ⟨_, _, rfl⟩, by decide⟩
theorem lk_X12_445 : Cond.methodLink RX12 445 yX12_canTurn ∈ GT := gt_8 (List.mem_of_getElem? (i := 17) rfl) rfl
theorem mkX12_canTurn : MkV yX12_canTurn cX12_canTurn 2 (some .boolean) 1 12 := ⟨gt_8 (List.mem_of_getElem? (i := 19) rfl) rfl, gt_p 81 rfl rfl, gt_1 (List.mem_of_getElem? (i := 17) rfl) rfl, gt_8 (List.mem_of_getElem? (i := 20) rfl) rfl, ⟨by decide +kernel, by decide +kernel, by decide +kernel⟩, ⟨_, _, rfl⟩, by decide⟩
theorem lk_L_77 : Cond.methodLink RL 77 yX12_undo ∈ GT := gt_8 (List.mem_of_getElem? (i := 21) rfl) rfl
theorem mkX12_undo : MkV yX12_undo cX12_undo 1 (some .boolean) 0 12 := ⟨gt_8 (List.mem_of_getElem? (i := 22) rfl) rfl, gt_8 (List.mem_of_getElem? (i := 23) rfl) rfl, gt_1 (List.mem_of_getElem? (i := 17) rfl) rfl, gt_8 (List.mem_of_getElem? (i := 24) rfl) rfl, ⟨by decide +kernel, by decide +kernel, by decide +kernel⟩, ⟨_, _, rfl⟩, by decide⟩
theorem lk_L_81 : Cond.methodLink RL 81 yX12_judged ∈ GT := gt_8 (List.mem_of_getElem? (i := 25) rfl) rfl
theorem mkX12_judged : MkV yX12_judged cX12_judged 6 (some .int) 1 12 := ⟨gt_8 (List.mem_of_getElem? (i := 26) rfl) rfl, gt_8 (List.mem_of_getElem? (i := 27) rfl) rfl, gt_1 (List.mem_of_getElem? (i := 17) rfl) rfl, gt_8 (List.mem_of_getElem? (i := 28) rfl) rfl, ⟨by decide +kernel, by decide +kernel, by decide +kernel⟩, ⟨_, _, rfl⟩, by decide⟩
theorem lk_X12_448 : Cond.methodLink RX12 448 yX12_goes ∈ GT := gt_8 (List.mem_of_getElem? (i := 29) rfl) rfl
theorem mkX12_goes : MkV yX12_goes cX12_goes 4 (some .boolean) 1 12 := ⟨gt_8 (List.mem_of_getElem? (i := 31) rfl) rfl, gt_p 82 rfl rfl, gt_1 (List.mem_of_getElem? (i := 17) rfl) rfl, gt_8 (List.mem_of_getElem? (i := 32) rfl) rfl, ⟨by decide +kernel, by decide +kernel, by decide +kernel⟩, ⟨_, _, rfl⟩, by decide⟩
theorem lk_L_85 : Cond.methodLink RL 85 yX12_darks ∈ GT := gt_8 (List.mem_of_getElem? (i := 33) rfl) rfl
theorem mkX12_darks : MkV yX12_darks cX12_darks 2 (some .int) 1 12 := ⟨gt_8 (List.mem_of_getElem? (i := 34) rfl) rfl, gt_8 (List.mem_of_getElem? (i := 35) rfl) rfl, gt_1 (List.mem_of_getElem? (i := 17) rfl) rfl, gt_8 (List.mem_of_getElem? (i := 36) rfl) rfl, ⟨by decide +kernel, by decide +kernel, by decide +kernel⟩, ⟨_, _, rfl⟩, by decide⟩
theorem lk_X12_478 : Cond.methodLink RX12 478 yX12_tries ∈ GT := gt_8 (List.mem_of_getElem? (i := 37) rfl) rfl
theorem mkX12_tries : MkV yX12_tries cX12_tries 1 none 0 12 := ⟨gt_8 (List.mem_of_getElem? (i := 39) rfl) rfl, gt_p 83 rfl rfl, gt_1 (List.mem_of_getElem? (i := 17) rfl) rfl, gt_8 (List.mem_of_getElem? (i := 40) rfl) rfl, ⟨by decide +kernel, by decide +kernel, by decide +kernel⟩, ⟨_, _, rfl⟩, by decide⟩
theorem lk_X12_475 : Cond.methodLink RX12 475 yX12_goesHome ∈ GT := gt_8 (List.mem_of_getElem? (i := 41) rfl) rfl
theorem mkX12_goesHome : MkV yX12_goesHome cX12_goesHome 2 none 0 12 := ⟨gt_8 (List.mem_of_getElem? (i := 43) rfl) rfl, gt_p 84 rfl rfl, gt_1 (List.mem_of_getElem? (i := 17) rfl) rfl, gt_8 (List.mem_of_getElem? (i := 44) rfl) rfl, ⟨by decide +kernel, by decide +kernel, by decide +kernel⟩, ⟨_, _, rfl⟩, by decide⟩
theorem lk_X12_466 : Cond.methodLink RX12 466 yX12_notes ∈ GT := gt_8 (List.mem_of_getElem? (i := 45) rfl) rfl
theorem mkX12_notes : MkV yX12_notes cX12_notes 3 none 1 12 := ⟨gt_8 (List.mem_of_getElem? (i := 47) rfl) rfl, gt_p 85 rfl rfl, gt_1 (List.mem_of_getElem? (i := 17) rfl) rfl, gt_8 (List.mem_of_getElem? (i := 48) rfl) rfl, ⟨by decide +kernel, by decide +kernel, by decide +kernel⟩, ⟨_, _, rfl⟩, by decide⟩
theorem lk_X12_451 : Cond.methodLink RX12 451 yX12_burning ∈ GT := gt_8 (List.mem_of_getElem? (i := 49) rfl) rfl
theorem mkX12_burning : MkV yX12_burning cX12_burning 3 (some .int) 0 12 := ⟨gt_8 (List.mem_of_getElem? (i := 51) rfl) rfl, gt_p 86 rfl rfl, gt_1 (List.mem_of_getElem? (i := 17) rfl) rfl, gt_8 (List.mem_of_getElem? (i := 52) rfl) rfl, ⟨by decide +kernel, by decide +kernel, by decide +kernel⟩, ⟨_, _, rfl⟩, by decide⟩
theorem lk_X12_469 : Cond.methodLink RX12 469 yX12_areAllHome ∈ GT := gt_8 (List.mem_of_getElem? (i := 53) rfl) rfl
theorem mkX12_areAllHome : MkV yX12_areAllHome cX12_areAllHome 1 (some .boolean) 0 12 := ⟨gt_8 (List.mem_of_getElem? (i := 55) rfl) rfl, gt_p 87 rfl rfl, gt_1 (List.mem_of_getElem? (i := 17) rfl) rfl, gt_8 (List.mem_of_getElem? (i := 56) rfl) rfl, ⟨by decide +kernel, by decide +kernel, by decide +kernel⟩, ⟨_, _, rfl⟩, by decide⟩
theorem lk_X12_390 : Cond.methodLink RX12 390 yX12_homes ∈ GT := gt_8 (List.mem_of_getElem? (i := 57) rfl) rfl
theorem mkX12_homes : MkV yX12_homes cX12_homes 3 (some .int) 0 12 := ⟨gt_8 (List.mem_of_getElem? (i := 59) rfl) rfl, gt_p 88 rfl rfl, gt_1 (List.mem_of_getElem? (i := 17) rfl) rfl, gt_8 (List.mem_of_getElem? (i := 60) rfl) rfl, ⟨by decide +kernel, by decide +kernel, by decide +kernel⟩, ⟨_, _, rfl⟩, by decide⟩
theorem lk_X12_472 : Cond.methodLink RX12 472 yX12_bits ∈ GT := gt_8 (List.mem_of_getElem? (i := 61) rfl) rfl
theorem mkX12_bits : MkS yX12_bits cX12_bits 3 (some .int) 1 := ⟨gt_8 (List.mem_of_getElem? (i := 62) rfl) rfl, gt_1 (List.mem_of_getElem? (i := 17) rfl) rfl, gt_8 (List.mem_of_getElem? (i := 63) rfl) rfl, ⟨by decide +kernel, by decide +kernel, by decide +kernel⟩, by decide⟩
theorem lk_L_89 : Cond.methodLink RL 89 yX12_home ∈ GT := gt_8 (List.mem_of_getElem? (i := 64) rfl) rfl
theorem mkX12_home : MkV yX12_home cX12_home 2 (some .int) 1 12 := ⟨gt_8 (List.mem_of_getElem? (i := 65) rfl) rfl, gt_8 (List.mem_of_getElem? (i := 66) rfl) rfl, gt_1 (List.mem_of_getElem? (i := 17) rfl) rfl, gt_8 (List.mem_of_getElem? (i := 67) rfl) rfl, ⟨by decide +kernel, by decide +kernel, by decide +kernel⟩, ⟨_, _, rfl⟩, by decide⟩
theorem lk_L_93 : Cond.methodLink RL 93 yX12_glow ∈ GT := gt_8 (List.mem_of_getElem? (i := 68) rfl) rfl
theorem mkX12_glow : MkV yX12_glow cX12_glow 3 (some .int) 0 12 := ⟨gt_8 (List.mem_of_getElem? (i := 69) rfl) rfl, gt_8 (List.mem_of_getElem? (i := 70) rfl) rfl, gt_1 (List.mem_of_getElem? (i := 17) rfl) rfl, gt_8 (List.mem_of_getElem? (i := 71) rfl) rfl, ⟨by decide +kernel, by decide +kernel, by decide +kernel⟩, ⟨_, _, rfl⟩, by decide⟩
theorem lk_L_97 : Cond.methodLink RL 97 yX12_burns ∈ GT := gt_8 (List.mem_of_getElem? (i := 72) rfl) rfl
theorem mkX12_burns : MkV yX12_burns cX12_burns 4 (some .int) 2 12 := ⟨gt_8 (List.mem_of_getElem? (i := 73) rfl) rfl, gt_8 (List.mem_of_getElem? (i := 74) rfl) rfl, gt_1 (List.mem_of_getElem? (i := 17) rfl) rfl, gt_8 (List.mem_of_getElem? (i := 75) rfl) rfl, ⟨by decide +kernel, by decide +kernel, by decide +kernel⟩, ⟨_, _, rfl⟩, by decide⟩
theorem lk_L_101 : Cond.methodLink RL 101 yX12_delay ∈ GT := gt_8 (List.mem_of_getElem? (i := 76) rfl) rfl
theorem mkX12_delay : MkV yX12_delay cX12_delay 2 (some .int) 1 12 := ⟨gt_8 (List.mem_of_getElem? (i := 77) rfl) rfl, gt_8 (List.mem_of_getElem? (i := 78) rfl) rfl, gt_1 (List.mem_of_getElem? (i := 17) rfl) rfl, gt_8 (List.mem_of_getElem? (i := 79) rfl) rfl, ⟨by decide +kernel, by decide +kernel, by decide +kernel⟩, ⟨_, _, rfl⟩, by decide⟩
theorem lk_X12_487 : Cond.methodLink RX12 487 yX12_delays ∈ GT := gt_8 (List.mem_of_getElem? (i := 80) rfl) rfl
theorem mkX12_delays : MkV yX12_delays cX12_delays 5 none 2 12 := ⟨gt_8 (List.mem_of_getElem? (i := 82) rfl) rfl, gt_p 89 rfl rfl, gt_1 (List.mem_of_getElem? (i := 17) rfl) rfl, gt_8 (List.mem_of_getElem? (i := 83) rfl) rfl, ⟨by decide +kernel, by decide +kernel, by decide +kernel⟩, ⟨_, _, rfl⟩, by decide⟩
theorem lk_L_105 : Cond.methodLink RL 105 yX12_boys ∈ GT := gt_8 (List.mem_of_getElem? (i := 84) rfl) rfl
theorem mkX12_boys : MkV yX12_boys cX12_boys 3 (some .int) 0 12 := ⟨gt_8 (List.mem_of_getElem? (i := 85) rfl) rfl, gt_8 (List.mem_of_getElem? (i := 86) rfl) rfl, gt_1 (List.mem_of_getElem? (i := 17) rfl) rfl, gt_8 (List.mem_of_getElem? (i := 87) rfl) rfl, ⟨by decide +kernel, by decide +kernel, by decide +kernel⟩, ⟨_, _, rfl⟩, by decide⟩
theorem lk_X12_490 : Cond.methodLink RX12 490 yX12_isLightBy ∈ GT := gt_8 (List.mem_of_getElem? (i := 88) rfl) rfl
theorem mkX12_isLightBy : MkV yX12_isLightBy cX12_isLightBy 3 (some .boolean) 1 12 := ⟨gt_8 (List.mem_of_getElem? (i := 90) rfl) rfl, gt_p 90 rfl rfl, gt_1 (List.mem_of_getElem? (i := 17) rfl) rfl, gt_8 (List.mem_of_getElem? (i := 91) rfl) rfl, ⟨by decide +kernel, by decide +kernel, by decide +kernel⟩, ⟨_, _, rfl⟩, by decide⟩
theorem lk_L_109 : Cond.methodLink RL 109 yX12_alarm ∈ GT := gt_8 (List.mem_of_getElem? (i := 92) rfl) rfl
theorem mkX12_alarm : MkV yX12_alarm cX12_alarm 3 (some .int) 0 12 := ⟨gt_8 (List.mem_of_getElem? (i := 93) rfl) rfl, gt_8 (List.mem_of_getElem? (i := 94) rfl) rfl, gt_1 (List.mem_of_getElem? (i := 17) rfl) rfl, gt_8 (List.mem_of_getElem? (i := 95) rfl) rfl, ⟨by decide +kernel, by decide +kernel, by decide +kernel⟩, ⟨_, _, rfl⟩, by decide⟩
theorem lk_L_113 : Cond.methodLink RL 113 yX12_blind ∈ GT := gt_8 (List.mem_of_getElem? (i := 96) rfl) rfl
theorem mkX12_blind : MkV yX12_blind cX12_blind 1 (some .int) 0 12 := ⟨gt_8 (List.mem_of_getElem? (i := 97) rfl) rfl, gt_8 (List.mem_of_getElem? (i := 98) rfl) rfl, gt_1 (List.mem_of_getElem? (i := 17) rfl) rfl, gt_8 (List.mem_of_getElem? (i := 99) rfl) rfl, ⟨by decide +kernel, by decide +kernel, by decide +kernel⟩, ⟨_, _, rfl⟩, by decide⟩
theorem lk_L_117 : Cond.methodLink RL 117 yX12_meet ∈ GT := gt_8 (List.mem_of_getElem? (i := 100) rfl) rfl
theorem mkX12_meet : MkV yX12_meet cX12_meet 5 (some .int) 2 12 := ⟨gt_8 (List.mem_of_getElem? (i := 101) rfl) rfl, gt_8 (List.mem_of_getElem? (i := 102) rfl) rfl, gt_1 (List.mem_of_getElem? (i := 17) rfl) rfl, gt_8 (List.mem_of_getElem? (i := 103) rfl) rfl, ⟨by decide +kernel, by decide +kernel, by decide +kernel⟩, ⟨_, _, rfl⟩, by decide⟩
theorem lk_L_121 : Cond.methodLink RL 121 yX12_thief ∈ GT := gt_8 (List.mem_of_getElem? (i := 104) rfl) rfl
theorem mkX12_thief : MkV yX12_thief cX12_thief 4 (some .int) 0 12 := ⟨gt_8 (List.mem_of_getElem? (i := 105) rfl) rfl, gt_8 (List.mem_of_getElem? (i := 106) rfl) rfl, gt_1 (List.mem_of_getElem? (i := 17) rfl) rfl, gt_8 (List.mem_of_getElem? (i := 107) rfl) rfl, ⟨by decide +kernel, by decide +kernel, by decide +kernel⟩, ⟨_, _, rfl⟩, by decide⟩
theorem lk_L_126 : Cond.methodLink RL 126 yX12_watch ∈ GT := gt_8 (List.mem_of_getElem? (i := 108) rfl) rfl
theorem mkX12_watch : MkV yX12_watch cX12_watch 4 (some .boolean) 3 12 := ⟨gt_8 (List.mem_of_getElem? (i := 109) rfl) rfl, gt_8 (List.mem_of_getElem? (i := 110) rfl) rfl, gt_1 (List.mem_of_getElem? (i := 17) rfl) rfl, gt_8 (List.mem_of_getElem? (i := 111) rfl) rfl, ⟨by decide +kernel, by decide +kernel, by decide +kernel⟩, ⟨_, _, rfl⟩, by decide⟩
theorem lk_L_130 : Cond.methodLink RL 130 yX12_sets ∈ GT := gt_8 (List.mem_of_getElem? (i := 112) rfl) rfl
theorem mkX12_sets : MkV yX12_sets cX12_sets 7 (some .int) 1 12 := ⟨gt_8 (List.mem_of_getElem? (i := 113) rfl) rfl, gt_8 (List.mem_of_getElem? (i := 114) rfl) rfl, gt_1 (List.mem_of_getElem? (i := 17) rfl) rfl, gt_8 (List.mem_of_getElem? (i := 115) rfl) rfl, ⟨by decide +kernel, by decide +kernel, by decide +kernel⟩, ⟨_, _, rfl⟩, by decide⟩
theorem lk_X12_493 : Cond.methodLink RX12 493 yX12_laysLit ∈ GT := gt_8 (List.mem_of_getElem? (i := 116) rfl) rfl
theorem mkX12_laysLit : MkV yX12_laysLit cX12_laysLit 4 none 0 12 := ⟨gt_8 (List.mem_of_getElem? (i := 118) rfl) rfl, gt_p 91 rfl rfl, gt_1 (List.mem_of_getElem? (i := 17) rfl) rfl, gt_8 (List.mem_of_getElem? (i := 119) rfl) rfl, ⟨by decide +kernel, by decide +kernel, by decide +kernel⟩, ⟨_, _, rfl⟩, by decide⟩
theorem lk_X12_496 : Cond.methodLink RX12 496 yX12_isAsWatched ∈ GT := gt_8 (List.mem_of_getElem? (i := 120) rfl) rfl
theorem mkX12_isAsWatched : MkV yX12_isAsWatched cX12_isAsWatched 3 (some .boolean) 1 12 := ⟨gt_8 (List.mem_of_getElem? (i := 122) rfl) rfl, gt_p 92 rfl rfl, gt_1 (List.mem_of_getElem? (i := 17) rfl) rfl, gt_8 (List.mem_of_getElem? (i := 123) rfl) rfl, ⟨by decide +kernel, by decide +kernel, by decide +kernel⟩, ⟨_, _, rfl⟩, by decide⟩
theorem lk_L_134 : Cond.methodLink RL 134 yX12_look ∈ GT := gt_8 (List.mem_of_getElem? (i := 124) rfl) rfl
theorem mkX12_look : MkV yX12_look cX12_look 9 (some .int) 1 12 := ⟨gt_8 (List.mem_of_getElem? (i := 125) rfl) rfl, gt_8 (List.mem_of_getElem? (i := 126) rfl) rfl, gt_1 (List.mem_of_getElem? (i := 17) rfl) rfl, gt_8 (List.mem_of_getElem? (i := 127) rfl) rfl, ⟨by decide +kernel, by decide +kernel, by decide +kernel⟩, ⟨_, _, rfl⟩, by decide⟩
theorem lk_X12_499 : Cond.methodLink RX12 499 yX12_sets ∈ GT := gt_8 (List.mem_of_getElem? (i := 128) rfl) rfl
theorem lk_L_138 : Cond.methodLink RL 138 yX12_oil ∈ GT := gt_8 (List.mem_of_getElem? (i := 129) rfl) rfl
theorem mkX12_oil : MkV yX12_oil cX12_oil 1 (some .int) 0 12 := ⟨gt_8 (List.mem_of_getElem? (i := 130) rfl) rfl, gt_8 (List.mem_of_getElem? (i := 131) rfl) rfl, gt_1 (List.mem_of_getElem? (i := 17) rfl) rfl, gt_8 (List.mem_of_getElem? (i := 132) rfl) rfl, ⟨by decide +kernel, by decide +kernel, by decide +kernel⟩, ⟨_, _, rfl⟩, by decide⟩
theorem lk_L_144 : Cond.methodLink RL 144 yX12_share ∈ GT := gt_8 (List.mem_of_getElem? (i := 133) rfl) rfl
theorem mkX12_share : MkV yX12_share cX12_share 3 (some .int) 1 12 := ⟨gt_8 (List.mem_of_getElem? (i := 134) rfl) rfl, gt_8 (List.mem_of_getElem? (i := 135) rfl) rfl, gt_1 (List.mem_of_getElem? (i := 17) rfl) rfl, gt_8 (List.mem_of_getElem? (i := 136) rfl) rfl, ⟨by decide +kernel, by decide +kernel, by decide +kernel⟩, ⟨_, _, rfl⟩, by decide⟩
theorem lk_L_151 : Cond.methodLink RL 151 yX12_longer ∈ GT := gt_8 (List.mem_of_getElem? (i := 137) rfl) rfl
theorem mkX12_longer : MkV yX12_longer cX12_longer 2 (some .int) 1 12 := ⟨gt_8 (List.mem_of_getElem? (i := 138) rfl) rfl, gt_8 (List.mem_of_getElem? (i := 139) rfl) rfl, gt_1 (List.mem_of_getElem? (i := 17) rfl) rfl, gt_8 (List.mem_of_getElem? (i := 140) rfl) rfl, ⟨by decide +kernel, by decide +kernel, by decide +kernel⟩, ⟨_, _, rfl⟩, by decide⟩
theorem lk_L_155 : Cond.methodLink RL 155 yX12_rests ∈ GT := gt_8 (List.mem_of_getElem? (i := 141) rfl) rfl
theorem mkX12_rests : MkV yX12_rests cX12_rests 9 (some .int) 4 12 := ⟨gt_8 (List.mem_of_getElem? (i := 142) rfl) rfl, gt_8 (List.mem_of_getElem? (i := 143) rfl) rfl, gt_1 (List.mem_of_getElem? (i := 17) rfl) rfl, gt_8 (List.mem_of_getElem? (i := 144) rfl) rfl, ⟨by decide +kernel, by decide +kernel, by decide +kernel⟩, ⟨_, _, rfl⟩, by decide⟩
theorem lk_X12_502 : Cond.methodLink RX12 502 yX12_getsBy ∈ GT := gt_8 (List.mem_of_getElem? (i := 145) rfl) rfl
theorem mkX12_getsBy : MkS yX12_getsBy cX12_getsBy 5 (some .int) 5 := ⟨gt_8 (List.mem_of_getElem? (i := 146) rfl) rfl, gt_1 (List.mem_of_getElem? (i := 17) rfl) rfl, gt_8 (List.mem_of_getElem? (i := 147) rfl) rfl, ⟨by decide +kernel, by decide +kernel, by decide +kernel⟩, by decide⟩
theorem lk_L_160 : Cond.methodLink RL 160 yX12_nights ∈ GT := gt_8 (List.mem_of_getElem? (i := 148) rfl) rfl
theorem mkX12_nights : MkV yX12_nights cX12_nights 9 (some .int) 3 12 := ⟨gt_8 (List.mem_of_getElem? (i := 149) rfl) rfl, gt_8 (List.mem_of_getElem? (i := 150) rfl) rfl, gt_1 (List.mem_of_getElem? (i := 17) rfl) rfl, gt_8 (List.mem_of_getElem? (i := 151) rfl) rfl, ⟨by decide +kernel, by decide +kernel, by decide +kernel⟩, ⟨_, _, rfl⟩, by decide⟩
theorem lk_X12_517 : Cond.methodLink RX12 517 yX12_draws ∈ GT := gt_8 (List.mem_of_getElem? (i := 152) rfl) rfl
theorem mkX12_draws : MkV yX12_draws cX12_draws 2 (some .int) 1 12 := ⟨gt_8 (List.mem_of_getElem? (i := 154) rfl) rfl, gt_p 93 rfl rfl, gt_1 (List.mem_of_getElem? (i := 17) rfl) rfl, gt_8 (List.mem_of_getElem? (i := 155) rfl) rfl, ⟨by decide +kernel, by decide +kernel, by decide +kernel⟩, ⟨_, _, rfl⟩, by decide⟩
theorem cn_X12_509 : Cond.constantLong RX12 509 (1103515245) ∈ GT := gt_8 (List.mem_of_getElem? (i := 156) rfl) rfl
theorem cn_X12_511 : Cond.constantLong RX12 511 (12345) ∈ GT := gt_8 (List.mem_of_getElem? (i := 157) rfl) rfl
theorem cn_X12_513 : Cond.constantLong RX12 513 (2147483648) ∈ GT := gt_8 (List.mem_of_getElem? (i := 158) rfl) rfl
theorem cn_X12_515 : Cond.constantLong RX12 515 (65536) ∈ GT := gt_8 (List.mem_of_getElem? (i := 159) rfl) rfl
theorem lk_L_165 : Cond.methodLink RL 165 yX12_mark ∈ GT := gt_8 (List.mem_of_getElem? (i := 160) rfl) rfl
theorem mkX12_mark : MkV yX12_mark cX12_mark 5 (some .boolean) 2 12 := ⟨gt_8 (List.mem_of_getElem? (i := 161) rfl) rfl, gt_8 (List.mem_of_getElem? (i := 162) rfl) rfl, gt_1 (List.mem_of_getElem? (i := 17) rfl) rfl, gt_8 (List.mem_of_getElem? (i := 163) rfl) rfl, ⟨by decide +kernel, by decide +kernel, by decide +kernel⟩, ⟨_, _, rfl⟩, by decide⟩
theorem lk_X12_520 : Cond.methodLink RX12 520 yX12_laysWatched ∈ GT := gt_8 (List.mem_of_getElem? (i := 164) rfl) rfl
theorem mkX12_laysWatched : MkV yX12_laysWatched cX12_laysWatched 4 none 2 12 := ⟨gt_8 (List.mem_of_getElem? (i := 166) rfl) rfl, gt_p 94 rfl rfl, gt_1 (List.mem_of_getElem? (i := 17) rfl) rfl, gt_8 (List.mem_of_getElem? (i := 167) rfl) rfl, ⟨by decide +kernel, by decide +kernel, by decide +kernel⟩, ⟨_, _, rfl⟩, by decide⟩
theorem lk_L_169 : Cond.methodLink RL 169 yX12_count ∈ GT := gt_8 (List.mem_of_getElem? (i := 168) rfl) rfl
theorem mkX12_count : MkV yX12_count cX12_count 2 (some .int) 1 12 := ⟨gt_8 (List.mem_of_getElem? (i := 169) rfl) rfl, gt_8 (List.mem_of_getElem? (i := 170) rfl) rfl, gt_1 (List.mem_of_getElem? (i := 17) rfl) rfl, gt_8 (List.mem_of_getElem? (i := 171) rfl) rfl, ⟨by decide +kernel, by decide +kernel, by decide +kernel⟩, ⟨_, _, rfl⟩, by decide⟩
theorem cn_L_23 : Cond.constantLong RL 23 (4294967295) ∈ GT := gt_8 (List.mem_of_getElem? (i := 172) rfl) rfl
end
