section
-- ===== PART A: goes FIRST, ahead of the names: the tables' words, and 'selects' of the private methods out of them =====
/-- a private method of a class that the tables say can be made, by its rows of tables_1 -/
def lw_okq (q : MethodName × Nat) : Prop := (q.1.cls ≠ "java/lang/invoke/MethodHandle" ∧ q.1.cls ≠ "java/lang/invoke/VarHandle") ∧ Cond.instantiable q.1.cls q.2 ∈ tables_1 ∧ Cond.privateMethod q.1 ∈ tables_1 ∧ Cond.instanceMethod q.1 ∈ tables_1
theorem lw_p0 : lw_okq (⟨"TakeOver", "isAhead", "(I)Z"⟩, 10) := ⟨⟨by decide +kernel, by decide +kernel⟩, List.mem_of_getElem? (i := 23) (by decide +kernel), List.mem_of_getElem? (i := 547) (by decide +kernel), List.mem_of_getElem? (i := 548) (by decide +kernel)⟩
theorem lw_p1 : lw_okq (⟨"TakeOver", "isWalk", "(III)Z"⟩, 10) := ⟨⟨by decide +kernel, by decide +kernel⟩, List.mem_of_getElem? (i := 23) (by decide +kernel), List.mem_of_getElem? (i := 567) (by decide +kernel), List.mem_of_getElem? (i := 568) (by decide +kernel)⟩
theorem lw_p2 : lw_okq (⟨"TakeOver$Reader", "takeFour", "(I)V"⟩, 15) := ⟨⟨by decide +kernel, by decide +kernel⟩, List.mem_of_getElem? (i := 347) (by decide +kernel), List.mem_of_getElem? (i := 604) (by decide +kernel), List.mem_of_getElem? (i := 605) (by decide +kernel)⟩
theorem lw_p3 : lw_okq (⟨"TakeOver$Reader", "nextToken", "()V"⟩, 15) := ⟨⟨by decide +kernel, by decide +kernel⟩, List.mem_of_getElem? (i := 347) (by decide +kernel), List.mem_of_getElem? (i := 625) (by decide +kernel), List.mem_of_getElem? (i := 626) (by decide +kernel)⟩
theorem lw_p4 : lw_okq (⟨"TakeOver$Reader", "keyword", "()I"⟩, 15) := ⟨⟨by decide +kernel, by decide +kernel⟩, List.mem_of_getElem? (i := 347) (by decide +kernel), List.mem_of_getElem? (i := 632) (by decide +kernel), List.mem_of_getElem? (i := 633) (by decide +kernel)⟩
theorem lw_p5 : lw_okq (⟨"TakeOver$Reader", "isSpelt", "(Ljava/lang/String;)Z"⟩, 15) := ⟨⟨by decide +kernel, by decide +kernel⟩, List.mem_of_getElem? (i := 347) (by decide +kernel), List.mem_of_getElem? (i := 653) (by decide +kernel), List.mem_of_getElem? (i := 654) (by decide +kernel)⟩
theorem lw_p6 : lw_okq (⟨"TakeOver$Reader", "step", "()V"⟩, 15) := ⟨⟨by decide +kernel, by decide +kernel⟩, List.mem_of_getElem? (i := 347) (by decide +kernel), List.mem_of_getElem? (i := 711) (by decide +kernel), List.mem_of_getElem? (i := 712) (by decide +kernel)⟩
theorem lw_p7 : lw_okq (⟨"TakeOver$Reader", "stepLine", "()V"⟩, 15) := ⟨⟨by decide +kernel, by decide +kernel⟩, List.mem_of_getElem? (i := 347) (by decide +kernel), List.mem_of_getElem? (i := 715) (by decide +kernel), List.mem_of_getElem? (i := 716) (by decide +kernel)⟩
theorem lw_p8 : lw_okq (⟨"TakeOver$Reader", "fail", "(I)V"⟩, 15) := ⟨⟨by decide +kernel, by decide +kernel⟩, List.mem_of_getElem? (i := 347) (by decide +kernel), List.mem_of_getElem? (i := 719) (by decide +kernel), List.mem_of_getElem? (i := 720) (by decide +kernel)⟩
theorem lw_p9 : lw_okq (⟨"TakeOver$Reader", "stepHead", "()V"⟩, 15) := ⟨⟨by decide +kernel, by decide +kernel⟩, List.mem_of_getElem? (i := 347) (by decide +kernel), List.mem_of_getElem? (i := 727) (by decide +kernel), List.mem_of_getElem? (i := 728) (by decide +kernel)⟩
theorem lw_p10 : lw_okq (⟨"TakeOver$Reader", "stepCondition", "()V"⟩, 15) := ⟨⟨by decide +kernel, by decide +kernel⟩, List.mem_of_getElem? (i := 347) (by decide +kernel), List.mem_of_getElem? (i := 735) (by decide +kernel), List.mem_of_getElem? (i := 736) (by decide +kernel)⟩
theorem lw_p11 : lw_okq (⟨"TakeOver$Reader", "stepUnit", "()V"⟩, 15) := ⟨⟨by decide +kernel, by decide +kernel⟩, List.mem_of_getElem? (i := 347) (by decide +kernel), List.mem_of_getElem? (i := 739) (by decide +kernel), List.mem_of_getElem? (i := 740) (by decide +kernel)⟩
theorem lw_p12 : lw_okq (⟨"TakeOver$Reader", "hold", "(I)V"⟩, 15) := ⟨⟨by decide +kernel, by decide +kernel⟩, List.mem_of_getElem? (i := 347) (by decide +kernel), List.mem_of_getElem? (i := 747) (by decide +kernel), List.mem_of_getElem? (i := 748) (by decide +kernel)⟩
theorem lw_p13 : lw_okq (⟨"TakeOver$Reader", "stepDivisor", "()V"⟩, 15) := ⟨⟨by decide +kernel, by decide +kernel⟩, List.mem_of_getElem? (i := 347) (by decide +kernel), List.mem_of_getElem? (i := 751) (by decide +kernel), List.mem_of_getElem? (i := 752) (by decide +kernel)⟩
theorem lw_p14 : lw_okq (⟨"TakeOver$Reader", "stepLeft", "()V"⟩, 15) := ⟨⟨by decide +kernel, by decide +kernel⟩, List.mem_of_getElem? (i := 347) (by decide +kernel), List.mem_of_getElem? (i := 755) (by decide +kernel), List.mem_of_getElem? (i := 756) (by decide +kernel)⟩
theorem lw_p15 : lw_okq (⟨"TakeOver$Reader", "join", "()V"⟩, 15) := ⟨⟨by decide +kernel, by decide +kernel⟩, List.mem_of_getElem? (i := 347) (by decide +kernel), List.mem_of_getElem? (i := 759) (by decide +kernel), List.mem_of_getElem? (i := 760) (by decide +kernel)⟩
def lw_privs_1 : List (MethodName × Nat) := [(⟨"TakeOver", "isAhead", "(I)Z"⟩, 10), (⟨"TakeOver", "isWalk", "(III)Z"⟩, 10), (⟨"TakeOver$Reader", "takeFour", "(I)V"⟩, 15), (⟨"TakeOver$Reader", "nextToken", "()V"⟩, 15), (⟨"TakeOver$Reader", "keyword", "()I"⟩, 15), (⟨"TakeOver$Reader", "isSpelt", "(Ljava/lang/String;)Z"⟩, 15), (⟨"TakeOver$Reader", "step", "()V"⟩, 15), (⟨"TakeOver$Reader", "stepLine", "()V"⟩, 15), (⟨"TakeOver$Reader", "fail", "(I)V"⟩, 15), (⟨"TakeOver$Reader", "stepHead", "()V"⟩, 15), (⟨"TakeOver$Reader", "stepCondition", "()V"⟩, 15), (⟨"TakeOver$Reader", "stepUnit", "()V"⟩, 15), (⟨"TakeOver$Reader", "hold", "(I)V"⟩, 15), (⟨"TakeOver$Reader", "stepDivisor", "()V"⟩, 15), (⟨"TakeOver$Reader", "stepLeft", "()V"⟩, 15), (⟨"TakeOver$Reader", "join", "()V"⟩, 15)]
theorem lw_r1 : ∀ q ∈ lw_privs_1, lw_okq q := List.forall_mem_cons.mpr ⟨lw_p0, List.forall_mem_cons.mpr ⟨lw_p1, List.forall_mem_cons.mpr ⟨lw_p2, List.forall_mem_cons.mpr ⟨lw_p3, List.forall_mem_cons.mpr ⟨lw_p4, List.forall_mem_cons.mpr ⟨lw_p5, List.forall_mem_cons.mpr ⟨lw_p6, List.forall_mem_cons.mpr ⟨lw_p7, List.forall_mem_cons.mpr ⟨lw_p8, List.forall_mem_cons.mpr ⟨lw_p9, List.forall_mem_cons.mpr ⟨lw_p10, List.forall_mem_cons.mpr ⟨lw_p11, List.forall_mem_cons.mpr ⟨lw_p12, List.forall_mem_cons.mpr ⟨lw_p13, List.forall_mem_cons.mpr ⟨lw_p14, List.forall_mem_cons.mpr ⟨lw_p15, fun _ h => absurd h List.not_mem_nil⟩⟩⟩⟩⟩⟩⟩⟩⟩⟩⟩⟩⟩⟩⟩⟩
theorem lw_p16 : lw_okq (⟨"TakeOver$Reader", "release", "(I)V"⟩, 15) := ⟨⟨by decide +kernel, by decide +kernel⟩, List.mem_of_getElem? (i := 347) (by decide +kernel), List.mem_of_getElem? (i := 766) (by decide +kernel), List.mem_of_getElem? (i := 767) (by decide +kernel)⟩
theorem lw_p17 : lw_okq (⟨"TakeOver$Reader", "stepReckoning", "()V"⟩, 15) := ⟨⟨by decide +kernel, by decide +kernel⟩, List.mem_of_getElem? (i := 347) (by decide +kernel), List.mem_of_getElem? (i := 770) (by decide +kernel), List.mem_of_getElem? (i := 771) (by decide +kernel)⟩
theorem lw_p18 : lw_okq (⟨"TakeOver$Reader", "stepRight", "()V"⟩, 15) := ⟨⟨by decide +kernel, by decide +kernel⟩, List.mem_of_getElem? (i := 347) (by decide +kernel), List.mem_of_getElem? (i := 774) (by decide +kernel), List.mem_of_getElem? (i := 775) (by decide +kernel)⟩
theorem lw_p19 : lw_okq (⟨"TakeOver$Reader", "stepClosed", "()V"⟩, 15) := ⟨⟨by decide +kernel, by decide +kernel⟩, List.mem_of_getElem? (i := 347) (by decide +kernel), List.mem_of_getElem? (i := 778) (by decide +kernel), List.mem_of_getElem? (i := 779) (by decide +kernel)⟩
theorem lw_p20 : lw_okq (⟨"TakeOver$Plan", "planCrosser", "(LTakeOver$Crossers;II)V"⟩, 5) := ⟨⟨by decide +kernel, by decide +kernel⟩, List.mem_of_getElem? (i := 410) (by decide +kernel), List.mem_of_getElem? (i := 803) (by decide +kernel), List.mem_of_getElem? (i := 804) (by decide +kernel)⟩
theorem lw_p21 : lw_okq (⟨"TakeOver$Course", "pass", "(I)V"⟩, 16) := ⟨⟨by decide +kernel, by decide +kernel⟩, List.mem_of_getElem? (i := 404) (by decide +kernel), List.mem_of_getElem? (i := 821) (by decide +kernel), List.mem_of_getElem? (i := 822) (by decide +kernel)⟩
theorem lw_p22 : lw_okq (⟨"TakeOver$Course", "bring", "(II)V"⟩, 16) := ⟨⟨by decide +kernel, by decide +kernel⟩, List.mem_of_getElem? (i := 404) (by decide +kernel), List.mem_of_getElem? (i := 825) (by decide +kernel), List.mem_of_getElem? (i := 826) (by decide +kernel)⟩
theorem lw_p23 : lw_okq (⟨"TakeOver$Course", "arrive", "(III)V"⟩, 16) := ⟨⟨by decide +kernel, by decide +kernel⟩, List.mem_of_getElem? (i := 404) (by decide +kernel), List.mem_of_getElem? (i := 829) (by decide +kernel), List.mem_of_getElem? (i := 830) (by decide +kernel)⟩
theorem lw_p24 : lw_okq (⟨"TakeOver$Course", "fetchOff", "(I)V"⟩, 16) := ⟨⟨by decide +kernel, by decide +kernel⟩, List.mem_of_getElem? (i := 404) (by decide +kernel), List.mem_of_getElem? (i := 837) (by decide +kernel), List.mem_of_getElem? (i := 838) (by decide +kernel)⟩
theorem lw_p25 : lw_okq (⟨"TakeOver$Course", "isToGo", "(II)Z"⟩, 16) := ⟨⟨by decide +kernel, by decide +kernel⟩, List.mem_of_getElem? (i := 404) (by decide +kernel), List.mem_of_getElem? (i := 850) (by decide +kernel), List.mem_of_getElem? (i := 851) (by decide +kernel)⟩
theorem lw_p26 : lw_okq (⟨"TakeOver$Course", "cross", "(III)V"⟩, 16) := ⟨⟨by decide +kernel, by decide +kernel⟩, List.mem_of_getElem? (i := 404) (by decide +kernel), List.mem_of_getElem? (i := 854) (by decide +kernel), List.mem_of_getElem? (i := 855) (by decide +kernel)⟩
theorem lw_p27 : lw_okq (⟨"TakeOver$Law", "holds", "(I[I)Z"⟩, 6) := ⟨⟨by decide +kernel, by decide +kernel⟩, List.mem_of_getElem? (i := 187) (by decide +kernel), List.mem_of_getElem? (i := 866) (by decide +kernel), List.mem_of_getElem? (i := 867) (by decide +kernel)⟩
theorem lw_p28 : lw_okq (⟨"TakeOver$Course", "carry", "(IIII)V"⟩, 16) := ⟨⟨by decide +kernel, by decide +kernel⟩, List.mem_of_getElem? (i := 404) (by decide +kernel), List.mem_of_getElem? (i := 871) (by decide +kernel), List.mem_of_getElem? (i := 872) (by decide +kernel)⟩
theorem lw_p29 : lw_okq (⟨"TakeOver$Course", "isBehind", "(II)Z"⟩, 16) := ⟨⟨by decide +kernel, by decide +kernel⟩, List.mem_of_getElem? (i := 404) (by decide +kernel), List.mem_of_getElem? (i := 879) (by decide +kernel), List.mem_of_getElem? (i := 880) (by decide +kernel)⟩
theorem lw_p30 : lw_okq (⟨"TakeOver", "think", "()V"⟩, 10) := ⟨⟨by decide +kernel, by decide +kernel⟩, List.mem_of_getElem? (i := 23) (by decide +kernel), List.mem_of_getElem? (i := 908) (by decide +kernel), List.mem_of_getElem? (i := 909) (by decide +kernel)⟩
theorem lw_p31 : lw_okq (⟨"TakeOver", "isSpan", "(II)Z"⟩, 10) := ⟨⟨by decide +kernel, by decide +kernel⟩, List.mem_of_getElem? (i := 23) (by decide +kernel), List.mem_of_getElem? (i := 937) (by decide +kernel), List.mem_of_getElem? (i := 938) (by decide +kernel)⟩
def lw_privs_2 : List (MethodName × Nat) := [(⟨"TakeOver$Reader", "release", "(I)V"⟩, 15), (⟨"TakeOver$Reader", "stepReckoning", "()V"⟩, 15), (⟨"TakeOver$Reader", "stepRight", "()V"⟩, 15), (⟨"TakeOver$Reader", "stepClosed", "()V"⟩, 15), (⟨"TakeOver$Plan", "planCrosser", "(LTakeOver$Crossers;II)V"⟩, 5), (⟨"TakeOver$Course", "pass", "(I)V"⟩, 16), (⟨"TakeOver$Course", "bring", "(II)V"⟩, 16), (⟨"TakeOver$Course", "arrive", "(III)V"⟩, 16), (⟨"TakeOver$Course", "fetchOff", "(I)V"⟩, 16), (⟨"TakeOver$Course", "isToGo", "(II)Z"⟩, 16), (⟨"TakeOver$Course", "cross", "(III)V"⟩, 16), (⟨"TakeOver$Law", "holds", "(I[I)Z"⟩, 6), (⟨"TakeOver$Course", "carry", "(IIII)V"⟩, 16), (⟨"TakeOver$Course", "isBehind", "(II)Z"⟩, 16), (⟨"TakeOver", "think", "()V"⟩, 10), (⟨"TakeOver", "isSpan", "(II)Z"⟩, 10)]
theorem lw_r2 : ∀ q ∈ lw_privs_2, lw_okq q := List.forall_mem_cons.mpr ⟨lw_p16, List.forall_mem_cons.mpr ⟨lw_p17, List.forall_mem_cons.mpr ⟨lw_p18, List.forall_mem_cons.mpr ⟨lw_p19, List.forall_mem_cons.mpr ⟨lw_p20, List.forall_mem_cons.mpr ⟨lw_p21, List.forall_mem_cons.mpr ⟨lw_p22, List.forall_mem_cons.mpr ⟨lw_p23, List.forall_mem_cons.mpr ⟨lw_p24, List.forall_mem_cons.mpr ⟨lw_p25, List.forall_mem_cons.mpr ⟨lw_p26, List.forall_mem_cons.mpr ⟨lw_p27, List.forall_mem_cons.mpr ⟨lw_p28, List.forall_mem_cons.mpr ⟨lw_p29, List.forall_mem_cons.mpr ⟨lw_p30, List.forall_mem_cons.mpr ⟨lw_p31, fun _ h => absurd h List.not_mem_nil⟩⟩⟩⟩⟩⟩⟩⟩⟩⟩⟩⟩⟩⟩⟩⟩
theorem lw_p32 : lw_okq (⟨"TakeOver", "arrival", "(IIII)I"⟩, 10) := ⟨⟨by decide +kernel, by decide +kernel⟩, List.mem_of_getElem? (i := 23) (by decide +kernel), List.mem_of_getElem? (i := 946) (by decide +kernel), List.mem_of_getElem? (i := 947) (by decide +kernel)⟩
theorem lw_p33 : lw_okq (⟨"TakeOver", "isEnough", "(IIII)Z"⟩, 10) := ⟨⟨by decide +kernel, by decide +kernel⟩, List.mem_of_getElem? (i := 23) (by decide +kernel), List.mem_of_getElem? (i := 981) (by decide +kernel), List.mem_of_getElem? (i := 982) (by decide +kernel)⟩
theorem lw_p34 : lw_okq (⟨"TakeOver", "goesWithLists", "(I)Z"⟩, 10) := ⟨⟨by decide +kernel, by decide +kernel⟩, List.mem_of_getElem? (i := 23) (by decide +kernel), List.mem_of_getElem? (i := 1009) (by decide +kernel), List.mem_of_getElem? (i := 1010) (by decide +kernel)⟩
theorem lw_p35 : lw_okq (⟨"TakeOverModel", "isEnd", "(I)Z"⟩, 33) := ⟨⟨by decide +kernel, by decide +kernel⟩, List.mem_of_getElem? (i := 1070) (by decide +kernel), List.mem_of_getElem? (i := 1187) (by decide +kernel), List.mem_of_getElem? (i := 1188) (by decide +kernel)⟩
theorem lw_p36 : lw_okq (⟨"TakeOverModel", "isHour", "(I)Z"⟩, 33) := ⟨⟨by decide +kernel, by decide +kernel⟩, List.mem_of_getElem? (i := 1070) (by decide +kernel), List.mem_of_getElem? (i := 1191) (by decide +kernel), List.mem_of_getElem? (i := 1192) (by decide +kernel)⟩
theorem lw_p37 : lw_okq (⟨"TakeOverModel", "newLoad", "(III)V"⟩, 33) := ⟨⟨by decide +kernel, by decide +kernel⟩, List.mem_of_getElem? (i := 1070) (by decide +kernel), List.mem_of_getElem? (i := 1195) (by decide +kernel), List.mem_of_getElem? (i := 1196) (by decide +kernel)⟩
theorem lw_p38 : lw_okq (⟨"TakeOverModel", "loads", "(III)V"⟩, 33) := ⟨⟨by decide +kernel, by decide +kernel⟩, List.mem_of_getElem? (i := 1070) (by decide +kernel), List.mem_of_getElem? (i := 1199) (by decide +kernel), List.mem_of_getElem? (i := 1200) (by decide +kernel)⟩
theorem lw_p39 : lw_okq (⟨"TakeOverModel", "isLoad", "(I)Z"⟩, 33) := ⟨⟨by decide +kernel, by decide +kernel⟩, List.mem_of_getElem? (i := 1070) (by decide +kernel), List.mem_of_getElem? (i := 1207) (by decide +kernel), List.mem_of_getElem? (i := 1208) (by decide +kernel)⟩
theorem lw_p40 : lw_okq (⟨"TakeOverModel", "isCrossing", "(III)Z"⟩, 33) := ⟨⟨by decide +kernel, by decide +kernel⟩, List.mem_of_getElem? (i := 1070) (by decide +kernel), List.mem_of_getElem? (i := 1215) (by decide +kernel), List.mem_of_getElem? (i := 1216) (by decide +kernel)⟩
theorem lw_p41 : lw_okq (⟨"TakeOverModel", "gives", "(III)V"⟩, 33) := ⟨⟨by decide +kernel, by decide +kernel⟩, List.mem_of_getElem? (i := 1070) (by decide +kernel), List.mem_of_getElem? (i := 1219) (by decide +kernel), List.mem_of_getElem? (i := 1220) (by decide +kernel)⟩
theorem lw_p42 : lw_okq (⟨"TakeOverModel", "isOne", "(I)Z"⟩, 33) := ⟨⟨by decide +kernel, by decide +kernel⟩, List.mem_of_getElem? (i := 1070) (by decide +kernel), List.mem_of_getElem? (i := 1227) (by decide +kernel), List.mem_of_getElem? (i := 1228) (by decide +kernel)⟩
theorem lw_p43 : lw_okq (⟨"TakeOverModel", "ofOne", "(II)I"⟩, 33) := ⟨⟨by decide +kernel, by decide +kernel⟩, List.mem_of_getElem? (i := 1070) (by decide +kernel), List.mem_of_getElem? (i := 1231) (by decide +kernel), List.mem_of_getElem? (i := 1232) (by decide +kernel)⟩
theorem lw_p44 : lw_okq (⟨"TakeOverModel", "next0", "()V"⟩, 33) := ⟨⟨by decide +kernel, by decide +kernel⟩, List.mem_of_getElem? (i := 1070) (by decide +kernel), List.mem_of_getElem? (i := 1251) (by decide +kernel), List.mem_of_getElem? (i := 1252) (by decide +kernel)⟩
theorem lw_p45 : lw_okq (⟨"TakeOverModel", "see", "(I)I"⟩, 33) := ⟨⟨by decide +kernel, by decide +kernel⟩, List.mem_of_getElem? (i := 1070) (by decide +kernel), List.mem_of_getElem? (i := 1255) (by decide +kernel), List.mem_of_getElem? (i := 1256) (by decide +kernel)⟩
theorem lw_p46 : lw_okq (⟨"TakeOverModel", "word", "()I"⟩, 33) := ⟨⟨by decide +kernel, by decide +kernel⟩, List.mem_of_getElem? (i := 1070) (by decide +kernel), List.mem_of_getElem? (i := 1262) (by decide +kernel), List.mem_of_getElem? (i := 1263) (by decide +kernel)⟩
theorem lw_p47 : lw_okq (⟨"TakeOverModel", "is", "(Ljava/lang/String;)Z"⟩, 33) := ⟨⟨by decide +kernel, by decide +kernel⟩, List.mem_of_getElem? (i := 1070) (by decide +kernel), List.mem_of_getElem? (i := 1267) (by decide +kernel), List.mem_of_getElem? (i := 1268) (by decide +kernel)⟩
def lw_privs_3 : List (MethodName × Nat) := [(⟨"TakeOver", "arrival", "(IIII)I"⟩, 10), (⟨"TakeOver", "isEnough", "(IIII)Z"⟩, 10), (⟨"TakeOver", "goesWithLists", "(I)Z"⟩, 10), (⟨"TakeOverModel", "isEnd", "(I)Z"⟩, 33), (⟨"TakeOverModel", "isHour", "(I)Z"⟩, 33), (⟨"TakeOverModel", "newLoad", "(III)V"⟩, 33), (⟨"TakeOverModel", "loads", "(III)V"⟩, 33), (⟨"TakeOverModel", "isLoad", "(I)Z"⟩, 33), (⟨"TakeOverModel", "isCrossing", "(III)Z"⟩, 33), (⟨"TakeOverModel", "gives", "(III)V"⟩, 33), (⟨"TakeOverModel", "isOne", "(I)Z"⟩, 33), (⟨"TakeOverModel", "ofOne", "(II)I"⟩, 33), (⟨"TakeOverModel", "next0", "()V"⟩, 33), (⟨"TakeOverModel", "see", "(I)I"⟩, 33), (⟨"TakeOverModel", "word", "()I"⟩, 33), (⟨"TakeOverModel", "is", "(Ljava/lang/String;)Z"⟩, 33)]
theorem lw_r3 : ∀ q ∈ lw_privs_3, lw_okq q := List.forall_mem_cons.mpr ⟨lw_p32, List.forall_mem_cons.mpr ⟨lw_p33, List.forall_mem_cons.mpr ⟨lw_p34, List.forall_mem_cons.mpr ⟨lw_p35, List.forall_mem_cons.mpr ⟨lw_p36, List.forall_mem_cons.mpr ⟨lw_p37, List.forall_mem_cons.mpr ⟨lw_p38, List.forall_mem_cons.mpr ⟨lw_p39, List.forall_mem_cons.mpr ⟨lw_p40, List.forall_mem_cons.mpr ⟨lw_p41, List.forall_mem_cons.mpr ⟨lw_p42, List.forall_mem_cons.mpr ⟨lw_p43, List.forall_mem_cons.mpr ⟨lw_p44, List.forall_mem_cons.mpr ⟨lw_p45, List.forall_mem_cons.mpr ⟨lw_p46, List.forall_mem_cons.mpr ⟨lw_p47, fun _ h => absurd h List.not_mem_nil⟩⟩⟩⟩⟩⟩⟩⟩⟩⟩⟩⟩⟩⟩⟩⟩
theorem lw_p48 : lw_okq (⟨"TakeOverModel", "nameWord", "()I"⟩, 33) := ⟨⟨by decide +kernel, by decide +kernel⟩, List.mem_of_getElem? (i := 1070) (by decide +kernel), List.mem_of_getElem? (i := 1278) (by decide +kernel), List.mem_of_getElem? (i := 1279) (by decide +kernel)⟩
theorem lw_p49 : lw_okq (⟨"TakeOverModel", "aLine", "()Z"⟩, 33) := ⟨⟨by decide +kernel, by decide +kernel⟩, List.mem_of_getElem? (i := 1070) (by decide +kernel), List.mem_of_getElem? (i := 1292) (by decide +kernel), List.mem_of_getElem? (i := 1293) (by decide +kernel)⟩
theorem lw_p50 : lw_okq (⟨"TakeOverModel", "bad", "(I)Z"⟩, 33) := ⟨⟨by decide +kernel, by decide +kernel⟩, List.mem_of_getElem? (i := 1070) (by decide +kernel), List.mem_of_getElem? (i := 1296) (by decide +kernel), List.mem_of_getElem? (i := 1297) (by decide +kernel)⟩
theorem lw_p51 : lw_okq (⟨"TakeOverModel", "any", "()Z"⟩, 33) := ⟨⟨by decide +kernel, by decide +kernel⟩, List.mem_of_getElem? (i := 1070) (by decide +kernel), List.mem_of_getElem? (i := 1300) (by decide +kernel), List.mem_of_getElem? (i := 1301) (by decide +kernel)⟩
theorem lw_p52 : lw_okq (⟨"TakeOverModel", "every", "()Z"⟩, 33) := ⟨⟨by decide +kernel, by decide +kernel⟩, List.mem_of_getElem? (i := 1070) (by decide +kernel), List.mem_of_getElem? (i := 1304) (by decide +kernel), List.mem_of_getElem? (i := 1305) (by decide +kernel)⟩
theorem lw_p53 : lw_okq (⟨"TakeOverModel", "oneTest", "()Z"⟩, 33) := ⟨⟨by decide +kernel, by decide +kernel⟩, List.mem_of_getElem? (i := 1070) (by decide +kernel), List.mem_of_getElem? (i := 1308) (by decide +kernel), List.mem_of_getElem? (i := 1309) (by decide +kernel)⟩
theorem lw_p54 : lw_okq (⟨"TakeOverModel", "opens", "()Z"⟩, 33) := ⟨⟨by decide +kernel, by decide +kernel⟩, List.mem_of_getElem? (i := 1070) (by decide +kernel), List.mem_of_getElem? (i := 1312) (by decide +kernel), List.mem_of_getElem? (i := 1313) (by decide +kernel)⟩
theorem lw_p55 : lw_okq (⟨"TakeOverModel", "lay", "(II)V"⟩, 33) := ⟨⟨by decide +kernel, by decide +kernel⟩, List.mem_of_getElem? (i := 1070) (by decide +kernel), List.mem_of_getElem? (i := 1316) (by decide +kernel), List.mem_of_getElem? (i := 1317) (by decide +kernel)⟩
theorem lw_p56 : lw_okq (⟨"TakeOverModel", "need", "(I)Z"⟩, 33) := ⟨⟨by decide +kernel, by decide +kernel⟩, List.mem_of_getElem? (i := 1070) (by decide +kernel), List.mem_of_getElem? (i := 1320) (by decide +kernel), List.mem_of_getElem? (i := 1321) (by decide +kernel)⟩
theorem lw_p57 : lw_okq (⟨"TakeOverModel", "sumUp", "()Z"⟩, 33) := ⟨⟨by decide +kernel, by decide +kernel⟩, List.mem_of_getElem? (i := 1070) (by decide +kernel), List.mem_of_getElem? (i := 1324) (by decide +kernel), List.mem_of_getElem? (i := 1325) (by decide +kernel)⟩
theorem lw_p58 : lw_okq (⟨"TakeOverModel", "product", "()Z"⟩, 33) := ⟨⟨by decide +kernel, by decide +kernel⟩, List.mem_of_getElem? (i := 1070) (by decide +kernel), List.mem_of_getElem? (i := 1328) (by decide +kernel), List.mem_of_getElem? (i := 1329) (by decide +kernel)⟩
theorem lw_p59 : lw_okq (⟨"TakeOverModel", "unit", "()Z"⟩, 33) := ⟨⟨by decide +kernel, by decide +kernel⟩, List.mem_of_getElem? (i := 1070) (by decide +kernel), List.mem_of_getElem? (i := 1332) (by decide +kernel), List.mem_of_getElem? (i := 1333) (by decide +kernel)⟩
theorem lw_p60 : lw_okq (⟨"TakeOverModel", "anHour", "()V"⟩, 33) := ⟨⟨by decide +kernel, by decide +kernel⟩, List.mem_of_getElem? (i := 1070) (by decide +kernel), List.mem_of_getElem? (i := 1344) (by decide +kernel), List.mem_of_getElem? (i := 1345) (by decide +kernel)⟩
theorem lw_p61 : lw_okq (⟨"TakeOverModel", "ofLoad", "(II)I"⟩, 33) := ⟨⟨by decide +kernel, by decide +kernel⟩, List.mem_of_getElem? (i := 1070) (by decide +kernel), List.mem_of_getElem? (i := 1348) (by decide +kernel), List.mem_of_getElem? (i := 1349) (by decide +kernel)⟩
theorem lw_p62 : lw_okq (⟨"TakeOverModel", "comes", "(III)V"⟩, 33) := ⟨⟨by decide +kernel, by decide +kernel⟩, List.mem_of_getElem? (i := 1070) (by decide +kernel), List.mem_of_getElem? (i := 1352) (by decide +kernel), List.mem_of_getElem? (i := 1353) (by decide +kernel)⟩
theorem lw_p63 : lw_okq (⟨"TakeOverModel", "isThere", "(II)Z"⟩, 33) := ⟨⟨by decide +kernel, by decide +kernel⟩, List.mem_of_getElem? (i := 1070) (by decide +kernel), List.mem_of_getElem? (i := 1356) (by decide +kernel), List.mem_of_getElem? (i := 1357) (by decide +kernel)⟩
def lw_privs_4 : List (MethodName × Nat) := [(⟨"TakeOverModel", "nameWord", "()I"⟩, 33), (⟨"TakeOverModel", "aLine", "()Z"⟩, 33), (⟨"TakeOverModel", "bad", "(I)Z"⟩, 33), (⟨"TakeOverModel", "any", "()Z"⟩, 33), (⟨"TakeOverModel", "every", "()Z"⟩, 33), (⟨"TakeOverModel", "oneTest", "()Z"⟩, 33), (⟨"TakeOverModel", "opens", "()Z"⟩, 33), (⟨"TakeOverModel", "lay", "(II)V"⟩, 33), (⟨"TakeOverModel", "need", "(I)Z"⟩, 33), (⟨"TakeOverModel", "sumUp", "()Z"⟩, 33), (⟨"TakeOverModel", "product", "()Z"⟩, 33), (⟨"TakeOverModel", "unit", "()Z"⟩, 33), (⟨"TakeOverModel", "anHour", "()V"⟩, 33), (⟨"TakeOverModel", "ofLoad", "(II)I"⟩, 33), (⟨"TakeOverModel", "comes", "(III)V"⟩, 33), (⟨"TakeOverModel", "isThere", "(II)Z"⟩, 33)]
theorem lw_r4 : ∀ q ∈ lw_privs_4, lw_okq q := List.forall_mem_cons.mpr ⟨lw_p48, List.forall_mem_cons.mpr ⟨lw_p49, List.forall_mem_cons.mpr ⟨lw_p50, List.forall_mem_cons.mpr ⟨lw_p51, List.forall_mem_cons.mpr ⟨lw_p52, List.forall_mem_cons.mpr ⟨lw_p53, List.forall_mem_cons.mpr ⟨lw_p54, List.forall_mem_cons.mpr ⟨lw_p55, List.forall_mem_cons.mpr ⟨lw_p56, List.forall_mem_cons.mpr ⟨lw_p57, List.forall_mem_cons.mpr ⟨lw_p58, List.forall_mem_cons.mpr ⟨lw_p59, List.forall_mem_cons.mpr ⟨lw_p60, List.forall_mem_cons.mpr ⟨lw_p61, List.forall_mem_cons.mpr ⟨lw_p62, List.forall_mem_cons.mpr ⟨lw_p63, fun _ h => absurd h List.not_mem_nil⟩⟩⟩⟩⟩⟩⟩⟩⟩⟩⟩⟩⟩⟩⟩⟩
theorem lw_p64 : lw_okq (⟨"TakeOverModel", "goesNow", "(II)Z"⟩, 33) := ⟨⟨by decide +kernel, by decide +kernel⟩, List.mem_of_getElem? (i := 1070) (by decide +kernel), List.mem_of_getElem? (i := 1360) (by decide +kernel), List.mem_of_getElem? (i := 1361) (by decide +kernel)⟩
theorem lw_p65 : lw_okq (⟨"TakeOverModel", "mayCross", "(I)Z"⟩, 33) := ⟨⟨by decide +kernel, by decide +kernel⟩, List.mem_of_getElem? (i := 1070) (by decide +kernel), List.mem_of_getElem? (i := 1364) (by decide +kernel), List.mem_of_getElem? (i := 1365) (by decide +kernel)⟩
theorem lw_p66 : lw_okq (⟨"TakeOverModel", "isBare", "(I)Z"⟩, 33) := ⟨⟨by decide +kernel, by decide +kernel⟩, List.mem_of_getElem? (i := 1070) (by decide +kernel), List.mem_of_getElem? (i := 1368) (by decide +kernel), List.mem_of_getElem? (i := 1369) (by decide +kernel)⟩
theorem lw_p67 : lw_okq (⟨"TakeOverModel", "crosses", "(II)V"⟩, 33) := ⟨⟨by decide +kernel, by decide +kernel⟩, List.mem_of_getElem? (i := 1070) (by decide +kernel), List.mem_of_getElem? (i := 1372) (by decide +kernel), List.mem_of_getElem? (i := 1373) (by decide +kernel)⟩
theorem lw_p68 : lw_okq (⟨"TakeOverModel", "takes", "(IIII)I"⟩, 33) := ⟨⟨by decide +kernel, by decide +kernel⟩, List.mem_of_getElem? (i := 1070) (by decide +kernel), List.mem_of_getElem? (i := 1376) (by decide +kernel), List.mem_of_getElem? (i := 1377) (by decide +kernel)⟩
theorem lw_p69 : lw_okq (⟨"TakeOverModel", "laysHeap", "(I)V"⟩, 33) := ⟨⟨by decide +kernel, by decide +kernel⟩, List.mem_of_getElem? (i := 1070) (by decide +kernel), List.mem_of_getElem? (i := 1380) (by decide +kernel), List.mem_of_getElem? (i := 1381) (by decide +kernel)⟩
theorem lw_p70 : lw_okq (⟨"TakeOverModel", "isTaken", "(IIII)Z"⟩, 33) := ⟨⟨by decide +kernel, by decide +kernel⟩, List.mem_of_getElem? (i := 1070) (by decide +kernel), List.mem_of_getElem? (i := 1384) (by decide +kernel), List.mem_of_getElem? (i := 1385) (by decide +kernel)⟩
theorem lw_p71 : lw_okq (⟨"TakeOverModel", "comesTo", "(II)I"⟩, 33) := ⟨⟨by decide +kernel, by decide +kernel⟩, List.mem_of_getElem? (i := 1070) (by decide +kernel), List.mem_of_getElem? (i := 1388) (by decide +kernel), List.mem_of_getElem? (i := 1389) (by decide +kernel)⟩
theorem lw_p72 : lw_okq (⟨"TakeOverModel", "setsDown", "(III)V"⟩, 33) := ⟨⟨by decide +kernel, by decide +kernel⟩, List.mem_of_getElem? (i := 1070) (by decide +kernel), List.mem_of_getElem? (i := 1395) (by decide +kernel), List.mem_of_getElem? (i := 1396) (by decide +kernel)⟩
theorem lw_p73 : lw_okq (⟨"TakeOverModel", "writes", "(III)V"⟩, 33) := ⟨⟨by decide +kernel, by decide +kernel⟩, List.mem_of_getElem? (i := 1070) (by decide +kernel), List.mem_of_getElem? (i := 1399) (by decide +kernel), List.mem_of_getElem? (i := 1400) (by decide +kernel)⟩
theorem lw_p74 : lw_okq (⟨"TakeOverModel", "begins", "()V"⟩, 33) := ⟨⟨by decide +kernel, by decide +kernel⟩, List.mem_of_getElem? (i := 1070) (by decide +kernel), List.mem_of_getElem? (i := 1423) (by decide +kernel), List.mem_of_getElem? (i := 1424) (by decide +kernel)⟩
theorem lw_p75 : lw_okq (⟨"TakeOverModel", "watches", "(II)V"⟩, 33) := ⟨⟨by decide +kernel, by decide +kernel⟩, List.mem_of_getElem? (i := 1070) (by decide +kernel), List.mem_of_getElem? (i := 1427) (by decide +kernel), List.mem_of_getElem? (i := 1428) (by decide +kernel)⟩
theorem lw_p76 : lw_okq (⟨"TakeOverModel", "comesBack", "()V"⟩, 33) := ⟨⟨by decide +kernel, by decide +kernel⟩, List.mem_of_getElem? (i := 1070) (by decide +kernel), List.mem_of_getElem? (i := 1431) (by decide +kernel), List.mem_of_getElem? (i := 1432) (by decide +kernel)⟩
theorem lw_p77 : lw_okq (⟨"TakeOverModel", "areHours", "(II)Z"⟩, 33) := ⟨⟨by decide +kernel, by decide +kernel⟩, List.mem_of_getElem? (i := 1070) (by decide +kernel), List.mem_of_getElem? (i := 1447) (by decide +kernel), List.mem_of_getElem? (i := 1448) (by decide +kernel)⟩
theorem lw_p78 : lw_okq (⟨"TakeOverModel", "priceOf", "(I)I"⟩, 33) := ⟨⟨by decide +kernel, by decide +kernel⟩, List.mem_of_getElem? (i := 1070) (by decide +kernel), List.mem_of_getElem? (i := 1466) (by decide +kernel), List.mem_of_getElem? (i := 1467) (by decide +kernel)⟩
theorem lw_p79 : lw_okq (⟨"TakeOverModel", "brings", "(IIII)Z"⟩, 33) := ⟨⟨by decide +kernel, by decide +kernel⟩, List.mem_of_getElem? (i := 1070) (by decide +kernel), List.mem_of_getElem? (i := 1470) (by decide +kernel), List.mem_of_getElem? (i := 1471) (by decide +kernel)⟩
def lw_privs_5 : List (MethodName × Nat) := [(⟨"TakeOverModel", "goesNow", "(II)Z"⟩, 33), (⟨"TakeOverModel", "mayCross", "(I)Z"⟩, 33), (⟨"TakeOverModel", "isBare", "(I)Z"⟩, 33), (⟨"TakeOverModel", "crosses", "(II)V"⟩, 33), (⟨"TakeOverModel", "takes", "(IIII)I"⟩, 33), (⟨"TakeOverModel", "laysHeap", "(I)V"⟩, 33), (⟨"TakeOverModel", "isTaken", "(IIII)Z"⟩, 33), (⟨"TakeOverModel", "comesTo", "(II)I"⟩, 33), (⟨"TakeOverModel", "setsDown", "(III)V"⟩, 33), (⟨"TakeOverModel", "writes", "(III)V"⟩, 33), (⟨"TakeOverModel", "begins", "()V"⟩, 33), (⟨"TakeOverModel", "watches", "(II)V"⟩, 33), (⟨"TakeOverModel", "comesBack", "()V"⟩, 33), (⟨"TakeOverModel", "areHours", "(II)Z"⟩, 33), (⟨"TakeOverModel", "priceOf", "(I)I"⟩, 33), (⟨"TakeOverModel", "brings", "(IIII)Z"⟩, 33)]
theorem lw_r5 : ∀ q ∈ lw_privs_5, lw_okq q := List.forall_mem_cons.mpr ⟨lw_p64, List.forall_mem_cons.mpr ⟨lw_p65, List.forall_mem_cons.mpr ⟨lw_p66, List.forall_mem_cons.mpr ⟨lw_p67, List.forall_mem_cons.mpr ⟨lw_p68, List.forall_mem_cons.mpr ⟨lw_p69, List.forall_mem_cons.mpr ⟨lw_p70, List.forall_mem_cons.mpr ⟨lw_p71, List.forall_mem_cons.mpr ⟨lw_p72, List.forall_mem_cons.mpr ⟨lw_p73, List.forall_mem_cons.mpr ⟨lw_p74, List.forall_mem_cons.mpr ⟨lw_p75, List.forall_mem_cons.mpr ⟨lw_p76, List.forall_mem_cons.mpr ⟨lw_p77, List.forall_mem_cons.mpr ⟨lw_p78, List.forall_mem_cons.mpr ⟨lw_p79, fun _ h => absurd h List.not_mem_nil⟩⟩⟩⟩⟩⟩⟩⟩⟩⟩⟩⟩⟩⟩⟩⟩
theorem lw_p80 : lw_okq (⟨"TakeOverModel", "goWith", "(I)Z"⟩, 33) := ⟨⟨by decide +kernel, by decide +kernel⟩, List.mem_of_getElem? (i := 1070) (by decide +kernel), List.mem_of_getElem? (i := 1486) (by decide +kernel), List.mem_of_getElem? (i := 1487) (by decide +kernel)⟩
theorem lw_p81 : lw_okq (⟨"TakeOverModel", "setAt", "(I)I"⟩, 33) := ⟨⟨by decide +kernel, by decide +kernel⟩, List.mem_of_getElem? (i := 1070) (by decide +kernel), List.mem_of_getElem? (i := 1490) (by decide +kernel), List.mem_of_getElem? (i := 1491) (by decide +kernel)⟩
def lw_privs_6 : List (MethodName × Nat) := [(⟨"TakeOverModel", "goWith", "(I)Z"⟩, 33), (⟨"TakeOverModel", "setAt", "(I)I"⟩, 33)]
theorem lw_r6 : ∀ q ∈ lw_privs_6, lw_okq q := List.forall_mem_cons.mpr ⟨lw_p80, List.forall_mem_cons.mpr ⟨lw_p81, fun _ h => absurd h List.not_mem_nil⟩⟩
def lw_privs : List (MethodName × Nat) := lw_privs_1 ++ (lw_privs_2 ++ (lw_privs_3 ++ (lw_privs_4 ++ (lw_privs_5 ++ (lw_privs_6)))))
def lw_tbl : List Cond := k2_sels lw_privs ++ tables_1
theorem lw_privs_ok : ∀ q ∈ lw_privs, lw_okq q := by
  show ∀ q ∈ lw_privs_1 ++ (lw_privs_2 ++ (lw_privs_3 ++ (lw_privs_4 ++ (lw_privs_5 ++ (lw_privs_6))))), lw_okq q
  exact List.forall_mem_append.mpr ⟨lw_r1, List.forall_mem_append.mpr ⟨lw_r2, List.forall_mem_append.mpr ⟨lw_r3, List.forall_mem_append.mpr ⟨lw_r4, List.forall_mem_append.mpr ⟨lw_r5, lw_r6⟩⟩⟩⟩⟩
-- ===== end of PART A; then your names; then what follows =====
end
section
def RX0 : String := "TakeOver$Book"
def TX0 : u_T := fun k => match k with
  | 0 => ("TakeOver$Book", "loads", "[I", true)
  | 1 => ("TakeOver$Book", "crossers", "[I", true)
  | 2 => ("TakeOver$Book", "hours", "[I", true)
  | _ => ("TakeOver$Book", "lines", "I", false)
def tyX0 : Nat → FieldType := fun k => match k with
  | 0 => .array .int
  | 1 => .array .int
  | 2 => .array .int
  | _ => .int
abbrev wsX00 : List Cond := u_ws RX0 TX0 4
theorem nmX0 : ∀ a, a < 4 → ∀ b, b < 4 → a ≠ b → (TX0 a).2.1 ≠ (TX0 b).2.1 := by decide +kernel
theorem tyX0_ok : ∀ k, k < 4 → parseFieldDescriptor (TX0 k).2.2.1 = some (tyX0 k) := by decide +kernel
abbrev cX0_init : ByteArray := prog_2_method_1_code
def yX0_init : MethodName := ⟨RX0, "<init>", "()V"⟩
abbrev cX0_write : ByteArray := prog_2_method_2_code
def yX0_write : MethodName := ⟨RX0, "write", "(III)V"⟩
abbrev cX0_copyFrom : ByteArray := prog_2_method_3_code
def yX0_copyFrom : MethodName := ⟨RX0, "copyFrom", "(LTakeOver$Book;)V"⟩
def RX1 : String := "TakeOver$Course"
def TX1 : u_T := fun k => match k with
  | 0 => ("TakeOver$Course", "told", "LTakeOver$Told;", true)
  | 1 => ("TakeOver$Course", "book", "LTakeOver$Book;", true)
  | 2 => ("TakeOver$Course", "plan", "LTakeOver$Plan;", true)
  | 3 => ("TakeOver$Course", "picked", "[I", true)
  | 4 => ("TakeOver$Course", "facts", "[I", true)
  | 5 => ("TakeOver$Course", "pickedCount", "I", false)
  | 6 => ("TakeOver$Course", "state", "LTakeOver$State;", false)
  | 7 => ("TakeOver$Course", "written", "Z", false)
  | 8 => ("TakeOver$Course", "toll", "I", false)
  | 9 => ("TakeOver$Course", "hired", "I", false)
  | 10 => ("TakeOver$Course", "absent", "I", false)
  | 11 => ("TakeOver$Course", "watched", "I", false)
  | 12 => ("TakeOver$Course", "watchedEnd", "I", false)
  | 13 => ("TakeOver$Course", "met", "I", false)
  | 14 => ("TakeOver$Course", "leastAbove", "I", false)
  | _ => ("TakeOver$Course", "borne", "I", false)
def tyX1 : Nat → FieldType := fun k => match k with
  | 0 => .object "TakeOver$Told"
  | 1 => .object "TakeOver$Book"
  | 2 => .object "TakeOver$Plan"
  | 3 => .array .int
  | 4 => .array .int
  | 5 => .int
  | 6 => .object "TakeOver$State"
  | 7 => .boolean
  | 8 => .int
  | 9 => .int
  | 10 => .int
  | 11 => .int
  | 12 => .int
  | 13 => .int
  | 14 => .int
  | _ => .int
abbrev wsX10 : List Cond := u_ws RX1 TX1 16
theorem nmX1 : ∀ a, a < 16 → ∀ b, b < 16 → a ≠ b → (TX1 a).2.1 ≠ (TX1 b).2.1 := by decide +kernel
theorem tyX1_ok : ∀ k, k < 16 → parseFieldDescriptor (TX1 k).2.2.1 = some (tyX1 k) := by decide +kernel
abbrev cX1_init : ByteArray := prog_3_method_1_code
def yX1_init : MethodName := ⟨RX1, "<init>", "(LTakeOver$Told;LTakeOver$Book;LTakeOver$State;)V"⟩
abbrev cX1_begin : ByteArray := prog_3_method_2_code
def yX1_begin : MethodName := ⟨RX1, "begin", "(LTakeOver$State;)V"⟩
abbrev cX1_watch : ByteArray := prog_3_method_3_code
def yX1_watch : MethodName := ⟨RX1, "watch", "(II)V"⟩
abbrev cX1_goOn : ByteArray := prog_3_method_4_code
def yX1_goOn : MethodName := ⟨RX1, "goOn", "(I)V"⟩
abbrev cX1_pass : ByteArray := prog_3_method_5_code
def yX1_pass : MethodName := ⟨RX1, "pass", "(I)V"⟩
abbrev cX1_bring : ByteArray := prog_3_method_6_code
def yX1_bring : MethodName := ⟨RX1, "bring", "(II)V"⟩
abbrev cX1_fetchOff : ByteArray := prog_3_method_7_code
def yX1_fetchOff : MethodName := ⟨RX1, "fetchOff", "(I)V"⟩
abbrev cX1_arrive : ByteArray := prog_3_method_8_code
def yX1_arrive : MethodName := ⟨RX1, "arrive", "(III)V"⟩
abbrev cX1_isToGo : ByteArray := prog_3_method_9_code
def yX1_isToGo : MethodName := ⟨RX1, "isToGo", "(II)Z"⟩
abbrev cX1_cross : ByteArray := prog_3_method_10_code
def yX1_cross : MethodName := ⟨RX1, "cross", "(III)V"⟩
abbrev cX1_isBehind : ByteArray := prog_3_method_11_code
def yX1_isBehind : MethodName := ⟨RX1, "isBehind", "(II)Z"⟩
abbrev cX1_choose : ByteArray := prog_3_method_12_code
def yX1_choose : MethodName := ⟨RX1, "choose", "(IIII)I"⟩
abbrev cX1_carry : ByteArray := prog_3_method_13_code
def yX1_carry : MethodName := ⟨RX1, "carry", "(IIII)V"⟩
def RX2 : String := "TakeOver$Crossers"
def TX2 : u_T := fun k => match k with
  | 0 => ("TakeOver$Crossers", "hour", "[I", true)
  | 1 => ("TakeOver$Crossers", "bridge", "[I", true)
  | 2 => ("TakeOver$Crossers", "way", "[I", true)
  | 3 => ("TakeOver$Crossers", "bears", "[I", true)
  | 4 => ("TakeOver$Crossers", "own", "[I", true)
  | 5 => ("TakeOver$Crossers", "cost", "[I", true)
  | 6 => ("TakeOver$Crossers", "kind", "[I", true)
  | 7 => ("TakeOver$Crossers", "v", "[I", true)
  | 8 => ("TakeOver$Crossers", "maybe", "[I", true)
  | _ => ("TakeOver$Crossers", "count", "I", false)
def tyX2 : Nat → FieldType := fun k => match k with
  | 0 => .array .int
  | 1 => .array .int
  | 2 => .array .int
  | 3 => .array .int
  | 4 => .array .int
  | 5 => .array .int
  | 6 => .array .int
  | 7 => .array .int
  | 8 => .array .int
  | _ => .int
abbrev wsX20 : List Cond := u_ws RX2 TX2 10
theorem nmX2 : ∀ a, a < 10 → ∀ b, b < 10 → a ≠ b → (TX2 a).2.1 ≠ (TX2 b).2.1 := by decide +kernel
theorem tyX2_ok : ∀ k, k < 10 → parseFieldDescriptor (TX2 k).2.2.1 = some (tyX2 k) := by decide +kernel
abbrev cX2_init : ByteArray := prog_4_method_1_code
def yX2_init : MethodName := ⟨RX2, "<init>", "()V"⟩
abbrev cX2_add : ByteArray := prog_4_method_2_code
def yX2_add : MethodName := ⟨RX2, "add", "(IIIIII)I"⟩
abbrev cX2_has : ByteArray := prog_4_method_3_code
def yX2_has : MethodName := ⟨RX2, "has", "(I)Z"⟩
abbrev cX2_canFollow : ByteArray := prog_4_method_4_code
def yX2_canFollow : MethodName := ⟨RX2, "canFollow", "(II)Z"⟩
abbrev cX2_tellKind : ByteArray := prog_4_method_5_code
def yX2_tellKind : MethodName := ⟨RX2, "tellKind", "(III)V"⟩
abbrev cX2_maybeSet : ByteArray := prog_4_method_6_code
def yX2_maybeSet : MethodName := ⟨RX2, "maybeSet", "()I"⟩
abbrev cX2_tell : ByteArray := prog_4_method_7_code
def yX2_tell : MethodName := ⟨RX2, "tell", "(II)I"⟩
abbrev cX2_copyFrom : ByteArray := prog_4_method_8_code
def yX2_copyFrom : MethodName := ⟨RX2, "copyFrom", "(LTakeOver$Crossers;)V"⟩
def RX3 : String := "TakeOver$Law"
def TX3 : u_T := fun k => match k with
  | 0 => ("TakeOver$Law", "code", "[I", true)
  | 1 => ("TakeOver$Law", "start", "[I", true)
  | 2 => ("TakeOver$Law", "take", "[I", true)
  | 3 => ("TakeOver$Law", "stack", "[I", true)
  | 4 => ("TakeOver$Law", "lines", "I", false)
  | _ => ("TakeOver$Law", "size", "I", false)
def tyX3 : Nat → FieldType := fun k => match k with
  | 0 => .array .int
  | 1 => .array .int
  | 2 => .array .int
  | 3 => .array .int
  | 4 => .int
  | _ => .int
abbrev wsX30 : List Cond := u_ws RX3 TX3 6
theorem nmX3 : ∀ a, a < 6 → ∀ b, b < 6 → a ≠ b → (TX3 a).2.1 ≠ (TX3 b).2.1 := by decide +kernel
theorem tyX3_ok : ∀ k, k < 6 → parseFieldDescriptor (TX3 k).2.2.1 = some (tyX3 k) := by decide +kernel
abbrev cX3_init : ByteArray := prog_5_method_1_code
def yX3_init : MethodName := ⟨RX3, "<init>", "()V"⟩
abbrev cX3_clear : ByteArray := prog_5_method_2_code
def yX3_clear : MethodName := ⟨RX3, "clear", "()V"⟩
abbrev cX3_beginLine : ByteArray := prog_5_method_3_code
def yX3_beginLine : MethodName := ⟨RX3, "beginLine", "(Z)Z"⟩
abbrev cX3_closeLine : ByteArray := prog_5_method_4_code
def yX3_closeLine : MethodName := ⟨RX3, "closeLine", "()V"⟩
abbrev cX3_put : ByteArray := prog_5_method_5_code
def yX3_put : MethodName := ⟨RX3, "put", "(I)V"⟩
abbrev cX3_lets : ByteArray := prog_5_method_6_code
def yX3_lets : MethodName := ⟨RX3, "lets", "([I)Z"⟩
abbrev cX3_holds : ByteArray := prog_5_method_7_code
def yX3_holds : MethodName := ⟨RX3, "holds", "(I[I)Z"⟩
abbrev cX3_copyFrom : ByteArray := prog_5_method_8_code
def yX3_copyFrom : MethodName := ⟨RX3, "copyFrom", "(LTakeOver$Law;)V"⟩
def RX4 : String := "TakeOver$Lists"
def TX4 : u_T := fun k => match k with
  | 0 => ("TakeOver$Lists", "hour", "[I", true)
  | 1 => ("TakeOver$Lists", "end", "[I", true)
  | 2 => ("TakeOver$Lists", "seen", "[I", true)
  | _ => ("TakeOver$Lists", "count", "I", false)
def tyX4 : Nat → FieldType := fun k => match k with
  | 0 => .array .int
  | 1 => .array .int
  | 2 => .array .int
  | _ => .int
abbrev wsX40 : List Cond := u_ws RX4 TX4 4
theorem nmX4 : ∀ a, a < 4 → ∀ b, b < 4 → a ≠ b → (TX4 a).2.1 ≠ (TX4 b).2.1 := by decide +kernel
theorem tyX4_ok : ∀ k, k < 4 → parseFieldDescriptor (TX4 k).2.2.1 = some (tyX4 k) := by decide +kernel
abbrev cX4_init : ByteArray := prog_6_method_1_code
def yX4_init : MethodName := ⟨RX4, "<init>", "()V"⟩
abbrev cX4_add : ByteArray := prog_6_method_2_code
def yX4_add : MethodName := ⟨RX4, "add", "(III)Z"⟩
abbrev cX4_lastHour : ByteArray := prog_6_method_3_code
def yX4_lastHour : MethodName := ⟨RX4, "lastHour", "()I"⟩
abbrev cX4_agree : ByteArray := prog_6_method_4_code
def yX4_agree : MethodName := ⟨RX4, "agree", "(ILTakeOver$State;)Z"⟩
abbrev cX4_copyFrom : ByteArray := prog_6_method_5_code
def yX4_copyFrom : MethodName := ⟨RX4, "copyFrom", "(LTakeOver$Lists;)V"⟩
def RX5 : String := "TakeOver$Loads"
def TX5 : u_T := fun k => match k with
  | 0 => ("TakeOver$Loads", "weight", "[I", true)
  | 1 => ("TakeOver$Loads", "end", "[I", true)
  | 2 => ("TakeOver$Loads", "hour", "[I", true)
  | 3 => ("TakeOver$Loads", "fetchEnd", "[I", true)
  | 4 => ("TakeOver$Loads", "fetchHour", "[I", true)
  | _ => ("TakeOver$Loads", "count", "I", false)
def tyX5 : Nat → FieldType := fun k => match k with
  | 0 => .array .int
  | 1 => .array .int
  | 2 => .array .int
  | 3 => .array .int
  | 4 => .array .int
  | _ => .int
abbrev wsX50 : List Cond := u_ws RX5 TX5 6
theorem nmX5 : ∀ a, a < 6 → ∀ b, b < 6 → a ≠ b → (TX5 a).2.1 ≠ (TX5 b).2.1 := by decide +kernel
theorem tyX5_ok : ∀ k, k < 6 → parseFieldDescriptor (TX5 k).2.2.1 = some (tyX5 k) := by decide +kernel
abbrev cX5_init : ByteArray := prog_7_method_1_code
def yX5_init : MethodName := ⟨RX5, "<init>", "()V"⟩
abbrev cX5_add : ByteArray := prog_7_method_2_code
def yX5_add : MethodName := ⟨RX5, "add", "(III)I"⟩
abbrev cX5_dropLast : ByteArray := prog_7_method_3_code
def yX5_dropLast : MethodName := ⟨RX5, "dropLast", "()V"⟩
abbrev cX5_has : ByteArray := prog_7_method_4_code
def yX5_has : MethodName := ⟨RX5, "has", "(I)Z"⟩
abbrev cX5_hasAll : ByteArray := prog_7_method_5_code
def yX5_hasAll : MethodName := ⟨RX5, "hasAll", "(I)Z"⟩
abbrev cX5_copyFrom : ByteArray := prog_7_method_6_code
def yX5_copyFrom : MethodName := ⟨RX5, "copyFrom", "(LTakeOver$Loads;)V"⟩
def RX6 : String := "TakeOver$Offers"
def TX6 : u_T := fun k => match k with
  | 0 => ("TakeOver$Offers", "hour", "[I", true)
  | 1 => ("TakeOver$Offers", "bridge", "[I", true)
  | 2 => ("TakeOver$Offers", "way", "[I", true)
  | 3 => ("TakeOver$Offers", "bears", "[I", true)
  | 4 => ("TakeOver$Offers", "price", "[I", true)
  | _ => ("TakeOver$Offers", "count", "I", false)
def tyX6 : Nat → FieldType := fun k => match k with
  | 0 => .array .int
  | 1 => .array .int
  | 2 => .array .int
  | 3 => .array .int
  | 4 => .array .int
  | _ => .int
abbrev wsX60 : List Cond := u_ws RX6 TX6 6
theorem nmX6 : ∀ a, a < 6 → ∀ b, b < 6 → a ≠ b → (TX6 a).2.1 ≠ (TX6 b).2.1 := by decide +kernel
theorem tyX6_ok : ∀ k, k < 6 → parseFieldDescriptor (TX6 k).2.2.1 = some (tyX6 k) := by decide +kernel
abbrev cX6_init : ByteArray := prog_8_method_1_code
def yX6_init : MethodName := ⟨RX6, "<init>", "()V"⟩
abbrev cX6_add : ByteArray := prog_8_method_2_code
def yX6_add : MethodName := ⟨RX6, "add", "(IIIII)I"⟩
abbrev cX6_priceOf : ByteArray := prog_8_method_3_code
def yX6_priceOf : MethodName := ⟨RX6, "priceOf", "(I)I"⟩
abbrev cX6_copyFrom : ByteArray := prog_8_method_4_code
def yX6_copyFrom : MethodName := ⟨RX6, "copyFrom", "(LTakeOver$Offers;)V"⟩
def RX7 : String := "TakeOver$Plan"
def TX7 : u_T := fun k => match k with
  | 0 => ("TakeOver$Plan", "come", "[I", true)
  | 1 => ("TakeOver$Plan", "fetched", "[I", true)
  | 2 => ("TakeOver$Plan", "walk", "[I", true)
  | 3 => ("TakeOver$Plan", "hire", "[I", true)
  | _ => ("TakeOver$Plan", "listed", "[I", true)
def tyX7 : Nat → FieldType := fun k => match k with
  | 0 => .array .int
  | 1 => .array .int
  | 2 => .array .int
  | 3 => .array .int
  | _ => .array .int
abbrev wsX70 : List Cond := u_ws RX7 TX7 5
theorem nmX7 : ∀ a, a < 5 → ∀ b, b < 5 → a ≠ b → (TX7 a).2.1 ≠ (TX7 b).2.1 := by decide +kernel
theorem tyX7_ok : ∀ k, k < 5 → parseFieldDescriptor (TX7 k).2.2.1 = some (tyX7 k) := by decide +kernel
abbrev cX7_init : ByteArray := prog_9_method_1_code
def yX7_init : MethodName := ⟨RX7, "<init>", "()V"⟩
abbrev cX7_make : ByteArray := prog_9_method_2_code
def yX7_make : MethodName := ⟨RX7, "make", "(LTakeOver$Told;I)V"⟩
abbrev cX7_planCrosser : ByteArray := prog_9_method_3_code
def yX7_planCrosser : MethodName := ⟨RX7, "planCrosser", "(LTakeOver$Crossers;II)V"⟩
def RX8 : String := "TakeOver$Reader"
def TX8 : u_T := fun k => match k with
  | 0 => ("TakeOver$Reader", "tape", "[I", true)
  | 1 => ("TakeOver$Reader", "draft", "LTakeOver$Law;", true)
  | 2 => ("TakeOver$Reader", "held", "[I", true)
  | 3 => ("TakeOver$Reader", "length", "I", false)
  | 4 => ("TakeOver$Reader", "failure", "I", false)
  | 5 => ("TakeOver$Reader", "failurePlace", "I", false)
  | 6 => ("TakeOver$Reader", "heldCount", "I", false)
  | 7 => ("TakeOver$Reader", "open", "I", false)
  | 8 => ("TakeOver$Reader", "brackets", "I", false)
  | 9 => ("TakeOver$Reader", "awaits", "I", false)
  | 10 => ("TakeOver$Reader", "isRight", "Z", false)
  | 11 => ("TakeOver$Reader", "at", "I", false)
  | 12 => ("TakeOver$Reader", "token", "I", false)
  | 13 => ("TakeOver$Reader", "place", "I", false)
  | _ => ("TakeOver$Reader", "number", "I", false)
def tyX8 : Nat → FieldType := fun k => match k with
  | 0 => .array .int
  | 1 => .object "TakeOver$Law"
  | 2 => .array .int
  | 3 => .int
  | 4 => .int
  | 5 => .int
  | 6 => .int
  | 7 => .int
  | 8 => .int
  | 9 => .int
  | 10 => .boolean
  | 11 => .int
  | 12 => .int
  | 13 => .int
  | _ => .int
abbrev wsX80 : List Cond := u_ws RX8 TX8 15
theorem nmX8 : ∀ a, a < 15 → ∀ b, b < 15 → a ≠ b → (TX8 a).2.1 ≠ (TX8 b).2.1 := by decide +kernel
theorem tyX8_ok : ∀ k, k < 15 → parseFieldDescriptor (TX8 k).2.2.1 = some (tyX8 k) := by decide +kernel
abbrev cX8_init : ByteArray := prog_10_method_1_code
def yX8_init : MethodName := ⟨RX8, "<init>", "()V"⟩
abbrev cX8_take : ByteArray := prog_10_method_2_code
def yX8_take : MethodName := ⟨RX8, "take", "(IIIII)I"⟩
abbrev cX8_takeFour : ByteArray := prog_10_method_3_code
def yX8_takeFour : MethodName := ⟨RX8, "takeFour", "(I)V"⟩
abbrev cX8_cut : ByteArray := prog_10_method_4_code
def yX8_cut : MethodName := ⟨RX8, "cut", "(I)Z"⟩
abbrev cX8_readLaw : ByteArray := prog_10_method_5_code
def yX8_readLaw : MethodName := ⟨RX8, "readLaw", "()V"⟩
abbrev cX8_fail : ByteArray := prog_10_method_6_code
def yX8_fail : MethodName := ⟨RX8, "fail", "(I)V"⟩
abbrev cX8_step : ByteArray := prog_10_method_7_code
def yX8_step : MethodName := ⟨RX8, "step", "()V"⟩
abbrev cX8_stepLine : ByteArray := prog_10_method_8_code
def yX8_stepLine : MethodName := ⟨RX8, "stepLine", "()V"⟩
abbrev cX8_stepHead : ByteArray := prog_10_method_9_code
def yX8_stepHead : MethodName := ⟨RX8, "stepHead", "()V"⟩
abbrev cX8_stepCondition : ByteArray := prog_10_method_10_code
def yX8_stepCondition : MethodName := ⟨RX8, "stepCondition", "()V"⟩
abbrev cX8_stepUnit : ByteArray := prog_10_method_11_code
def yX8_stepUnit : MethodName := ⟨RX8, "stepUnit", "()V"⟩
abbrev cX8_stepDivisor : ByteArray := prog_10_method_12_code
def yX8_stepDivisor : MethodName := ⟨RX8, "stepDivisor", "()V"⟩
abbrev cX8_stepLeft : ByteArray := prog_10_method_13_code
def yX8_stepLeft : MethodName := ⟨RX8, "stepLeft", "()V"⟩
abbrev cX8_stepRight : ByteArray := prog_10_method_14_code
def yX8_stepRight : MethodName := ⟨RX8, "stepRight", "()V"⟩
abbrev cX8_stepReckoning : ByteArray := prog_10_method_15_code
def yX8_stepReckoning : MethodName := ⟨RX8, "stepReckoning", "()V"⟩
abbrev cX8_stepClosed : ByteArray := prog_10_method_16_code
def yX8_stepClosed : MethodName := ⟨RX8, "stepClosed", "()V"⟩
abbrev cX8_join : ByteArray := prog_10_method_17_code
def yX8_join : MethodName := ⟨RX8, "join", "()V"⟩
abbrev cX8_hold : ByteArray := prog_10_method_18_code
def yX8_hold : MethodName := ⟨RX8, "hold", "(I)V"⟩
abbrev cX8_release : ByteArray := prog_10_method_19_code
def yX8_release : MethodName := ⟨RX8, "release", "(I)V"⟩
abbrev cX8_rank : ByteArray := prog_10_method_20_code
def yX8_rank : MethodName := ⟨RX8, "rank", "(I)I"⟩
abbrev cX8_nextToken : ByteArray := prog_10_method_21_code
def yX8_nextToken : MethodName := ⟨RX8, "nextToken", "()V"⟩
abbrev cX8_isLetter : ByteArray := prog_10_method_22_code
def yX8_isLetter : MethodName := ⟨RX8, "isLetter", "(I)Z"⟩
abbrev cX8_isDigit : ByteArray := prog_10_method_23_code
def yX8_isDigit : MethodName := ⟨RX8, "isDigit", "(I)Z"⟩
abbrev cX8_sign : ByteArray := prog_10_method_24_code
def yX8_sign : MethodName := ⟨RX8, "sign", "(I)I"⟩
abbrev cX8_keyword : ByteArray := prog_10_method_25_code
def yX8_keyword : MethodName := ⟨RX8, "keyword", "()I"⟩
abbrev cX8_isSpelt : ByteArray := prog_10_method_26_code
def yX8_isSpelt : MethodName := ⟨RX8, "isSpelt", "(Ljava/lang/String;)Z"⟩
abbrev cX8_spelling : ByteArray := prog_10_method_27_code
def yX8_spelling : MethodName := ⟨RX8, "spelling", "(I)Ljava/lang/String;"⟩
def RX9 : String := "TakeOver$State"
def TX9 : u_T := fun k => match k with
  | 0 => ("TakeOver$State", "end", "[I", true)
  | 1 => ("TakeOver$State", "since", "[I", true)
  | 2 => ("TakeOver$State", "trips", "[I", true)
  | 3 => ("TakeOver$State", "gone", "[I", true)
  | 4 => ("TakeOver$State", "row", "[I", true)
  | 5 => ("TakeOver$State", "waiting", "[I", true)
  | 6 => ("TakeOver$State", "crossedAt", "[I", true)
  | 7 => ("TakeOver$State", "bore", "[I", true)
  | 8 => ("TakeOver$State", "paid", "[I", true)
  | 9 => ("TakeOver$State", "now", "I", false)
  | _ => ("TakeOver$State", "tollsPaid", "I", false)
def tyX9 : Nat → FieldType := fun k => match k with
  | 0 => .array .int
  | 1 => .array .int
  | 2 => .array .int
  | 3 => .array .int
  | 4 => .array .int
  | 5 => .array .int
  | 6 => .array .int
  | 7 => .array .int
  | 8 => .array .int
  | 9 => .int
  | _ => .int
abbrev wsX90 : List Cond := u_ws RX9 TX9 11
theorem nmX9 : ∀ a, a < 11 → ∀ b, b < 11 → a ≠ b → (TX9 a).2.1 ≠ (TX9 b).2.1 := by decide +kernel
theorem tyX9_ok : ∀ k, k < 11 → parseFieldDescriptor (TX9 k).2.2.1 = some (tyX9 k) := by decide +kernel
abbrev cX9_init : ByteArray := prog_11_method_1_code
def yX9_init : MethodName := ⟨RX9, "<init>", "()V"⟩
abbrev cX9_clear : ByteArray := prog_11_method_2_code
def yX9_clear : MethodName := ⟨RX9, "clear", "()V"⟩
abbrev cX9_isAt : ByteArray := prog_11_method_3_code
def yX9_isAt : MethodName := ⟨RX9, "isAt", "(II)Z"⟩
abbrev cX9_append : ByteArray := prog_11_method_4_code
def yX9_append : MethodName := ⟨RX9, "append", "(III)V"⟩
abbrev cX9_drop : ByteArray := prog_11_method_5_code
def yX9_drop : MethodName := ⟨RX9, "drop", "([III)V"⟩
abbrev cX9_weightAt : ByteArray := prog_11_method_6_code
def yX9_weightAt : MethodName := ⟨RX9, "weightAt", "(ILTakeOver$Loads;)I"⟩
abbrev cX9_setAt : ByteArray := prog_11_method_7_code
def yX9_setAt : MethodName := ⟨RX9, "setAt", "(I)I"⟩
abbrev cX9_bearersSince : ByteArray := prog_11_method_8_code
def yX9_bearersSince : MethodName := ⟨RX9, "bearersSince", "(II)I"⟩
abbrev cX9_copyFrom : ByteArray := prog_11_method_9_code
def yX9_copyFrom : MethodName := ⟨RX9, "copyFrom", "(LTakeOver$State;)V"⟩
def RX10 : String := "TakeOver$Told"
def TX10 : u_T := fun k => match k with
  | 0 => ("TakeOver$Told", "loads", "LTakeOver$Loads;", true)
  | 1 => ("TakeOver$Told", "crossers", "LTakeOver$Crossers;", true)
  | 2 => ("TakeOver$Told", "offers", "LTakeOver$Offers;", true)
  | 3 => ("TakeOver$Told", "lists", "LTakeOver$Lists;", true)
  | 4 => ("TakeOver$Told", "law", "LTakeOver$Law;", true)
  | 5 => ("TakeOver$Told", "bridgeCount", "I", false)
  | 6 => ("TakeOver$Told", "toll", "I", false)
  | _ => ("TakeOver$Told", "strict", "I", false)
def tyX10 : Nat → FieldType := fun k => match k with
  | 0 => .object "TakeOver$Loads"
  | 1 => .object "TakeOver$Crossers"
  | 2 => .object "TakeOver$Offers"
  | 3 => .object "TakeOver$Lists"
  | 4 => .object "TakeOver$Law"
  | 5 => .int
  | 6 => .int
  | _ => .int
abbrev wsX100 : List Cond := u_ws RX10 TX10 8
theorem nmX10 : ∀ a, a < 8 → ∀ b, b < 8 → a ≠ b → (TX10 a).2.1 ≠ (TX10 b).2.1 := by decide +kernel
theorem tyX10_ok : ∀ k, k < 8 → parseFieldDescriptor (TX10 k).2.2.1 = some (tyX10 k) := by decide +kernel
abbrev cX10_init : ByteArray := prog_12_method_1_code
def yX10_init : MethodName := ⟨RX10, "<init>", "()V"⟩
abbrev cX10_hasEnd : ByteArray := prog_12_method_2_code
def yX10_hasEnd : MethodName := ⟨RX10, "hasEnd", "(I)Z"⟩
abbrev cX10_clear : ByteArray := prog_12_method_3_code
def yX10_clear : MethodName := ⟨RX10, "clear", "(I)V"⟩
abbrev cX10_copyFrom : ByteArray := prog_12_method_4_code
def yX10_copyFrom : MethodName := ⟨RX10, "copyFrom", "(LTakeOver$Told;)V"⟩
def RX11 : String := "TakeOver"
def TX11 : u_T := fun k => match k with
  | 0 => ("TakeOver", "told", "LTakeOver$Told;", true)
  | 1 => ("TakeOver", "state", "LTakeOver$State;", true)
  | 2 => ("TakeOver", "record", "LTakeOver$Book;", true)
  | 3 => ("TakeOver", "reader", "LTakeOver$Reader;", true)
  | 4 => ("TakeOver", "course", "LTakeOver$Course;", true)
  | 5 => ("TakeOver", "thought", "LTakeOver$State;", true)
  | 6 => ("TakeOver", "oldTold", "LTakeOver$Told;", true)
  | 7 => ("TakeOver", "oldState", "LTakeOver$State;", true)
  | 8 => ("TakeOver", "oldRecord", "LTakeOver$Book;", true)
  | _ => ("TakeOver", "imageTaken", "Z", false)
def tyX11 : Nat → FieldType := fun k => match k with
  | 0 => .object "TakeOver$Told"
  | 1 => .object "TakeOver$State"
  | 2 => .object "TakeOver$Book"
  | 3 => .object "TakeOver$Reader"
  | 4 => .object "TakeOver$Course"
  | 5 => .object "TakeOver$State"
  | 6 => .object "TakeOver$Told"
  | 7 => .object "TakeOver$State"
  | 8 => .object "TakeOver$Book"
  | _ => .boolean
abbrev wsX110 : List Cond := u_ws RX11 TX11 10
theorem nmX11 : ∀ a, a < 10 → ∀ b, b < 10 → a ≠ b → (TX11 a).2.1 ≠ (TX11 b).2.1 := by decide +kernel
theorem tyX11_ok : ∀ k, k < 10 → parseFieldDescriptor (TX11 k).2.2.1 = some (tyX11 k) := by decide +kernel
abbrev cX11_init : ByteArray := prog_1_method_1_code
def yX11_init : MethodName := ⟨RX11, "<init>", "()V"⟩
abbrev cX11_bridges : ByteArray := prog_1_method_2_code
def yX11_bridges : MethodName := ⟨RX11, "bridges", "(I)Z"⟩
abbrev cX11_load : ByteArray := prog_1_method_3_code
def yX11_load : MethodName := ⟨RX11, "load", "(III)I"⟩
abbrev cX11_fetch : ByteArray := prog_1_method_4_code
def yX11_fetch : MethodName := ⟨RX11, "fetch", "(III)Z"⟩
abbrev cX11_crosser : ByteArray := prog_1_method_5_code
def yX11_crosser : MethodName := ⟨RX11, "crosser", "(IIIIII)I"⟩
abbrev cX11_kind : ByteArray := prog_1_method_6_code
def yX11_kind : MethodName := ⟨RX11, "kind", "(III)Z"⟩
abbrev cX11_set : ByteArray := prog_1_method_7_code
def yX11_set : MethodName := ⟨RX11, "set", "(III)Z"⟩
abbrev cX11_feed : ByteArray := prog_1_method_8_code
def yX11_feed : MethodName := ⟨RX11, "feed", "(IIIII)I"⟩
abbrev cX11_end : ByteArray := prog_1_method_9_code
def yX11_end : MethodName := ⟨RX11, "end", "(I)Z"⟩
abbrev cX11_text : ByteArray := prog_1_method_10_code
def yX11_text : MethodName := ⟨RX11, "text", "()I"⟩
abbrev cX11_fault : ByteArray := prog_1_method_11_code
def yX11_fault : MethodName := ⟨RX11, "fault", "(I)I"⟩
abbrev cX11_hours : ByteArray := prog_1_method_12_code
def yX11_hours : MethodName := ⟨RX11, "hours", "(I)I"⟩
abbrev cX11_of : ByteArray := prog_1_method_13_code
def yX11_of : MethodName := ⟨RX11, "of", "(II)I"⟩
abbrev cX11_who : ByteArray := prog_1_method_14_code
def yX11_who : MethodName := ⟨RX11, "who", "(II)I"⟩
abbrev cX11_waits : ByteArray := prog_1_method_15_code
def yX11_waits : MethodName := ⟨RX11, "waits", "(II)I"⟩
abbrev cX11_book : ByteArray := prog_1_method_16_code
def yX11_book : MethodName := ⟨RX11, "book", "(II)I"⟩
abbrev cX11_over : ByteArray := prog_1_method_17_code
def yX11_over : MethodName := ⟨RX11, "over", "(II)I"⟩
abbrev cX11_back : ByteArray := prog_1_method_18_code
def yX11_back : MethodName := ⟨RX11, "back", "(I)I"⟩
abbrev cX11_gathers : ByteArray := prog_1_method_19_code
def yX11_gathers : MethodName := ⟨RX11, "gathers", "(III)I"⟩
abbrev cX11_best : ByteArray := prog_1_method_20_code
def yX11_best : MethodName := ⟨RX11, "best", "(IIIIII)I"⟩
abbrev cX11_send : ByteArray := prog_1_method_21_code
def yX11_send : MethodName := ⟨RX11, "send", "(IIIIII)I"⟩
abbrev cX11_offer : ByteArray := prog_1_method_22_code
def yX11_offer : MethodName := ⟨RX11, "offer", "(IIIII)I"⟩
abbrev cX11_fewest : ByteArray := prog_1_method_23_code
def yX11_fewest : MethodName := ⟨RX11, "fewest", "(IIII)I"⟩
abbrev cX11_right : ByteArray := prog_1_method_24_code
def yX11_right : MethodName := ⟨RX11, "right", "(I)I"⟩
abbrev cX11_list : ByteArray := prog_1_method_25_code
def yX11_list : MethodName := ⟨RX11, "list", "(III)Z"⟩
abbrev cX11_night : ByteArray := prog_1_method_26_code
def yX11_night : MethodName := ⟨RX11, "night", "(I)I"⟩
abbrev cX11_chance : ByteArray := prog_1_method_27_code
def yX11_chance : MethodName := ⟨RX11, "chance", "(IIII)J"⟩
abbrev cX11_image : ByteArray := prog_1_method_28_code
def yX11_image : MethodName := ⟨RX11, "image", "(Z)Z"⟩
abbrev cX11_look : ByteArray := prog_1_method_29_code
def yX11_look : MethodName := ⟨RX11, "look", "(I)I"⟩
abbrev cX11_isAhead : ByteArray := prog_1_method_30_code
def yX11_isAhead : MethodName := ⟨RX11, "isAhead", "(I)Z"⟩
abbrev cX11_isSpan : ByteArray := prog_1_method_31_code
def yX11_isSpan : MethodName := ⟨RX11, "isSpan", "(II)Z"⟩
abbrev cX11_isWalk : ByteArray := prog_1_method_32_code
def yX11_isWalk : MethodName := ⟨RX11, "isWalk", "(III)Z"⟩
abbrev cX11_think : ByteArray := prog_1_method_33_code
def yX11_think : MethodName := ⟨RX11, "think", "()V"⟩
abbrev cX11_arrival : ByteArray := prog_1_method_34_code
def yX11_arrival : MethodName := ⟨RX11, "arrival", "(IIII)I"⟩
abbrev cX11_isEnough : ByteArray := prog_1_method_35_code
def yX11_isEnough : MethodName := ⟨RX11, "isEnough", "(IIII)Z"⟩
abbrev cX11_goesWithLists : ByteArray := prog_1_method_36_code
def yX11_goesWithLists : MethodName := ⟨RX11, "goesWithLists", "(I)Z"⟩
def RX12 : String := "TakeOverModel"
def TX12 : u_T := fun k => match k with
  | 0 => ("TakeOverModel", "w", "[I", true)
  | 1 => ("TakeOverModel", "kept", "[I", true)
  | 2 => ("TakeOverModel", "before", "[I", true)
  | 3 => ("TakeOverModel", "hasImage", "Z", false)
  | 4 => ("TakeOverModel", "freshLine", "[I", true)
  | 5 => ("TakeOverModel", "freshStep", "[I", true)
  | 6 => ("TakeOverModel", "tape", "[I", true)
  | 7 => ("TakeOverModel", "pile", "[I", true)
  | 8 => ("TakeOverModel", "facts", "[I", true)
  | 9 => ("TakeOverModel", "lines", "I", false)
  | 10 => ("TakeOverModel", "steps", "I", false)
  | 11 => ("TakeOverModel", "taped", "I", false)
  | 12 => ("TakeOverModel", "at", "I", false)
  | 13 => ("TakeOverModel", "token", "I", false)
  | 14 => ("TakeOverModel", "tokenAt", "I", false)
  | 15 => ("TakeOverModel", "value", "I", false)
  | 16 => ("TakeOverModel", "wrong", "I", false)
  | 17 => ("TakeOverModel", "wrongAt", "I", false)
  | 18 => ("TakeOverModel", "faultKind", "I", false)
  | 19 => ("TakeOverModel", "depth", "I", false)
  | 20 => ("TakeOverModel", "faultPlace", "I", false)
  | 21 => ("TakeOverModel", "isThought", "Z", false)
  | 22 => ("TakeOverModel", "watched", "I", false)
  | 23 => ("TakeOverModel", "watchedEnd", "I", false)
  | 24 => ("TakeOverModel", "watchedHour", "I", false)
  | 25 => ("TakeOverModel", "leftOut", "I", false)
  | 26 => ("TakeOverModel", "hired", "I", false)
  | 27 => ("TakeOverModel", "heap", "[I", true)
  | 28 => ("TakeOverModel", "taken", "[I", true)
  | 29 => ("TakeOverModel", "heapMany", "I", false)
  | 30 => ("TakeOverModel", "takenMany", "I", false)
  | 31 => ("TakeOverModel", "borne", "I", false)
  | _ => ("TakeOverModel", "maybe", "[I", true)
def tyX12 : Nat → FieldType := fun k => match k with
  | 0 => .array .int
  | 1 => .array .int
  | 2 => .array .int
  | 3 => .boolean
  | 4 => .array .int
  | 5 => .array .int
  | 6 => .array .int
  | 7 => .array .int
  | 8 => .array .int
  | 9 => .int
  | 10 => .int
  | 11 => .int
  | 12 => .int
  | 13 => .int
  | 14 => .int
  | 15 => .int
  | 16 => .int
  | 17 => .int
  | 18 => .int
  | 19 => .int
  | 20 => .int
  | 21 => .boolean
  | 22 => .int
  | 23 => .int
  | 24 => .int
  | 25 => .int
  | 26 => .int
  | 27 => .array .int
  | 28 => .array .int
  | 29 => .int
  | 30 => .int
  | 31 => .int
  | _ => .array .int
abbrev wsX120 : List Cond := u_ws RX12 TX12 33
theorem nmX12 : ∀ a, a < 33 → ∀ b, b < 33 → a ≠ b → (TX12 a).2.1 ≠ (TX12 b).2.1 := by decide +kernel
theorem tyX12_ok : ∀ k, k < 33 → parseFieldDescriptor (TX12 k).2.2.1 = some (tyX12 k) := by decide +kernel
abbrev cX12_init : ByteArray := prog_14_method_1_code
def yX12_init : MethodName := ⟨RX12, "<init>", "()V"⟩
abbrev cX12_isIn : ByteArray := prog_14_method_2_code
def yX12_isIn : MethodName := ⟨RX12, "isIn", "(III)Z"⟩
abbrev cX12_bridges : ByteArray := prog_14_method_3_code
def yX12_bridges : MethodName := ⟨RX12, "bridges", "(I)Z"⟩
abbrev cX12_ofLoad : ByteArray := prog_14_method_4_code
def yX12_ofLoad : MethodName := ⟨RX12, "ofLoad", "(II)I"⟩
abbrev cX12_loads : ByteArray := prog_14_method_5_code
def yX12_loads : MethodName := ⟨RX12, "loads", "(III)V"⟩
abbrev cX12_ofOne : ByteArray := prog_14_method_6_code
def yX12_ofOne : MethodName := ⟨RX12, "ofOne", "(II)I"⟩
abbrev cX12_gives : ByteArray := prog_14_method_7_code
def yX12_gives : MethodName := ⟨RX12, "gives", "(III)V"⟩
abbrev cX12_isLoad : ByteArray := prog_14_method_8_code
def yX12_isLoad : MethodName := ⟨RX12, "isLoad", "(I)Z"⟩
abbrev cX12_isOne : ByteArray := prog_14_method_9_code
def yX12_isOne : MethodName := ⟨RX12, "isOne", "(I)Z"⟩
abbrev cX12_isEnd : ByteArray := prog_14_method_10_code
def yX12_isEnd : MethodName := ⟨RX12, "isEnd", "(I)Z"⟩
abbrev cX12_isHour : ByteArray := prog_14_method_11_code
def yX12_isHour : MethodName := ⟨RX12, "isHour", "(I)Z"⟩
abbrev cX12_newLoad : ByteArray := prog_14_method_12_code
def yX12_newLoad : MethodName := ⟨RX12, "newLoad", "(III)V"⟩
abbrev cX12_load : ByteArray := prog_14_method_13_code
def yX12_load : MethodName := ⟨RX12, "load", "(III)I"⟩
abbrev cX12_fetch : ByteArray := prog_14_method_14_code
def yX12_fetch : MethodName := ⟨RX12, "fetch", "(III)Z"⟩
abbrev cX12_isCrossing : ByteArray := prog_14_method_15_code
def yX12_isCrossing : MethodName := ⟨RX12, "isCrossing", "(III)Z"⟩
abbrev cX12_crosser : ByteArray := prog_14_method_16_code
def yX12_crosser : MethodName := ⟨RX12, "crosser", "(IIIIII)I"⟩
abbrev cX12_kind : ByteArray := prog_14_method_17_code
def yX12_kind : MethodName := ⟨RX12, "kind", "(III)Z"⟩
abbrev cX12_set : ByteArray := prog_14_method_18_code
def yX12_set : MethodName := ⟨RX12, "set", "(III)Z"⟩
abbrev cX12_feed : ByteArray := prog_14_method_19_code
def yX12_feed : MethodName := ⟨RX12, "feed", "(IIIII)I"⟩
abbrev cX12_end : ByteArray := prog_14_method_20_code
def yX12_end : MethodName := ⟨RX12, "end", "(I)Z"⟩
abbrev cX12_see : ByteArray := prog_14_method_21_code
def yX12_see : MethodName := ⟨RX12, "see", "(I)I"⟩
abbrev cX12_isLetter : ByteArray := prog_14_method_22_code
def yX12_isLetter : MethodName := ⟨RX12, "isLetter", "(I)Z"⟩
abbrev cX12_isDigit : ByteArray := prog_14_method_23_code
def yX12_isDigit : MethodName := ⟨RX12, "isDigit", "(I)Z"⟩
abbrev cX12_is : ByteArray := prog_14_method_24_code
def yX12_is : MethodName := ⟨RX12, "is", "(Ljava/lang/String;)Z"⟩
abbrev cX12_nameWord : ByteArray := prog_14_method_25_code
def yX12_nameWord : MethodName := ⟨RX12, "nameWord", "()I"⟩
abbrev cX12_word : ByteArray := prog_14_method_26_code
def yX12_word : MethodName := ⟨RX12, "word", "()I"⟩
abbrev cX12_next0 : ByteArray := prog_14_method_27_code
def yX12_next0 : MethodName := ⟨RX12, "next0", "()V"⟩
abbrev cX12_bad : ByteArray := prog_14_method_28_code
def yX12_bad : MethodName := ⟨RX12, "bad", "(I)Z"⟩
abbrev cX12_need : ByteArray := prog_14_method_29_code
def yX12_need : MethodName := ⟨RX12, "need", "(I)Z"⟩
abbrev cX12_lay : ByteArray := prog_14_method_30_code
def yX12_lay : MethodName := ⟨RX12, "lay", "(II)V"⟩
abbrev cX12_opens : ByteArray := prog_14_method_31_code
def yX12_opens : MethodName := ⟨RX12, "opens", "()Z"⟩
abbrev cX12_sumUp : ByteArray := prog_14_method_32_code
def yX12_sumUp : MethodName := ⟨RX12, "sumUp", "()Z"⟩
abbrev cX12_product : ByteArray := prog_14_method_33_code
def yX12_product : MethodName := ⟨RX12, "product", "()Z"⟩
abbrev cX12_unit : ByteArray := prog_14_method_34_code
def yX12_unit : MethodName := ⟨RX12, "unit", "()Z"⟩
abbrev cX12_any : ByteArray := prog_14_method_35_code
def yX12_any : MethodName := ⟨RX12, "any", "()Z"⟩
abbrev cX12_every : ByteArray := prog_14_method_36_code
def yX12_every : MethodName := ⟨RX12, "every", "()Z"⟩
abbrev cX12_oneTest : ByteArray := prog_14_method_37_code
def yX12_oneTest : MethodName := ⟨RX12, "oneTest", "()Z"⟩
abbrev cX12_aLine : ByteArray := prog_14_method_38_code
def yX12_aLine : MethodName := ⟨RX12, "aLine", "()Z"⟩
abbrev cX12_text : ByteArray := prog_14_method_39_code
def yX12_text : MethodName := ⟨RX12, "text", "()I"⟩
abbrev cX12_fault : ByteArray := prog_14_method_40_code
def yX12_fault : MethodName := ⟨RX12, "fault", "(I)I"⟩
abbrev cX12_both : ByteArray := prog_14_method_41_code
def yX12_both : MethodName := ⟨RX12, "both", "(III)I"⟩
abbrev cX12_comesTo : ByteArray := prog_14_method_42_code
def yX12_comesTo : MethodName := ⟨RX12, "comesTo", "(II)I"⟩
abbrev cX12_comes : ByteArray := prog_14_method_43_code
def yX12_comes : MethodName := ⟨RX12, "comes", "(III)V"⟩
abbrev cX12_isThere : ByteArray := prog_14_method_44_code
def yX12_isThere : MethodName := ⟨RX12, "isThere", "(II)Z"⟩
abbrev cX12_laysHeap : ByteArray := prog_14_method_45_code
def yX12_laysHeap : MethodName := ⟨RX12, "laysHeap", "(I)V"⟩
abbrev cX12_isTaken : ByteArray := prog_14_method_46_code
def yX12_isTaken : MethodName := ⟨RX12, "isTaken", "(IIII)Z"⟩
abbrev cX12_takes : ByteArray := prog_14_method_47_code
def yX12_takes : MethodName := ⟨RX12, "takes", "(IIII)I"⟩
abbrev cX12_writes : ByteArray := prog_14_method_48_code
def yX12_writes : MethodName := ⟨RX12, "writes", "(III)V"⟩
abbrev cX12_setsDown : ByteArray := prog_14_method_49_code
def yX12_setsDown : MethodName := ⟨RX12, "setsDown", "(III)V"⟩
abbrev cX12_crosses : ByteArray := prog_14_method_50_code
def yX12_crosses : MethodName := ⟨RX12, "crosses", "(II)V"⟩
abbrev cX12_mayCross : ByteArray := prog_14_method_51_code
def yX12_mayCross : MethodName := ⟨RX12, "mayCross", "(I)Z"⟩
abbrev cX12_isBare : ByteArray := prog_14_method_52_code
def yX12_isBare : MethodName := ⟨RX12, "isBare", "(I)Z"⟩
abbrev cX12_goesNow : ByteArray := prog_14_method_53_code
def yX12_goesNow : MethodName := ⟨RX12, "goesNow", "(II)Z"⟩
abbrev cX12_anHour : ByteArray := prog_14_method_54_code
def yX12_anHour : MethodName := ⟨RX12, "anHour", "()V"⟩
abbrev cX12_hours : ByteArray := prog_14_method_55_code
def yX12_hours : MethodName := ⟨RX12, "hours", "(I)I"⟩
abbrev cX12_of : ByteArray := prog_14_method_56_code
def yX12_of : MethodName := ⟨RX12, "of", "(II)I"⟩
abbrev cX12_who : ByteArray := prog_14_method_57_code
def yX12_who : MethodName := ⟨RX12, "who", "(II)I"⟩
abbrev cX12_waits : ByteArray := prog_14_method_58_code
def yX12_waits : MethodName := ⟨RX12, "waits", "(II)I"⟩
abbrev cX12_book : ByteArray := prog_14_method_59_code
def yX12_book : MethodName := ⟨RX12, "book", "(II)I"⟩
abbrev cX12_begins : ByteArray := prog_14_method_60_code
def yX12_begins : MethodName := ⟨RX12, "begins", "()V"⟩
abbrev cX12_comesBack : ByteArray := prog_14_method_61_code
def yX12_comesBack : MethodName := ⟨RX12, "comesBack", "()V"⟩
abbrev cX12_watches : ByteArray := prog_14_method_62_code
def yX12_watches : MethodName := ⟨RX12, "watches", "(II)V"⟩
abbrev cX12_over : ByteArray := prog_14_method_63_code
def yX12_over : MethodName := ⟨RX12, "over", "(II)I"⟩
abbrev cX12_back : ByteArray := prog_14_method_64_code
def yX12_back : MethodName := ⟨RX12, "back", "(I)I"⟩
abbrev cX12_gathers : ByteArray := prog_14_method_65_code
def yX12_gathers : MethodName := ⟨RX12, "gathers", "(III)I"⟩
abbrev cX12_areHours : ByteArray := prog_14_method_66_code
def yX12_areHours : MethodName := ⟨RX12, "areHours", "(II)Z"⟩
abbrev cX12_best : ByteArray := prog_14_method_67_code
def yX12_best : MethodName := ⟨RX12, "best", "(IIIIII)I"⟩
abbrev cX12_send : ByteArray := prog_14_method_68_code
def yX12_send : MethodName := ⟨RX12, "send", "(IIIIII)I"⟩
abbrev cX12_offer : ByteArray := prog_14_method_69_code
def yX12_offer : MethodName := ⟨RX12, "offer", "(IIIII)I"⟩
abbrev cX12_count : ByteArray := prog_14_method_70_code
def yX12_count : MethodName := ⟨RX12, "count", "(I)I"⟩
abbrev cX12_priceOf : ByteArray := prog_14_method_71_code
def yX12_priceOf : MethodName := ⟨RX12, "priceOf", "(I)I"⟩
abbrev cX12_brings : ByteArray := prog_14_method_72_code
def yX12_brings : MethodName := ⟨RX12, "brings", "(IIII)Z"⟩
abbrev cX12_fewest : ByteArray := prog_14_method_73_code
def yX12_fewest : MethodName := ⟨RX12, "fewest", "(IIII)I"⟩
abbrev cX12_right : ByteArray := prog_14_method_74_code
def yX12_right : MethodName := ⟨RX12, "right", "(I)I"⟩
abbrev cX12_list : ByteArray := prog_14_method_75_code
def yX12_list : MethodName := ⟨RX12, "list", "(III)Z"⟩
abbrev cX12_setAt : ByteArray := prog_14_method_76_code
def yX12_setAt : MethodName := ⟨RX12, "setAt", "(I)I"⟩
abbrev cX12_goWith : ByteArray := prog_14_method_77_code
def yX12_goWith : MethodName := ⟨RX12, "goWith", "(I)Z"⟩
abbrev cX12_night : ByteArray := prog_14_method_78_code
def yX12_night : MethodName := ⟨RX12, "night", "(I)I"⟩
abbrev cX12_chance : ByteArray := prog_14_method_79_code
def yX12_chance : MethodName := ⟨RX12, "chance", "(IIII)J"⟩
abbrev cX12_image : ByteArray := prog_14_method_80_code
def yX12_image : MethodName := ⟨RX12, "image", "(Z)Z"⟩
abbrev cX12_look : ByteArray := prog_14_method_81_code
def yX12_look : MethodName := ⟨RX12, "look", "(I)I"⟩
def RJx145de : String := "java/io/Serializable"
def TJx145de : u_T := fun k => match k with
  | _ => ("", "", "", false)
def tyJx145de : Nat → FieldType := fun k => match k with
  | _ => .int
abbrev wsJx145de0 : List Cond := u_ws RJx145de TJx145de 0
theorem nmJx145de : ∀ a, a < 0 → ∀ b, b < 0 → a ≠ b → (TJx145de a).2.1 ≠ (TJx145de b).2.1 := by decide +kernel
theorem tyJx145de_ok : ∀ k, k < 0 → parseFieldDescriptor (TJx145de k).2.2.1 = some (tyJx145de k) := by decide +kernel
def RJx9f9b0 : String := "java/lang/CharSequence"
def TJx9f9b0 : u_T := fun k => match k with
  | _ => ("", "", "", false)
def tyJx9f9b0 : Nat → FieldType := fun k => match k with
  | _ => .int
abbrev wsJx9f9b00 : List Cond := u_ws RJx9f9b0 TJx9f9b0 0
theorem nmJx9f9b0 : ∀ a, a < 0 → ∀ b, b < 0 → a ≠ b → (TJx9f9b0 a).2.1 ≠ (TJx9f9b0 b).2.1 := by decide +kernel
theorem tyJx9f9b0_ok : ∀ k, k < 0 → parseFieldDescriptor (TJx9f9b0 k).2.2.1 = some (tyJx9f9b0 k) := by decide +kernel
def RJxb160c : String := "java/lang/Comparable"
def TJxb160c : u_T := fun k => match k with
  | _ => ("", "", "", false)
def tyJxb160c : Nat → FieldType := fun k => match k with
  | _ => .int
abbrev wsJxb160c0 : List Cond := u_ws RJxb160c TJxb160c 0
theorem nmJxb160c : ∀ a, a < 0 → ∀ b, b < 0 → a ≠ b → (TJxb160c a).2.1 ≠ (TJxb160c b).2.1 := by decide +kernel
theorem tyJxb160c_ok : ∀ k, k < 0 → parseFieldDescriptor (TJxb160c k).2.2.1 = some (tyJxb160c k) := by decide +kernel
def RJ6 : String := "java/lang/Integer"
def TJ6 : u_T := fun k => match k with
  | _ => ("", "", "", false)
def tyJ6 : Nat → FieldType := fun k => match k with
  | _ => .int
abbrev wsJ60 : List Cond := u_ws RJ6 TJ6 0
theorem nmJ6 : ∀ a, a < 0 → ∀ b, b < 0 → a ≠ b → (TJ6 a).2.1 ≠ (TJ6 b).2.1 := by decide +kernel
theorem tyJ6_ok : ∀ k, k < 0 → parseFieldDescriptor (TJ6 k).2.2.1 = some (tyJ6 k) := by decide +kernel
abbrev cJ6_bitCount_0f7a4 : ByteArray := prog_15_method_49_code
def yJ6_bitCount_0f7a4 : MethodName := ⟨RJ6, "bitCount", "(I)I"⟩
def RJ9 : String := "java/lang/Math"
def TJ9 : u_T := fun k => match k with
  | _ => ("", "", "", false)
def tyJ9 : Nat → FieldType := fun k => match k with
  | _ => .int
abbrev wsJ90 : List Cond := u_ws RJ9 TJ9 0
theorem nmJ9 : ∀ a, a < 0 → ∀ b, b < 0 → a ≠ b → (TJ9 a).2.1 ≠ (TJ9 b).2.1 := by decide +kernel
theorem tyJ9_ok : ∀ k, k < 0 → parseFieldDescriptor (TJ9 k).2.2.1 = some (tyJ9 k) := by decide +kernel
abbrev cJ9_max_7cf53 : ByteArray := prog_16_method_65_code
def yJ9_max_7cf53 : MethodName := ⟨RJ9, "max", "(II)I"⟩
abbrev cJ9_min_7cf53 : ByteArray := prog_16_method_69_code
def yJ9_min_7cf53 : MethodName := ⟨RJ9, "min", "(II)I"⟩
def RJ0 : String := "java/lang/String"
def TJ0 : u_T := fun k => match k with
  | _ => ("", "", "", false)
def tyJ0 : Nat → FieldType := fun k => match k with
  | _ => .int
abbrev wsJ00 : List Cond := u_ws RJ0 TJ0 0
theorem nmJ0 : ∀ a, a < 0 → ∀ b, b < 0 → a ≠ b → (TJ0 a).2.1 ≠ (TJ0 b).2.1 := by decide +kernel
theorem tyJ0_ok : ∀ k, k < 0 → parseFieldDescriptor (TJ0 k).2.2.1 = some (tyJ0 k) := by decide +kernel
abbrev cJ0_length_8abf5 : ByteArray := prog_17_method_54_code
def yJ0_length_8abf5 : MethodName := ⟨RJ0, "length", "()I"⟩
abbrev cJ0_charAt_5068e : ByteArray := prog_17_method_56_code
def yJ0_charAt_5068e : MethodName := ⟨RJ0, "charAt", "(I)C"⟩
abbrev cJ0_coder_7d493 : ByteArray := prog_17_method_152_code
def yJ0_coder_7d493 : MethodName := ⟨RJ0, "coder", "()B"⟩
abbrev cJ0_isLatin1_aae02 : ByteArray := prog_17_method_154_code
def yJ0_isLatin1_aae02 : MethodName := ⟨RJ0, "isLatin1", "()Z"⟩
abbrev cJ0_checkIndex_df160 : ByteArray := prog_17_method_155_code
def yJ0_checkIndex_df160 : MethodName := ⟨RJ0, "checkIndex", "(II)V"⟩
def RJ1 : String := "java/lang/StringLatin1"
def TJ1 : u_T := fun k => match k with
  | _ => ("", "", "", false)
def tyJ1 : Nat → FieldType := fun k => match k with
  | _ => .int
abbrev wsJ10 : List Cond := u_ws RJ1 TJ1 0
theorem nmJ1 : ∀ a, a < 0 → ∀ b, b < 0 → a ≠ b → (TJ1 a).2.1 ≠ (TJ1 b).2.1 := by decide +kernel
theorem tyJ1_ok : ∀ k, k < 0 → parseFieldDescriptor (TJ1 k).2.2.1 = some (tyJ1 k) := by decide +kernel
abbrev cJ1_charAt_3b067 : ByteArray := prog_18_method_2_code
def yJ1_charAt_3b067 : MethodName := ⟨RJ1, "charAt", "([BI)C"⟩
def RJ2 : String := "java/lang/StringUTF16"
def TJ2 : u_T := fun k => match k with
  | _ => ("", "", "", false)
def tyJ2 : Nat → FieldType := fun k => match k with
  | _ => .int
abbrev wsJ20 : List Cond := u_ws RJ2 TJ2 0
theorem nmJ2 : ∀ a, a < 0 → ∀ b, b < 0 → a ≠ b → (TJ2 a).2.1 ≠ (TJ2 b).2.1 := by decide +kernel
theorem tyJ2_ok : ∀ k, k < 0 → parseFieldDescriptor (TJ2 k).2.2.1 = some (tyJ2 k) := by decide +kernel
abbrev cJ2_getChar_3b067 : ByteArray := prog_19_method_5_code
def yJ2_getChar_3b067 : MethodName := ⟨RJ2, "getChar", "([BI)C"⟩
abbrev cJ2_length_9d52b : ByteArray := prog_19_method_6_code
def yJ2_length_9d52b : MethodName := ⟨RJ2, "length", "([B)I"⟩
abbrev cJ2_charAt_3b067 : ByteArray := prog_19_method_83_code
def yJ2_charAt_3b067 : MethodName := ⟨RJ2, "charAt", "([BI)C"⟩
abbrev cJ2_checkIndex_2214a : ByteArray := prog_19_method_91_code
def yJ2_checkIndex_2214a : MethodName := ⟨RJ2, "checkIndex", "(I[B)V"⟩
def RJ10 : String := "java/lang/System"
def TJ10 : u_T := fun k => match k with
  | _ => ("", "", "", false)
def tyJ10 : Nat → FieldType := fun k => match k with
  | _ => .int
abbrev wsJ100 : List Cond := u_ws RJ10 TJ10 0
theorem nmJ10 : ∀ a, a < 0 → ∀ b, b < 0 → a ≠ b → (TJ10 a).2.1 ≠ (TJ10 b).2.1 := by decide +kernel
theorem tyJ10_ok : ∀ k, k < 0 → parseFieldDescriptor (TJ10 k).2.2.1 = some (tyJ10 k) := by decide +kernel
def RJxfd54e : String := "java/lang/constant/Constable"
def TJxfd54e : u_T := fun k => match k with
  | _ => ("", "", "", false)
def tyJxfd54e : Nat → FieldType := fun k => match k with
  | _ => .int
abbrev wsJxfd54e0 : List Cond := u_ws RJxfd54e TJxfd54e 0
theorem nmJxfd54e : ∀ a, a < 0 → ∀ b, b < 0 → a ≠ b → (TJxfd54e a).2.1 ≠ (TJxfd54e b).2.1 := by decide +kernel
theorem tyJxfd54e_ok : ∀ k, k < 0 → parseFieldDescriptor (TJxfd54e k).2.2.1 = some (tyJxfd54e k) := by decide +kernel
def RJx3cf43 : String := "java/lang/constant/ConstantDesc"
def TJx3cf43 : u_T := fun k => match k with
  | _ => ("", "", "", false)
def tyJx3cf43 : Nat → FieldType := fun k => match k with
  | _ => .int
abbrev wsJx3cf430 : List Cond := u_ws RJx3cf43 TJx3cf43 0
theorem nmJx3cf43 : ∀ a, a < 0 → ∀ b, b < 0 → a ≠ b → (TJx3cf43 a).2.1 ≠ (TJx3cf43 b).2.1 := by decide +kernel
theorem tyJx3cf43_ok : ∀ k, k < 0 → parseFieldDescriptor (TJx3cf43 k).2.2.1 = some (tyJx3cf43 k) := by decide +kernel
def RJ7 : String := "java/util/Arrays"
def TJ7 : u_T := fun k => match k with
  | _ => ("", "", "", false)
def tyJ7 : Nat → FieldType := fun k => match k with
  | _ => .int
abbrev wsJ70 : List Cond := u_ws RJ7 TJ7 0
theorem nmJ7 : ∀ a, a < 0 → ∀ b, b < 0 → a ≠ b → (TJ7 a).2.1 ≠ (TJ7 b).2.1 := by decide +kernel
theorem tyJ7_ok : ∀ k, k < 0 → parseFieldDescriptor (TJ7 k).2.2.1 = some (tyJ7 k) := by decide +kernel
abbrev cJ7_fill_53178 : ByteArray := prog_21_method_103_code
def yJ7_fill_53178 : MethodName := ⟨RJ7, "fill", "([II)V"⟩
def RJ3 : String := "jdk/internal/util/Preconditions"
def TJ3 : u_T := fun k => match k with
  | _ => ("", "", "", false)
def tyJ3 : Nat → FieldType := fun k => match k with
  | _ => .int
abbrev wsJ30 : List Cond := u_ws RJ3 TJ3 0
theorem nmJ3 : ∀ a, a < 0 → ∀ b, b < 0 → a ≠ b → (TJ3 a).2.1 ≠ (TJ3 b).2.1 := by decide +kernel
theorem tyJ3_ok : ∀ k, k < 0 → parseFieldDescriptor (TJ3 k).2.2.1 = some (tyJ3 k) := by decide +kernel
abbrev cJ3_checkIndex_8e157 : ByteArray := prog_22_method_11_code
def yJ3_checkIndex_8e157 : MethodName := ⟨RJ3, "checkIndex", "(IILjava/util/function/BiFunction;)I"⟩
def RL : String := "TakeOverLaw"
abbrev cL_law : ByteArray := code
def yL_law : MethodName := ⟨RL, "law", "([I)Z"⟩
abbrev vwCl : List vw_C := [(RX0, TX0, 4), (RX1, TX1, 16), (RX2, TX2, 10), (RX3, TX3, 6), (RX4, TX4, 4), (RX5, TX5, 6), (RX6, TX6, 6), (RX7, TX7, 5), (RX8, TX8, 15), (RX9, TX9, 11), (RX10, TX10, 8), (RX11, TX11, 10), (RX12, TX12, 33)]
end
section
theorem dX0_init_0 : decode cX0_init 0 = .ok (.aload_n 0, 1) := by decide +kernel
theorem dX0_init_1 : decode cX0_init 1 = .ok (.invokespecial 3, 3) := by decide +kernel
theorem dX0_init_4 : decode cX0_init 4 = .ok (.aload_n 0, 1) := by decide +kernel
theorem dX0_init_5 : decode cX0_init 5 = .ok (.sipush 300, 3) := by decide +kernel
theorem dX0_init_8 : decode cX0_init 8 = .ok (.newarray .int, 2) := by decide +kernel
theorem dX0_init_10 : decode cX0_init 10 = .ok (.putfield 9, 3) := by decide +kernel
theorem dX0_init_13 : decode cX0_init 13 = .ok (.aload_n 0, 1) := by decide +kernel
theorem dX0_init_14 : decode cX0_init 14 = .ok (.sipush 300, 3) := by decide +kernel
theorem dX0_init_17 : decode cX0_init 17 = .ok (.newarray .int, 2) := by decide +kernel
theorem dX0_init_19 : decode cX0_init 19 = .ok (.putfield 15, 3) := by decide +kernel
theorem dX0_init_22 : decode cX0_init 22 = .ok (.aload_n 0, 1) := by decide +kernel
theorem dX0_init_23 : decode cX0_init 23 = .ok (.sipush 300, 3) := by decide +kernel
theorem dX0_init_26 : decode cX0_init 26 = .ok (.newarray .int, 2) := by decide +kernel
theorem dX0_init_28 : decode cX0_init 28 = .ok (.putfield 18, 3) := by decide +kernel
theorem dX0_init_31 : decode cX0_init 31 = .ok (.return_, 1) := by decide +kernel
theorem dX0_write_0 : decode cX0_write 0 = .ok (.aload_n 0, 1) := by decide +kernel
theorem dX0_write_1 : decode cX0_write 1 = .ok (.getfield 21, 3) := by decide +kernel
theorem dX0_write_4 : decode cX0_write 4 = .ok (.sipush 300, 3) := by decide +kernel
theorem dX0_write_7 : decode cX0_write 7 = .ok (.if_icmp .ge 43, 3) := by decide +kernel
theorem dX0_write_10 : decode cX0_write 10 = .ok (.aload_n 0, 1) := by decide +kernel
theorem dX0_write_11 : decode cX0_write 11 = .ok (.getfield 9, 3) := by decide +kernel
theorem dX0_write_14 : decode cX0_write 14 = .ok (.aload_n 0, 1) := by decide +kernel
theorem dX0_write_15 : decode cX0_write 15 = .ok (.getfield 21, 3) := by decide +kernel
theorem dX0_write_18 : decode cX0_write 18 = .ok (.iload_n 1, 1) := by decide +kernel
theorem dX0_write_19 : decode cX0_write 19 = .ok (.iastore, 1) := by decide +kernel
theorem dX0_write_20 : decode cX0_write 20 = .ok (.aload_n 0, 1) := by decide +kernel
theorem dX0_write_21 : decode cX0_write 21 = .ok (.getfield 15, 3) := by decide +kernel
theorem dX0_write_24 : decode cX0_write 24 = .ok (.aload_n 0, 1) := by decide +kernel
theorem dX0_write_25 : decode cX0_write 25 = .ok (.getfield 21, 3) := by decide +kernel
theorem dX0_write_28 : decode cX0_write 28 = .ok (.iload_n 2, 1) := by decide +kernel
theorem dX0_write_29 : decode cX0_write 29 = .ok (.iastore, 1) := by decide +kernel
theorem dX0_write_30 : decode cX0_write 30 = .ok (.aload_n 0, 1) := by decide +kernel
theorem dX0_write_31 : decode cX0_write 31 = .ok (.getfield 18, 3) := by decide +kernel
theorem dX0_write_34 : decode cX0_write 34 = .ok (.aload_n 0, 1) := by decide +kernel
theorem dX0_write_35 : decode cX0_write 35 = .ok (.getfield 21, 3) := by decide +kernel
theorem dX0_write_38 : decode cX0_write 38 = .ok (.iload_n 3, 1) := by decide +kernel
theorem dX0_write_39 : decode cX0_write 39 = .ok (.iastore, 1) := by decide +kernel
theorem dX0_write_40 : decode cX0_write 40 = .ok (.aload_n 0, 1) := by decide +kernel
theorem dX0_write_41 : decode cX0_write 41 = .ok (.dup, 1) := by decide +kernel
theorem dX0_write_42 : decode cX0_write 42 = .ok (.getfield 21, 3) := by decide +kernel
theorem dX0_write_45 : decode cX0_write 45 = .ok (.iconst 1, 1) := by decide +kernel
theorem dX0_write_46 : decode cX0_write 46 = .ok (.iadd, 1) := by decide +kernel
theorem dX0_write_47 : decode cX0_write 47 = .ok (.putfield 21, 3) := by decide +kernel
theorem dX0_write_50 : decode cX0_write 50 = .ok (.return_, 1) := by decide +kernel
theorem dX0_copyFrom_0 : decode cX0_copyFrom 0 = .ok (.aload_n 1, 1) := by decide +kernel
theorem dX0_copyFrom_1 : decode cX0_copyFrom 1 = .ok (.getfield 9, 3) := by decide +kernel
theorem dX0_copyFrom_4 : decode cX0_copyFrom 4 = .ok (.iconst 0, 1) := by decide +kernel
theorem dX0_copyFrom_5 : decode cX0_copyFrom 5 = .ok (.aload_n 0, 1) := by decide +kernel
theorem dX0_copyFrom_6 : decode cX0_copyFrom 6 = .ok (.getfield 9, 3) := by decide +kernel
theorem dX0_copyFrom_9 : decode cX0_copyFrom 9 = .ok (.iconst 0, 1) := by decide +kernel
theorem dX0_copyFrom_10 : decode cX0_copyFrom 10 = .ok (.sipush 300, 3) := by decide +kernel
theorem dX0_copyFrom_13 : decode cX0_copyFrom 13 = .ok (.invokestatic 25, 3) := by decide +kernel
theorem dX0_copyFrom_16 : decode cX0_copyFrom 16 = .ok (.aload_n 1, 1) := by decide +kernel
theorem dX0_copyFrom_17 : decode cX0_copyFrom 17 = .ok (.getfield 15, 3) := by decide +kernel
theorem dX0_copyFrom_20 : decode cX0_copyFrom 20 = .ok (.iconst 0, 1) := by decide +kernel
theorem dX0_copyFrom_21 : decode cX0_copyFrom 21 = .ok (.aload_n 0, 1) := by decide +kernel
theorem dX0_copyFrom_22 : decode cX0_copyFrom 22 = .ok (.getfield 15, 3) := by decide +kernel
theorem dX0_copyFrom_25 : decode cX0_copyFrom 25 = .ok (.iconst 0, 1) := by decide +kernel
theorem dX0_copyFrom_26 : decode cX0_copyFrom 26 = .ok (.sipush 300, 3) := by decide +kernel
theorem dX0_copyFrom_29 : decode cX0_copyFrom 29 = .ok (.invokestatic 25, 3) := by decide +kernel
theorem dX0_copyFrom_32 : decode cX0_copyFrom 32 = .ok (.aload_n 1, 1) := by decide +kernel
theorem dX0_copyFrom_33 : decode cX0_copyFrom 33 = .ok (.getfield 18, 3) := by decide +kernel
theorem dX0_copyFrom_36 : decode cX0_copyFrom 36 = .ok (.iconst 0, 1) := by decide +kernel
theorem dX0_copyFrom_37 : decode cX0_copyFrom 37 = .ok (.aload_n 0, 1) := by decide +kernel
theorem dX0_copyFrom_38 : decode cX0_copyFrom 38 = .ok (.getfield 18, 3) := by decide +kernel
theorem dX0_copyFrom_41 : decode cX0_copyFrom 41 = .ok (.iconst 0, 1) := by decide +kernel
theorem dX0_copyFrom_42 : decode cX0_copyFrom 42 = .ok (.sipush 300, 3) := by decide +kernel
theorem dX0_copyFrom_45 : decode cX0_copyFrom 45 = .ok (.invokestatic 25, 3) := by decide +kernel
theorem dX0_copyFrom_48 : decode cX0_copyFrom 48 = .ok (.aload_n 0, 1) := by decide +kernel
theorem dX0_copyFrom_49 : decode cX0_copyFrom 49 = .ok (.aload_n 1, 1) := by decide +kernel
theorem dX0_copyFrom_50 : decode cX0_copyFrom 50 = .ok (.getfield 21, 3) := by decide +kernel
theorem dX0_copyFrom_53 : decode cX0_copyFrom 53 = .ok (.putfield 21, 3) := by decide +kernel
theorem dX0_copyFrom_56 : decode cX0_copyFrom 56 = .ok (.return_, 1) := by decide +kernel
theorem dX1_init_0 : decode cX1_init 0 = .ok (.aload_n 0, 1) := by decide +kernel
theorem dX1_init_1 : decode cX1_init 1 = .ok (.invokespecial 3, 3) := by decide +kernel
theorem dX1_init_4 : decode cX1_init 4 = .ok (.aload_n 0, 1) := by decide +kernel
theorem dX1_init_5 : decode cX1_init 5 = .ok (.new 9, 3) := by decide +kernel
theorem dX1_init_8 : decode cX1_init 8 = .ok (.dup, 1) := by decide +kernel
theorem dX1_init_9 : decode cX1_init 9 = .ok (.invokespecial 11, 3) := by decide +kernel
theorem dX1_init_12 : decode cX1_init 12 = .ok (.putfield 12, 3) := by decide +kernel
theorem dX1_init_15 : decode cX1_init 15 = .ok (.aload_n 0, 1) := by decide +kernel
theorem dX1_init_16 : decode cX1_init 16 = .ok (.bipush 30, 2) := by decide +kernel
theorem dX1_init_18 : decode cX1_init 18 = .ok (.newarray .int, 2) := by decide +kernel
theorem dX1_init_20 : decode cX1_init 20 = .ok (.putfield 18, 3) := by decide +kernel
theorem dX1_init_23 : decode cX1_init 23 = .ok (.aload_n 0, 1) := by decide +kernel
theorem dX1_init_24 : decode cX1_init 24 = .ok (.bipush 7, 2) := by decide +kernel
theorem dX1_init_26 : decode cX1_init 26 = .ok (.newarray .int, 2) := by decide +kernel
theorem dX1_init_28 : decode cX1_init 28 = .ok (.putfield 22, 3) := by decide +kernel
theorem dX1_init_31 : decode cX1_init 31 = .ok (.aload_n 0, 1) := by decide +kernel
theorem dX1_init_32 : decode cX1_init 32 = .ok (.aload_n 1, 1) := by decide +kernel
theorem dX1_init_33 : decode cX1_init 33 = .ok (.putfield 25, 3) := by decide +kernel
theorem dX1_init_36 : decode cX1_init 36 = .ok (.aload_n 0, 1) := by decide +kernel
theorem dX1_init_37 : decode cX1_init 37 = .ok (.aload_n 2, 1) := by decide +kernel
theorem dX1_init_38 : decode cX1_init 38 = .ok (.putfield 29, 3) := by decide +kernel
theorem dX1_init_41 : decode cX1_init 41 = .ok (.aload_n 0, 1) := by decide +kernel
theorem dX1_init_42 : decode cX1_init 42 = .ok (.aload_n 3, 1) := by decide +kernel
theorem dX1_init_43 : decode cX1_init 43 = .ok (.putfield 33, 3) := by decide +kernel
theorem dX1_init_46 : decode cX1_init 46 = .ok (.return_, 1) := by decide +kernel
theorem dX1_begin_0 : decode cX1_begin 0 = .ok (.aload_n 0, 1) := by decide +kernel
theorem dX1_begin_1 : decode cX1_begin 1 = .ok (.aload_n 1, 1) := by decide +kernel
theorem dX1_begin_2 : decode cX1_begin 2 = .ok (.putfield 33, 3) := by decide +kernel
theorem dX1_begin_5 : decode cX1_begin 5 = .ok (.aload_n 0, 1) := by decide +kernel
theorem dX1_begin_6 : decode cX1_begin 6 = .ok (.iconst 0, 1) := by decide +kernel
theorem dX1_begin_7 : decode cX1_begin 7 = .ok (.putfield 37, 3) := by decide +kernel
theorem dX1_begin_10 : decode cX1_begin 10 = .ok (.aload_n 0, 1) := by decide +kernel
theorem dX1_begin_11 : decode cX1_begin 11 = .ok (.aload_n 0, 1) := by decide +kernel
theorem dX1_begin_12 : decode cX1_begin 12 = .ok (.getfield 25, 3) := by decide +kernel
theorem dX1_begin_15 : decode cX1_begin 15 = .ok (.getfield 41, 3) := by decide +kernel
theorem dX1_begin_18 : decode cX1_begin 18 = .ok (.putfield 47, 3) := by decide +kernel
theorem dX1_begin_21 : decode cX1_begin 21 = .ok (.aload_n 0, 1) := by decide +kernel
theorem dX1_begin_22 : decode cX1_begin 22 = .ok (.iconst 0, 1) := by decide +kernel
theorem dX1_begin_23 : decode cX1_begin 23 = .ok (.putfield 48, 3) := by decide +kernel
theorem dX1_begin_26 : decode cX1_begin 26 = .ok (.aload_n 0, 1) := by decide +kernel
theorem dX1_begin_27 : decode cX1_begin 27 = .ok (.iconst 0, 1) := by decide +kernel
theorem dX1_begin_28 : decode cX1_begin 28 = .ok (.putfield 51, 3) := by decide +kernel
theorem dX1_begin_31 : decode cX1_begin 31 = .ok (.aload_n 0, 1) := by decide +kernel
theorem dX1_begin_32 : decode cX1_begin 32 = .ok (.iconst (-1), 1) := by decide +kernel
theorem dX1_begin_33 : decode cX1_begin 33 = .ok (.putfield 54, 3) := by decide +kernel
theorem dX1_begin_36 : decode cX1_begin 36 = .ok (.aload_n 0, 1) := by decide +kernel
theorem dX1_begin_37 : decode cX1_begin 37 = .ok (.iconst (-1), 1) := by decide +kernel
theorem dX1_begin_38 : decode cX1_begin 38 = .ok (.putfield 57, 3) := by decide +kernel
theorem dX1_begin_41 : decode cX1_begin 41 = .ok (.aload_n 0, 1) := by decide +kernel
theorem dX1_begin_42 : decode cX1_begin 42 = .ok (.iconst (-1), 1) := by decide +kernel
theorem dX1_begin_43 : decode cX1_begin 43 = .ok (.putfield 60, 3) := by decide +kernel
theorem dX1_begin_46 : decode cX1_begin 46 = .ok (.aload_n 0, 1) := by decide +kernel
theorem dX1_begin_47 : decode cX1_begin 47 = .ok (.iconst (-1), 1) := by decide +kernel
theorem dX1_begin_48 : decode cX1_begin 48 = .ok (.putfield 63, 3) := by decide +kernel
theorem dX1_begin_51 : decode cX1_begin 51 = .ok (.aload_n 0, 1) := by decide +kernel
theorem dX1_begin_52 : decode cX1_begin 52 = .ok (.iconst 0, 1) := by decide +kernel
theorem dX1_begin_53 : decode cX1_begin 53 = .ok (.putfield 66, 3) := by decide +kernel
theorem dX1_begin_56 : decode cX1_begin 56 = .ok (.return_, 1) := by decide +kernel
theorem dX1_watch_0 : decode cX1_watch 0 = .ok (.aload_n 0, 1) := by decide +kernel
theorem dX1_watch_1 : decode cX1_watch 1 = .ok (.iload_n 1, 1) := by decide +kernel
theorem dX1_watch_2 : decode cX1_watch 2 = .ok (.putfield 54, 3) := by decide +kernel
theorem dX1_watch_5 : decode cX1_watch 5 = .ok (.aload_n 0, 1) := by decide +kernel
theorem dX1_watch_6 : decode cX1_watch 6 = .ok (.iload_n 2, 1) := by decide +kernel
theorem dX1_watch_7 : decode cX1_watch 7 = .ok (.putfield 57, 3) := by decide +kernel
theorem dX1_watch_10 : decode cX1_watch 10 = .ok (.return_, 1) := by decide +kernel
theorem dX1_goOn_0 : decode cX1_goOn 0 = .ok (.aload_n 0, 1) := by decide +kernel
theorem dX1_goOn_1 : decode cX1_goOn 1 = .ok (.getfield 33, 3) := by decide +kernel
theorem dX1_goOn_4 : decode cX1_goOn 4 = .ok (.getfield 69, 3) := by decide +kernel
theorem dX1_goOn_7 : decode cX1_goOn 7 = .ok (.istore_n 2, 1) := by decide +kernel
theorem dX1_goOn_8 : decode cX1_goOn 8 = .ok (.iload_n 2, 1) := by decide +kernel
theorem dX1_goOn_9 : decode cX1_goOn 9 = .ok (.iload_n 1, 1) := by decide +kernel
theorem dX1_goOn_10 : decode cX1_goOn 10 = .ok (.if_icmp .gt 39, 3) := by decide +kernel
theorem dX1_goOn_13 : decode cX1_goOn 13 = .ok (.iload_n 2, 1) := by decide +kernel
theorem dX1_goOn_14 : decode cX1_goOn 14 = .ok (.sipush 168, 3) := by decide +kernel
theorem dX1_goOn_17 : decode cX1_goOn 17 = .ok (.if_icmp .ge 32, 3) := by decide +kernel
theorem dX1_goOn_20 : decode cX1_goOn 20 = .ok (.aload_n 0, 1) := by decide +kernel
theorem dX1_goOn_21 : decode cX1_goOn 21 = .ok (.getfield 60, 3) := by decide +kernel
theorem dX1_goOn_24 : decode cX1_goOn 24 = .ok (.iconst (-1), 1) := by decide +kernel
theorem dX1_goOn_25 : decode cX1_goOn 25 = .ok (.if_icmp .ne 24, 3) := by decide +kernel
theorem dX1_goOn_28 : decode cX1_goOn 28 = .ok (.aload_n 0, 1) := by decide +kernel
theorem dX1_goOn_29 : decode cX1_goOn 29 = .ok (.iload_n 2, 1) := by decide +kernel
theorem dX1_goOn_30 : decode cX1_goOn 30 = .ok (.invokevirtual 74, 3) := by decide +kernel
theorem dX1_goOn_33 : decode cX1_goOn 33 = .ok (.aload_n 0, 1) := by decide +kernel
theorem dX1_goOn_34 : decode cX1_goOn 34 = .ok (.getfield 33, 3) := by decide +kernel
theorem dX1_goOn_37 : decode cX1_goOn 37 = .ok (.iload_n 2, 1) := by decide +kernel
theorem dX1_goOn_38 : decode cX1_goOn 38 = .ok (.iconst 1, 1) := by decide +kernel
theorem dX1_goOn_39 : decode cX1_goOn 39 = .ok (.iadd, 1) := by decide +kernel
theorem dX1_goOn_40 : decode cX1_goOn 40 = .ok (.putfield 69, 3) := by decide +kernel
theorem dX1_goOn_43 : decode cX1_goOn 43 = .ok (.iinc 2 1, 3) := by decide +kernel
theorem dX1_goOn_46 : decode cX1_goOn 46 = .ok (.goto (-38), 3) := by decide +kernel
theorem dX1_goOn_49 : decode cX1_goOn 49 = .ok (.return_, 1) := by decide +kernel
theorem dX1_pass_0 : decode cX1_pass 0 = .ok (.aload_n 0, 1) := by decide +kernel
theorem dX1_pass_1 : decode cX1_pass 1 = .ok (.getfield 12, 3) := by decide +kernel
theorem dX1_pass_4 : decode cX1_pass 4 = .ok (.getfield 78, 3) := by decide +kernel
theorem dX1_pass_7 : decode cX1_pass 7 = .ok (.iload_n 1, 1) := by decide +kernel
theorem dX1_pass_8 : decode cX1_pass 8 = .ok (.iaload, 1) := by decide +kernel
theorem dX1_pass_9 : decode cX1_pass 9 = .ok (.ifCond .eq 17, 3) := by decide +kernel
theorem dX1_pass_12 : decode cX1_pass 12 = .ok (.aload_n 0, 1) := by decide +kernel
theorem dX1_pass_13 : decode cX1_pass 13 = .ok (.aload_n 0, 1) := by decide +kernel
theorem dX1_pass_14 : decode cX1_pass 14 = .ok (.getfield 12, 3) := by decide +kernel
theorem dX1_pass_17 : decode cX1_pass 17 = .ok (.getfield 78, 3) := by decide +kernel
theorem dX1_pass_20 : decode cX1_pass 20 = .ok (.iload_n 1, 1) := by decide +kernel
theorem dX1_pass_21 : decode cX1_pass 21 = .ok (.iaload, 1) := by decide +kernel
theorem dX1_pass_22 : decode cX1_pass 22 = .ok (.iload_n 1, 1) := by decide +kernel
theorem dX1_pass_23 : decode cX1_pass 23 = .ok (.invokevirtual 81, 3) := by decide +kernel
theorem dX1_pass_26 : decode cX1_pass 26 = .ok (.aload_n 0, 1) := by decide +kernel
theorem dX1_pass_27 : decode cX1_pass 27 = .ok (.getfield 12, 3) := by decide +kernel
theorem dX1_pass_30 : decode cX1_pass 30 = .ok (.getfield 85, 3) := by decide +kernel
theorem dX1_pass_33 : decode cX1_pass 33 = .ok (.iload_n 1, 1) := by decide +kernel
theorem dX1_pass_34 : decode cX1_pass 34 = .ok (.iaload, 1) := by decide +kernel
theorem dX1_pass_35 : decode cX1_pass 35 = .ok (.ifCond .eq 16, 3) := by decide +kernel
theorem dX1_pass_38 : decode cX1_pass 38 = .ok (.aload_n 0, 1) := by decide +kernel
theorem dX1_pass_39 : decode cX1_pass 39 = .ok (.aload_n 0, 1) := by decide +kernel
theorem dX1_pass_40 : decode cX1_pass 40 = .ok (.getfield 12, 3) := by decide +kernel
theorem dX1_pass_43 : decode cX1_pass 43 = .ok (.getfield 85, 3) := by decide +kernel
theorem dX1_pass_46 : decode cX1_pass 46 = .ok (.iload_n 1, 1) := by decide +kernel
theorem dX1_pass_47 : decode cX1_pass 47 = .ok (.iaload, 1) := by decide +kernel
theorem dX1_pass_48 : decode cX1_pass 48 = .ok (.invokevirtual 88, 3) := by decide +kernel
theorem dX1_pass_51 : decode cX1_pass 51 = .ok (.aload_n 0, 1) := by decide +kernel
theorem dX1_pass_52 : decode cX1_pass 52 = .ok (.getfield 12, 3) := by decide +kernel
theorem dX1_pass_55 : decode cX1_pass 55 = .ok (.getfield 91, 3) := by decide +kernel
theorem dX1_pass_58 : decode cX1_pass 58 = .ok (.iload_n 1, 1) := by decide +kernel
theorem dX1_pass_59 : decode cX1_pass 59 = .ok (.iaload, 1) := by decide +kernel
theorem dX1_pass_60 : decode cX1_pass 60 = .ok (.aload_n 0, 1) := by decide +kernel
theorem dX1_pass_61 : decode cX1_pass 61 = .ok (.getfield 51, 3) := by decide +kernel
theorem dX1_pass_64 : decode cX1_pass 64 = .ok (.iconst (-1), 1) := by decide +kernel
theorem dX1_pass_65 : decode cX1_pass 65 = .ok (.ixor, 1) := by decide +kernel
theorem dX1_pass_66 : decode cX1_pass 66 = .ok (.iand, 1) := by decide +kernel
theorem dX1_pass_67 : decode cX1_pass 67 = .ok (.istore_n 2, 1) := by decide +kernel
theorem dX1_pass_68 : decode cX1_pass 68 = .ok (.iconst 0, 1) := by decide +kernel
theorem dX1_pass_69 : decode cX1_pass 69 = .ok (.istore_n 3, 1) := by decide +kernel
theorem dX1_pass_70 : decode cX1_pass 70 = .ok (.iload_n 2, 1) := by decide +kernel
theorem dX1_pass_71 : decode cX1_pass 71 = .ok (.ifCond .eq 48, 3) := by decide +kernel
theorem dX1_pass_74 : decode cX1_pass 74 = .ok (.iload_n 3, 1) := by decide +kernel
theorem dX1_pass_75 : decode cX1_pass 75 = .ok (.aload_n 0, 1) := by decide +kernel
theorem dX1_pass_76 : decode cX1_pass 76 = .ok (.getfield 25, 3) := by decide +kernel
theorem dX1_pass_79 : decode cX1_pass 79 = .ok (.getfield 94, 3) := by decide +kernel
theorem dX1_pass_82 : decode cX1_pass 82 = .ok (.getfield 98, 3) := by decide +kernel
theorem dX1_pass_85 : decode cX1_pass 85 = .ok (.if_icmp .ge 34, 3) := by decide +kernel
theorem dX1_pass_88 : decode cX1_pass 88 = .ok (.iload_n 2, 1) := by decide +kernel
theorem dX1_pass_89 : decode cX1_pass 89 = .ok (.iload_n 3, 1) := by decide +kernel
theorem dX1_pass_90 : decode cX1_pass 90 = .ok (.ishr, 1) := by decide +kernel
theorem dX1_pass_91 : decode cX1_pass 91 = .ok (.iconst 1, 1) := by decide +kernel
theorem dX1_pass_92 : decode cX1_pass 92 = .ok (.iand, 1) := by decide +kernel
theorem dX1_pass_93 : decode cX1_pass 93 = .ok (.iconst 1, 1) := by decide +kernel
theorem dX1_pass_94 : decode cX1_pass 94 = .ok (.if_icmp .ne 19, 3) := by decide +kernel
theorem dX1_pass_97 : decode cX1_pass 97 = .ok (.aload_n 0, 1) := by decide +kernel
theorem dX1_pass_98 : decode cX1_pass 98 = .ok (.iload_n 3, 1) := by decide +kernel
theorem dX1_pass_99 : decode cX1_pass 99 = .ok (.iload_n 1, 1) := by decide +kernel
theorem dX1_pass_100 : decode cX1_pass 100 = .ok (.invokevirtual 103, 3) := by decide +kernel
theorem dX1_pass_103 : decode cX1_pass 103 = .ok (.ifCond .eq 10, 3) := by decide +kernel
theorem dX1_pass_106 : decode cX1_pass 106 = .ok (.aload_n 0, 1) := by decide +kernel
theorem dX1_pass_107 : decode cX1_pass 107 = .ok (.iload_n 3, 1) := by decide +kernel
theorem dX1_pass_108 : decode cX1_pass 108 = .ok (.iload_n 1, 1) := by decide +kernel
theorem dX1_pass_109 : decode cX1_pass 109 = .ok (.iconst 0, 1) := by decide +kernel
theorem dX1_pass_110 : decode cX1_pass 110 = .ok (.invokevirtual 107, 3) := by decide +kernel
theorem dX1_pass_113 : decode cX1_pass 113 = .ok (.iinc 3 1, 3) := by decide +kernel
theorem dX1_pass_116 : decode cX1_pass 116 = .ok (.goto (-46), 3) := by decide +kernel
theorem dX1_pass_119 : decode cX1_pass 119 = .ok (.aload_n 0, 1) := by decide +kernel
theorem dX1_pass_120 : decode cX1_pass 120 = .ok (.getfield 12, 3) := by decide +kernel
theorem dX1_pass_123 : decode cX1_pass 123 = .ok (.getfield 111, 3) := by decide +kernel
theorem dX1_pass_126 : decode cX1_pass 126 = .ok (.iload_n 1, 1) := by decide +kernel
theorem dX1_pass_127 : decode cX1_pass 127 = .ok (.iaload, 1) := by decide +kernel
theorem dX1_pass_128 : decode cX1_pass 128 = .ok (.aload_n 0, 1) := by decide +kernel
theorem dX1_pass_129 : decode cX1_pass 129 = .ok (.getfield 48, 3) := by decide +kernel
theorem dX1_pass_132 : decode cX1_pass 132 = .ok (.iand, 1) := by decide +kernel
theorem dX1_pass_133 : decode cX1_pass 133 = .ok (.istore_n 3, 1) := by decide +kernel
theorem dX1_pass_134 : decode cX1_pass 134 = .ok (.iconst 0, 1) := by decide +kernel
theorem dX1_pass_135 : decode cX1_pass 135 = .ok (.istore 4, 2) := by decide +kernel
theorem dX1_pass_137 : decode cX1_pass 137 = .ok (.iload_n 3, 1) := by decide +kernel
theorem dX1_pass_138 : decode cX1_pass 138 = .ok (.ifCond .eq 126, 3) := by decide +kernel
theorem dX1_pass_141 : decode cX1_pass 141 = .ok (.iload 4, 2) := by decide +kernel
theorem dX1_pass_143 : decode cX1_pass 143 = .ok (.aload_n 0, 1) := by decide +kernel
theorem dX1_pass_144 : decode cX1_pass 144 = .ok (.getfield 25, 3) := by decide +kernel
theorem dX1_pass_147 : decode cX1_pass 147 = .ok (.getfield 114, 3) := by decide +kernel
theorem dX1_pass_150 : decode cX1_pass 150 = .ok (.getfield 118, 3) := by decide +kernel
theorem dX1_pass_153 : decode cX1_pass 153 = .ok (.if_icmp .ge 111, 3) := by decide +kernel
theorem dX1_pass_156 : decode cX1_pass 156 = .ok (.iload_n 3, 1) := by decide +kernel
theorem dX1_pass_157 : decode cX1_pass 157 = .ok (.iload 4, 2) := by decide +kernel
theorem dX1_pass_159 : decode cX1_pass 159 = .ok (.ishr, 1) := by decide +kernel
theorem dX1_pass_160 : decode cX1_pass 160 = .ok (.iconst 1, 1) := by decide +kernel
theorem dX1_pass_161 : decode cX1_pass 161 = .ok (.iand, 1) := by decide +kernel
theorem dX1_pass_162 : decode cX1_pass 162 = .ok (.iconst 1, 1) := by decide +kernel
theorem dX1_pass_163 : decode cX1_pass 163 = .ok (.if_icmp .ne 95, 3) := by decide +kernel
theorem dX1_pass_166 : decode cX1_pass 166 = .ok (.aload_n 0, 1) := by decide +kernel
theorem dX1_pass_167 : decode cX1_pass 167 = .ok (.getfield 25, 3) := by decide +kernel
theorem dX1_pass_170 : decode cX1_pass 170 = .ok (.getfield 114, 3) := by decide +kernel
theorem dX1_pass_173 : decode cX1_pass 173 = .ok (.getfield 121, 3) := by decide +kernel
theorem dX1_pass_176 : decode cX1_pass 176 = .ok (.iload 4, 2) := by decide +kernel
theorem dX1_pass_178 : decode cX1_pass 178 = .ok (.iaload, 1) := by decide +kernel
theorem dX1_pass_179 : decode cX1_pass 179 = .ok (.aload_n 0, 1) := by decide +kernel
theorem dX1_pass_180 : decode cX1_pass 180 = .ok (.getfield 25, 3) := by decide +kernel
theorem dX1_pass_183 : decode cX1_pass 183 = .ok (.getfield 114, 3) := by decide +kernel
theorem dX1_pass_186 : decode cX1_pass 186 = .ok (.getfield 124, 3) := by decide +kernel
theorem dX1_pass_189 : decode cX1_pass 189 = .ok (.iload 4, 2) := by decide +kernel
theorem dX1_pass_191 : decode cX1_pass 191 = .ok (.iaload, 1) := by decide +kernel
theorem dX1_pass_192 : decode cX1_pass 192 = .ok (.iadd, 1) := by decide +kernel
theorem dX1_pass_193 : decode cX1_pass 193 = .ok (.istore 5, 2) := by decide +kernel
theorem dX1_pass_195 : decode cX1_pass 195 = .ok (.aload_n 0, 1) := by decide +kernel
theorem dX1_pass_196 : decode cX1_pass 196 = .ok (.getfield 25, 3) := by decide +kernel
theorem dX1_pass_199 : decode cX1_pass 199 = .ok (.getfield 114, 3) := by decide +kernel
theorem dX1_pass_202 : decode cX1_pass 202 = .ok (.getfield 121, 3) := by decide +kernel
theorem dX1_pass_205 : decode cX1_pass 205 = .ok (.iload 4, 2) := by decide +kernel
theorem dX1_pass_207 : decode cX1_pass 207 = .ok (.iaload, 1) := by decide +kernel
theorem dX1_pass_208 : decode cX1_pass 208 = .ok (.iconst 1, 1) := by decide +kernel
theorem dX1_pass_209 : decode cX1_pass 209 = .ok (.iadd, 1) := by decide +kernel
theorem dX1_pass_210 : decode cX1_pass 210 = .ok (.aload_n 0, 1) := by decide +kernel
theorem dX1_pass_211 : decode cX1_pass 211 = .ok (.getfield 25, 3) := by decide +kernel
theorem dX1_pass_214 : decode cX1_pass 214 = .ok (.getfield 114, 3) := by decide +kernel
theorem dX1_pass_217 : decode cX1_pass 217 = .ok (.getfield 124, 3) := by decide +kernel
theorem dX1_pass_220 : decode cX1_pass 220 = .ok (.iload 4, 2) := by decide +kernel
theorem dX1_pass_222 : decode cX1_pass 222 = .ok (.iaload, 1) := by decide +kernel
theorem dX1_pass_223 : decode cX1_pass 223 = .ok (.isub, 1) := by decide +kernel
theorem dX1_pass_224 : decode cX1_pass 224 = .ok (.istore 6, 2) := by decide +kernel
theorem dX1_pass_226 : decode cX1_pass 226 = .ok (.aload_n 0, 1) := by decide +kernel
theorem dX1_pass_227 : decode cX1_pass 227 = .ok (.iload 5, 2) := by decide +kernel
theorem dX1_pass_229 : decode cX1_pass 229 = .ok (.aload_n 0, 1) := by decide +kernel
theorem dX1_pass_230 : decode cX1_pass 230 = .ok (.getfield 25, 3) := by decide +kernel
theorem dX1_pass_233 : decode cX1_pass 233 = .ok (.getfield 114, 3) := by decide +kernel
theorem dX1_pass_236 : decode cX1_pass 236 = .ok (.getfield 127, 3) := by decide +kernel
theorem dX1_pass_239 : decode cX1_pass 239 = .ok (.iload 4, 2) := by decide +kernel
theorem dX1_pass_241 : decode cX1_pass 241 = .ok (.iaload, 1) := by decide +kernel
theorem dX1_pass_242 : decode cX1_pass 242 = .ok (.iconst 0, 1) := by decide +kernel
theorem dX1_pass_243 : decode cX1_pass 243 = .ok (.iload_n 1, 1) := by decide +kernel
theorem dX1_pass_244 : decode cX1_pass 244 = .ok (.invokevirtual 130, 3) := by decide +kernel
theorem dX1_pass_247 : decode cX1_pass 247 = .ok (.pop, 1) := by decide +kernel
theorem dX1_pass_248 : decode cX1_pass 248 = .ok (.aload_n 0, 1) := by decide +kernel
theorem dX1_pass_249 : decode cX1_pass 249 = .ok (.iload 5, 2) := by decide +kernel
theorem dX1_pass_251 : decode cX1_pass 251 = .ok (.iload 6, 2) := by decide +kernel
theorem dX1_pass_253 : decode cX1_pass 253 = .ok (.iload_n 1, 1) := by decide +kernel
theorem dX1_pass_254 : decode cX1_pass 254 = .ok (.iconst (-1), 1) := by decide +kernel
theorem dX1_pass_255 : decode cX1_pass 255 = .ok (.invokevirtual 134, 3) := by decide +kernel
theorem dX1_pass_258 : decode cX1_pass 258 = .ok (.iinc 4 1, 3) := by decide +kernel
theorem dX1_pass_261 : decode cX1_pass 261 = .ok (.goto (-124), 3) := by decide +kernel
theorem dX1_pass_264 : decode cX1_pass 264 = .ok (.return_, 1) := by decide +kernel
theorem dX1_bring_0 : decode cX1_bring 0 = .ok (.iconst 0, 1) := by decide +kernel
theorem dX1_bring_1 : decode cX1_bring 1 = .ok (.istore_n 3, 1) := by decide +kernel
theorem dX1_bring_2 : decode cX1_bring 2 = .ok (.iload_n 3, 1) := by decide +kernel
theorem dX1_bring_3 : decode cX1_bring 3 = .ok (.aload_n 0, 1) := by decide +kernel
theorem dX1_bring_4 : decode cX1_bring 4 = .ok (.getfield 25, 3) := by decide +kernel
theorem dX1_bring_7 : decode cX1_bring 7 = .ok (.getfield 138, 3) := by decide +kernel
theorem dX1_bring_10 : decode cX1_bring 10 = .ok (.getfield 142, 3) := by decide +kernel
theorem dX1_bring_13 : decode cX1_bring 13 = .ok (.if_icmp .ge 36, 3) := by decide +kernel
theorem dX1_bring_16 : decode cX1_bring 16 = .ok (.iload_n 1, 1) := by decide +kernel
theorem dX1_bring_17 : decode cX1_bring 17 = .ok (.iload_n 3, 1) := by decide +kernel
theorem dX1_bring_18 : decode cX1_bring 18 = .ok (.ishr, 1) := by decide +kernel
theorem dX1_bring_19 : decode cX1_bring 19 = .ok (.iconst 1, 1) := by decide +kernel
theorem dX1_bring_20 : decode cX1_bring 20 = .ok (.iand, 1) := by decide +kernel
theorem dX1_bring_21 : decode cX1_bring 21 = .ok (.iconst 1, 1) := by decide +kernel
theorem dX1_bring_22 : decode cX1_bring 22 = .ok (.if_icmp .ne 21, 3) := by decide +kernel
theorem dX1_bring_25 : decode cX1_bring 25 = .ok (.aload_n 0, 1) := by decide +kernel
theorem dX1_bring_26 : decode cX1_bring 26 = .ok (.iload_n 3, 1) := by decide +kernel
theorem dX1_bring_27 : decode cX1_bring 27 = .ok (.aload_n 0, 1) := by decide +kernel
theorem dX1_bring_28 : decode cX1_bring 28 = .ok (.getfield 25, 3) := by decide +kernel
theorem dX1_bring_31 : decode cX1_bring 31 = .ok (.getfield 138, 3) := by decide +kernel
theorem dX1_bring_34 : decode cX1_bring 34 = .ok (.getfield 145, 3) := by decide +kernel
theorem dX1_bring_37 : decode cX1_bring 37 = .ok (.iload_n 3, 1) := by decide +kernel
theorem dX1_bring_38 : decode cX1_bring 38 = .ok (.iaload, 1) := by decide +kernel
theorem dX1_bring_39 : decode cX1_bring 39 = .ok (.iload_n 2, 1) := by decide +kernel
theorem dX1_bring_40 : decode cX1_bring 40 = .ok (.invokevirtual 148, 3) := by decide +kernel
theorem dX1_bring_43 : decode cX1_bring 43 = .ok (.iinc 3 1, 3) := by decide +kernel
theorem dX1_bring_46 : decode cX1_bring 46 = .ok (.goto (-44), 3) := by decide +kernel
theorem dX1_bring_49 : decode cX1_bring 49 = .ok (.return_, 1) := by decide +kernel
theorem dX1_fetchOff_0 : decode cX1_fetchOff 0 = .ok (.iconst 0, 1) := by decide +kernel
theorem dX1_fetchOff_1 : decode cX1_fetchOff 1 = .ok (.istore_n 2, 1) := by decide +kernel
theorem dX1_fetchOff_2 : decode cX1_fetchOff 2 = .ok (.iload_n 2, 1) := by decide +kernel
theorem dX1_fetchOff_3 : decode cX1_fetchOff 3 = .ok (.aload_n 0, 1) := by decide +kernel
theorem dX1_fetchOff_4 : decode cX1_fetchOff 4 = .ok (.getfield 25, 3) := by decide +kernel
theorem dX1_fetchOff_7 : decode cX1_fetchOff 7 = .ok (.getfield 138, 3) := by decide +kernel
theorem dX1_fetchOff_10 : decode cX1_fetchOff 10 = .ok (.getfield 142, 3) := by decide +kernel
theorem dX1_fetchOff_13 : decode cX1_fetchOff 13 = .ok (.if_icmp .ge 84, 3) := by decide +kernel
theorem dX1_fetchOff_16 : decode cX1_fetchOff 16 = .ok (.aload_n 0, 1) := by decide +kernel
theorem dX1_fetchOff_17 : decode cX1_fetchOff 17 = .ok (.getfield 25, 3) := by decide +kernel
theorem dX1_fetchOff_20 : decode cX1_fetchOff 20 = .ok (.getfield 138, 3) := by decide +kernel
theorem dX1_fetchOff_23 : decode cX1_fetchOff 23 = .ok (.getfield 151, 3) := by decide +kernel
theorem dX1_fetchOff_26 : decode cX1_fetchOff 26 = .ok (.iload_n 2, 1) := by decide +kernel
theorem dX1_fetchOff_27 : decode cX1_fetchOff 27 = .ok (.iaload, 1) := by decide +kernel
theorem dX1_fetchOff_28 : decode cX1_fetchOff 28 = .ok (.istore_n 3, 1) := by decide +kernel
theorem dX1_fetchOff_29 : decode cX1_fetchOff 29 = .ok (.iload_n 1, 1) := by decide +kernel
theorem dX1_fetchOff_30 : decode cX1_fetchOff 30 = .ok (.iload_n 2, 1) := by decide +kernel
theorem dX1_fetchOff_31 : decode cX1_fetchOff 31 = .ok (.ishr, 1) := by decide +kernel
theorem dX1_fetchOff_32 : decode cX1_fetchOff 32 = .ok (.iconst 1, 1) := by decide +kernel
theorem dX1_fetchOff_33 : decode cX1_fetchOff 33 = .ok (.iand, 1) := by decide +kernel
theorem dX1_fetchOff_34 : decode cX1_fetchOff 34 = .ok (.iconst 1, 1) := by decide +kernel
theorem dX1_fetchOff_35 : decode cX1_fetchOff 35 = .ok (.if_icmp .ne 56, 3) := by decide +kernel
theorem dX1_fetchOff_38 : decode cX1_fetchOff 38 = .ok (.aload_n 0, 1) := by decide +kernel
theorem dX1_fetchOff_39 : decode cX1_fetchOff 39 = .ok (.getfield 25, 3) := by decide +kernel
theorem dX1_fetchOff_42 : decode cX1_fetchOff 42 = .ok (.iload_n 3, 1) := by decide +kernel
theorem dX1_fetchOff_43 : decode cX1_fetchOff 43 = .ok (.invokevirtual 154, 3) := by decide +kernel
theorem dX1_fetchOff_46 : decode cX1_fetchOff 46 = .ok (.ifCond .eq 45, 3) := by decide +kernel
theorem dX1_fetchOff_49 : decode cX1_fetchOff 49 = .ok (.aload_n 0, 1) := by decide +kernel
theorem dX1_fetchOff_50 : decode cX1_fetchOff 50 = .ok (.getfield 33, 3) := by decide +kernel
theorem dX1_fetchOff_53 : decode cX1_fetchOff 53 = .ok (.iload_n 2, 1) := by decide +kernel
theorem dX1_fetchOff_54 : decode cX1_fetchOff 54 = .ok (.iload_n 3, 1) := by decide +kernel
theorem dX1_fetchOff_55 : decode cX1_fetchOff 55 = .ok (.invokevirtual 158, 3) := by decide +kernel
theorem dX1_fetchOff_58 : decode cX1_fetchOff 58 = .ok (.ifCond .eq 33, 3) := by decide +kernel
theorem dX1_fetchOff_61 : decode cX1_fetchOff 61 = .ok (.aload_n 0, 1) := by decide +kernel
theorem dX1_fetchOff_62 : decode cX1_fetchOff 62 = .ok (.getfield 18, 3) := by decide +kernel
theorem dX1_fetchOff_65 : decode cX1_fetchOff 65 = .ok (.iconst 0, 1) := by decide +kernel
theorem dX1_fetchOff_66 : decode cX1_fetchOff 66 = .ok (.iload_n 2, 1) := by decide +kernel
theorem dX1_fetchOff_67 : decode cX1_fetchOff 67 = .ok (.iastore, 1) := by decide +kernel
theorem dX1_fetchOff_68 : decode cX1_fetchOff 68 = .ok (.aload_n 0, 1) := by decide +kernel
theorem dX1_fetchOff_69 : decode cX1_fetchOff 69 = .ok (.getfield 33, 3) := by decide +kernel
theorem dX1_fetchOff_72 : decode cX1_fetchOff 72 = .ok (.aload_n 0, 1) := by decide +kernel
theorem dX1_fetchOff_73 : decode cX1_fetchOff 73 = .ok (.getfield 18, 3) := by decide +kernel
theorem dX1_fetchOff_76 : decode cX1_fetchOff 76 = .ok (.iconst 1, 1) := by decide +kernel
theorem dX1_fetchOff_77 : decode cX1_fetchOff 77 = .ok (.iload_n 3, 1) := by decide +kernel
theorem dX1_fetchOff_78 : decode cX1_fetchOff 78 = .ok (.invokevirtual 161, 3) := by decide +kernel
theorem dX1_fetchOff_81 : decode cX1_fetchOff 81 = .ok (.aload_n 0, 1) := by decide +kernel
theorem dX1_fetchOff_82 : decode cX1_fetchOff 82 = .ok (.getfield 33, 3) := by decide +kernel
theorem dX1_fetchOff_85 : decode cX1_fetchOff 85 = .ok (.getfield 165, 3) := by decide +kernel
theorem dX1_fetchOff_88 : decode cX1_fetchOff 88 = .ok (.iload_n 2, 1) := by decide +kernel
theorem dX1_fetchOff_89 : decode cX1_fetchOff 89 = .ok (.iconst 1, 1) := by decide +kernel
theorem dX1_fetchOff_90 : decode cX1_fetchOff 90 = .ok (.iastore, 1) := by decide +kernel
theorem dX1_fetchOff_91 : decode cX1_fetchOff 91 = .ok (.iinc 2 1, 3) := by decide +kernel
theorem dX1_fetchOff_94 : decode cX1_fetchOff 94 = .ok (.goto (-92), 3) := by decide +kernel
theorem dX1_fetchOff_97 : decode cX1_fetchOff 97 = .ok (.return_, 1) := by decide +kernel
theorem dX1_arrive_0 : decode cX1_arrive 0 = .ok (.aload_n 0, 1) := by decide +kernel
theorem dX1_arrive_1 : decode cX1_arrive 1 = .ok (.getfield 33, 3) := by decide +kernel
theorem dX1_arrive_4 : decode cX1_arrive 4 = .ok (.iload_n 1, 1) := by decide +kernel
theorem dX1_arrive_5 : decode cX1_arrive 5 = .ok (.iload_n 2, 1) := by decide +kernel
theorem dX1_arrive_6 : decode cX1_arrive 6 = .ok (.iload_n 3, 1) := by decide +kernel
theorem dX1_arrive_7 : decode cX1_arrive 7 = .ok (.invokevirtual 168, 3) := by decide +kernel
theorem dX1_arrive_10 : decode cX1_arrive 10 = .ok (.iload_n 1, 1) := by decide +kernel
theorem dX1_arrive_11 : decode cX1_arrive 11 = .ok (.aload_n 0, 1) := by decide +kernel
theorem dX1_arrive_12 : decode cX1_arrive 12 = .ok (.getfield 54, 3) := by decide +kernel
theorem dX1_arrive_15 : decode cX1_arrive 15 = .ok (.if_icmp .ne 24, 3) := by decide +kernel
theorem dX1_arrive_18 : decode cX1_arrive 18 = .ok (.iload_n 2, 1) := by decide +kernel
theorem dX1_arrive_19 : decode cX1_arrive 19 = .ok (.aload_n 0, 1) := by decide +kernel
theorem dX1_arrive_20 : decode cX1_arrive 20 = .ok (.getfield 57, 3) := by decide +kernel
theorem dX1_arrive_23 : decode cX1_arrive 23 = .ok (.if_icmp .ne 16, 3) := by decide +kernel
theorem dX1_arrive_26 : decode cX1_arrive 26 = .ok (.aload_n 0, 1) := by decide +kernel
theorem dX1_arrive_27 : decode cX1_arrive 27 = .ok (.getfield 60, 3) := by decide +kernel
theorem dX1_arrive_30 : decode cX1_arrive 30 = .ok (.iconst (-1), 1) := by decide +kernel
theorem dX1_arrive_31 : decode cX1_arrive 31 = .ok (.if_icmp .ne 8, 3) := by decide +kernel
theorem dX1_arrive_34 : decode cX1_arrive 34 = .ok (.aload_n 0, 1) := by decide +kernel
theorem dX1_arrive_35 : decode cX1_arrive 35 = .ok (.iload_n 3, 1) := by decide +kernel
theorem dX1_arrive_36 : decode cX1_arrive 36 = .ok (.putfield 60, 3) := by decide +kernel
theorem dX1_arrive_39 : decode cX1_arrive 39 = .ok (.return_, 1) := by decide +kernel
theorem dX1_isToGo_0 : decode cX1_isToGo 0 = .ok (.aload_n 0, 1) := by decide +kernel
theorem dX1_isToGo_1 : decode cX1_isToGo 1 = .ok (.getfield 25, 3) := by decide +kernel
theorem dX1_isToGo_4 : decode cX1_isToGo 4 = .ok (.getfield 94, 3) := by decide +kernel
theorem dX1_isToGo_7 : decode cX1_isToGo 7 = .ok (.astore_n 3, 1) := by decide +kernel
theorem dX1_isToGo_8 : decode cX1_isToGo 8 = .ok (.aload_n 0, 1) := by decide +kernel
theorem dX1_isToGo_9 : decode cX1_isToGo 9 = .ok (.getfield 33, 3) := by decide +kernel
theorem dX1_isToGo_12 : decode cX1_isToGo 12 = .ok (.getfield 171, 3) := by decide +kernel
theorem dX1_isToGo_15 : decode cX1_isToGo 15 = .ok (.iload_n 1, 1) := by decide +kernel
theorem dX1_isToGo_16 : decode cX1_isToGo 16 = .ok (.iaload, 1) := by decide +kernel
theorem dX1_isToGo_17 : decode cX1_isToGo 17 = .ok (.iconst (-1), 1) := by decide +kernel
theorem dX1_isToGo_18 : decode cX1_isToGo 18 = .ok (.if_icmp .eq 5, 3) := by decide +kernel
theorem dX1_isToGo_21 : decode cX1_isToGo 21 = .ok (.iconst 0, 1) := by decide +kernel
theorem dX1_isToGo_22 : decode cX1_isToGo 22 = .ok (.ireturn, 1) := by decide +kernel
theorem dX1_isToGo_23 : decode cX1_isToGo 23 = .ok (.aload_n 3, 1) := by decide +kernel
theorem dX1_isToGo_24 : decode cX1_isToGo 24 = .ok (.getfield 174, 3) := by decide +kernel
theorem dX1_isToGo_27 : decode cX1_isToGo 27 = .ok (.iload_n 1, 1) := by decide +kernel
theorem dX1_isToGo_28 : decode cX1_isToGo 28 = .ok (.iaload, 1) := by decide +kernel
theorem dX1_isToGo_29 : decode cX1_isToGo 29 = .ok (.ifCond .ne 19, 3) := by decide +kernel
theorem dX1_isToGo_32 : decode cX1_isToGo 32 = .ok (.iload_n 2, 1) := by decide +kernel
theorem dX1_isToGo_33 : decode cX1_isToGo 33 = .ok (.aload_n 3, 1) := by decide +kernel
theorem dX1_isToGo_34 : decode cX1_isToGo 34 = .ok (.getfield 177, 3) := by decide +kernel
theorem dX1_isToGo_37 : decode cX1_isToGo 37 = .ok (.iload_n 1, 1) := by decide +kernel
theorem dX1_isToGo_38 : decode cX1_isToGo 38 = .ok (.iaload, 1) := by decide +kernel
theorem dX1_isToGo_39 : decode cX1_isToGo 39 = .ok (.if_icmp .ne 7, 3) := by decide +kernel
theorem dX1_isToGo_42 : decode cX1_isToGo 42 = .ok (.iconst 1, 1) := by decide +kernel
theorem dX1_isToGo_43 : decode cX1_isToGo 43 = .ok (.goto 4, 3) := by decide +kernel
theorem dX1_isToGo_46 : decode cX1_isToGo 46 = .ok (.iconst 0, 1) := by decide +kernel
theorem dX1_isToGo_47 : decode cX1_isToGo 47 = .ok (.ireturn, 1) := by decide +kernel
theorem dX1_isToGo_48 : decode cX1_isToGo 48 = .ok (.aload_n 0, 1) := by decide +kernel
theorem dX1_isToGo_49 : decode cX1_isToGo 49 = .ok (.getfield 33, 3) := by decide +kernel
theorem dX1_isToGo_52 : decode cX1_isToGo 52 = .ok (.getfield 180, 3) := by decide +kernel
theorem dX1_isToGo_55 : decode cX1_isToGo 55 = .ok (.aload_n 3, 1) := by decide +kernel
theorem dX1_isToGo_56 : decode cX1_isToGo 56 = .ok (.getfield 183, 3) := by decide +kernel
theorem dX1_isToGo_59 : decode cX1_isToGo 59 = .ok (.iload_n 1, 1) := by decide +kernel
theorem dX1_isToGo_60 : decode cX1_isToGo 60 = .ok (.iaload, 1) := by decide +kernel
theorem dX1_isToGo_61 : decode cX1_isToGo 61 = .ok (.aload_n 3, 1) := by decide +kernel
theorem dX1_isToGo_62 : decode cX1_isToGo 62 = .ok (.getfield 184, 3) := by decide +kernel
theorem dX1_isToGo_65 : decode cX1_isToGo 65 = .ok (.iload_n 1, 1) := by decide +kernel
theorem dX1_isToGo_66 : decode cX1_isToGo 66 = .ok (.iaload, 1) := by decide +kernel
theorem dX1_isToGo_67 : decode cX1_isToGo 67 = .ok (.iadd, 1) := by decide +kernel
theorem dX1_isToGo_68 : decode cX1_isToGo 68 = .ok (.iaload, 1) := by decide +kernel
theorem dX1_isToGo_69 : decode cX1_isToGo 69 = .ok (.ifCond .ne 7, 3) := by decide +kernel
theorem dX1_isToGo_72 : decode cX1_isToGo 72 = .ok (.iconst 1, 1) := by decide +kernel
theorem dX1_isToGo_73 : decode cX1_isToGo 73 = .ok (.goto 4, 3) := by decide +kernel
theorem dX1_isToGo_76 : decode cX1_isToGo 76 = .ok (.iconst 0, 1) := by decide +kernel
theorem dX1_isToGo_77 : decode cX1_isToGo 77 = .ok (.istore 4, 2) := by decide +kernel
theorem dX1_isToGo_79 : decode cX1_isToGo 79 = .ok (.aload_n 3, 1) := by decide +kernel
theorem dX1_isToGo_80 : decode cX1_isToGo 80 = .ok (.getfield 174, 3) := by decide +kernel
theorem dX1_isToGo_83 : decode cX1_isToGo 83 = .ok (.iload_n 1, 1) := by decide +kernel
theorem dX1_isToGo_84 : decode cX1_isToGo 84 = .ok (.iaload, 1) := by decide +kernel
theorem dX1_isToGo_85 : decode cX1_isToGo 85 = .ok (.iconst 1, 1) := by decide +kernel
theorem dX1_isToGo_86 : decode cX1_isToGo 86 = .ok (.if_icmp .ne 39, 3) := by decide +kernel
theorem dX1_isToGo_89 : decode cX1_isToGo 89 = .ok (.iload_n 2, 1) := by decide +kernel
theorem dX1_isToGo_90 : decode cX1_isToGo 90 = .ok (.aload_n 3, 1) := by decide +kernel
theorem dX1_isToGo_91 : decode cX1_isToGo 91 = .ok (.getfield 177, 3) := by decide +kernel
theorem dX1_isToGo_94 : decode cX1_isToGo 94 = .ok (.iload_n 1, 1) := by decide +kernel
theorem dX1_isToGo_95 : decode cX1_isToGo 95 = .ok (.iaload, 1) := by decide +kernel
theorem dX1_isToGo_96 : decode cX1_isToGo 96 = .ok (.if_icmp .lt 29, 3) := by decide +kernel
theorem dX1_isToGo_99 : decode cX1_isToGo 99 = .ok (.iload 4, 2) := by decide +kernel
theorem dX1_isToGo_101 : decode cX1_isToGo 101 = .ok (.ifCond .ne 20, 3) := by decide +kernel
theorem dX1_isToGo_104 : decode cX1_isToGo 104 = .ok (.iload_n 2, 1) := by decide +kernel
theorem dX1_isToGo_105 : decode cX1_isToGo 105 = .ok (.aload_n 3, 1) := by decide +kernel
theorem dX1_isToGo_106 : decode cX1_isToGo 106 = .ok (.getfield 177, 3) := by decide +kernel
theorem dX1_isToGo_109 : decode cX1_isToGo 109 = .ok (.iload_n 1, 1) := by decide +kernel
theorem dX1_isToGo_110 : decode cX1_isToGo 110 = .ok (.iaload, 1) := by decide +kernel
theorem dX1_isToGo_111 : decode cX1_isToGo 111 = .ok (.aload_n 3, 1) := by decide +kernel
theorem dX1_isToGo_112 : decode cX1_isToGo 112 = .ok (.getfield 185, 3) := by decide +kernel
theorem dX1_isToGo_115 : decode cX1_isToGo 115 = .ok (.iload_n 1, 1) := by decide +kernel
theorem dX1_isToGo_116 : decode cX1_isToGo 116 = .ok (.iaload, 1) := by decide +kernel
theorem dX1_isToGo_117 : decode cX1_isToGo 117 = .ok (.iadd, 1) := by decide +kernel
theorem dX1_isToGo_118 : decode cX1_isToGo 118 = .ok (.if_icmp .lt 7, 3) := by decide +kernel
theorem dX1_isToGo_121 : decode cX1_isToGo 121 = .ok (.iconst 1, 1) := by decide +kernel
theorem dX1_isToGo_122 : decode cX1_isToGo 122 = .ok (.goto 4, 3) := by decide +kernel
theorem dX1_isToGo_125 : decode cX1_isToGo 125 = .ok (.iconst 0, 1) := by decide +kernel
theorem dX1_isToGo_126 : decode cX1_isToGo 126 = .ok (.ireturn, 1) := by decide +kernel
theorem dX1_cross_0 : decode cX1_cross 0 = .ok (.aload_n 0, 1) := by decide +kernel
theorem dX1_cross_1 : decode cX1_cross 1 = .ok (.getfield 25, 3) := by decide +kernel
theorem dX1_cross_4 : decode cX1_cross 4 = .ok (.getfield 94, 3) := by decide +kernel
theorem dX1_cross_7 : decode cX1_cross 7 = .ok (.astore 4, 2) := by decide +kernel
theorem dX1_cross_9 : decode cX1_cross 9 = .ok (.aload 4, 2) := by decide +kernel
theorem dX1_cross_11 : decode cX1_cross 11 = .ok (.getfield 183, 3) := by decide +kernel
theorem dX1_cross_14 : decode cX1_cross 14 = .ok (.iload_n 1, 1) := by decide +kernel
theorem dX1_cross_15 : decode cX1_cross 15 = .ok (.iaload, 1) := by decide +kernel
theorem dX1_cross_16 : decode cX1_cross 16 = .ok (.aload 4, 2) := by decide +kernel
theorem dX1_cross_18 : decode cX1_cross 18 = .ok (.getfield 184, 3) := by decide +kernel
theorem dX1_cross_21 : decode cX1_cross 21 = .ok (.iload_n 1, 1) := by decide +kernel
theorem dX1_cross_22 : decode cX1_cross 22 = .ok (.iaload, 1) := by decide +kernel
theorem dX1_cross_23 : decode cX1_cross 23 = .ok (.iadd, 1) := by decide +kernel
theorem dX1_cross_24 : decode cX1_cross 24 = .ok (.istore 5, 2) := by decide +kernel
theorem dX1_cross_26 : decode cX1_cross 26 = .ok (.aload 4, 2) := by decide +kernel
theorem dX1_cross_28 : decode cX1_cross 28 = .ok (.getfield 183, 3) := by decide +kernel
theorem dX1_cross_31 : decode cX1_cross 31 = .ok (.iload_n 1, 1) := by decide +kernel
theorem dX1_cross_32 : decode cX1_cross 32 = .ok (.iaload, 1) := by decide +kernel
theorem dX1_cross_33 : decode cX1_cross 33 = .ok (.iconst 1, 1) := by decide +kernel
theorem dX1_cross_34 : decode cX1_cross 34 = .ok (.iadd, 1) := by decide +kernel
theorem dX1_cross_35 : decode cX1_cross 35 = .ok (.aload 4, 2) := by decide +kernel
theorem dX1_cross_37 : decode cX1_cross 37 = .ok (.getfield 184, 3) := by decide +kernel
theorem dX1_cross_40 : decode cX1_cross 40 = .ok (.iload_n 1, 1) := by decide +kernel
theorem dX1_cross_41 : decode cX1_cross 41 = .ok (.iaload, 1) := by decide +kernel
theorem dX1_cross_42 : decode cX1_cross 42 = .ok (.isub, 1) := by decide +kernel
theorem dX1_cross_43 : decode cX1_cross 43 = .ok (.istore 6, 2) := by decide +kernel
theorem dX1_cross_45 : decode cX1_cross 45 = .ok (.aload_n 0, 1) := by decide +kernel
theorem dX1_cross_46 : decode cX1_cross 46 = .ok (.iload 5, 2) := by decide +kernel
theorem dX1_cross_48 : decode cX1_cross 48 = .ok (.aload 4, 2) := by decide +kernel
theorem dX1_cross_50 : decode cX1_cross 50 = .ok (.getfield 188, 3) := by decide +kernel
theorem dX1_cross_53 : decode cX1_cross 53 = .ok (.iload_n 1, 1) := by decide +kernel
theorem dX1_cross_54 : decode cX1_cross 54 = .ok (.iaload, 1) := by decide +kernel
theorem dX1_cross_55 : decode cX1_cross 55 = .ok (.aload 4, 2) := by decide +kernel
theorem dX1_cross_57 : decode cX1_cross 57 = .ok (.getfield 189, 3) := by decide +kernel
theorem dX1_cross_60 : decode cX1_cross 60 = .ok (.iload_n 1, 1) := by decide +kernel
theorem dX1_cross_61 : decode cX1_cross 61 = .ok (.iaload, 1) := by decide +kernel
theorem dX1_cross_62 : decode cX1_cross 62 = .ok (.isub, 1) := by decide +kernel
theorem dX1_cross_63 : decode cX1_cross 63 = .ok (.aload 4, 2) := by decide +kernel
theorem dX1_cross_65 : decode cX1_cross 65 = .ok (.getfield 189, 3) := by decide +kernel
theorem dX1_cross_68 : decode cX1_cross 68 = .ok (.iload_n 1, 1) := by decide +kernel
theorem dX1_cross_69 : decode cX1_cross 69 = .ok (.iaload, 1) := by decide +kernel
theorem dX1_cross_70 : decode cX1_cross 70 = .ok (.iload_n 2, 1) := by decide +kernel
theorem dX1_cross_71 : decode cX1_cross 71 = .ok (.invokevirtual 130, 3) := by decide +kernel
theorem dX1_cross_74 : decode cX1_cross 74 = .ok (.istore 7, 2) := by decide +kernel
theorem dX1_cross_76 : decode cX1_cross 76 = .ok (.aload 4, 2) := by decide +kernel
theorem dX1_cross_78 : decode cX1_cross 78 = .ok (.getfield 192, 3) := by decide +kernel
theorem dX1_cross_81 : decode cX1_cross 81 = .ok (.iload_n 1, 1) := by decide +kernel
theorem dX1_cross_82 : decode cX1_cross 82 = .ok (.iaload, 1) := by decide +kernel
theorem dX1_cross_83 : decode cX1_cross 83 = .ok (.iload 7, 2) := by decide +kernel
theorem dX1_cross_85 : decode cX1_cross 85 = .ok (.imul, 1) := by decide +kernel
theorem dX1_cross_86 : decode cX1_cross 86 = .ok (.istore 8, 2) := by decide +kernel
theorem dX1_cross_88 : decode cX1_cross 88 = .ok (.aload_n 0, 1) := by decide +kernel
theorem dX1_cross_89 : decode cX1_cross 89 = .ok (.getfield 33, 3) := by decide +kernel
theorem dX1_cross_92 : decode cX1_cross 92 = .ok (.getfield 171, 3) := by decide +kernel
theorem dX1_cross_95 : decode cX1_cross 95 = .ok (.iload_n 1, 1) := by decide +kernel
theorem dX1_cross_96 : decode cX1_cross 96 = .ok (.iload_n 2, 1) := by decide +kernel
theorem dX1_cross_97 : decode cX1_cross 97 = .ok (.iastore, 1) := by decide +kernel
theorem dX1_cross_98 : decode cX1_cross 98 = .ok (.aload_n 0, 1) := by decide +kernel
theorem dX1_cross_99 : decode cX1_cross 99 = .ok (.getfield 47, 3) := by decide +kernel
theorem dX1_cross_102 : decode cX1_cross 102 = .ok (.iconst (-1), 1) := by decide +kernel
theorem dX1_cross_103 : decode cX1_cross 103 = .ok (.if_icmp .eq 70, 3) := by decide +kernel
theorem dX1_cross_106 : decode cX1_cross 106 = .ok (.iload 8, 2) := by decide +kernel
theorem dX1_cross_108 : decode cX1_cross 108 = .ok (.aload_n 0, 1) := by decide +kernel
theorem dX1_cross_109 : decode cX1_cross 109 = .ok (.getfield 47, 3) := by decide +kernel
theorem dX1_cross_112 : decode cX1_cross 112 = .ok (.if_icmp .le 61, 3) := by decide +kernel
theorem dX1_cross_115 : decode cX1_cross 115 = .ok (.aload_n 0, 1) := by decide +kernel
theorem dX1_cross_116 : decode cX1_cross 116 = .ok (.getfield 33, 3) := by decide +kernel
theorem dX1_cross_119 : decode cX1_cross 119 = .ok (.getfield 195, 3) := by decide +kernel
theorem dX1_cross_122 : decode cX1_cross 122 = .ok (.iload_n 1, 1) := by decide +kernel
theorem dX1_cross_123 : decode cX1_cross 123 = .ok (.aload_n 0, 1) := by decide +kernel
theorem dX1_cross_124 : decode cX1_cross 124 = .ok (.getfield 47, 3) := by decide +kernel
theorem dX1_cross_127 : decode cX1_cross 127 = .ok (.iastore, 1) := by decide +kernel
theorem dX1_cross_128 : decode cX1_cross 128 = .ok (.aload_n 0, 1) := by decide +kernel
theorem dX1_cross_129 : decode cX1_cross 129 = .ok (.getfield 33, 3) := by decide +kernel
theorem dX1_cross_132 : decode cX1_cross 132 = .ok (.dup, 1) := by decide +kernel
theorem dX1_cross_133 : decode cX1_cross 133 = .ok (.getfield 198, 3) := by decide +kernel
theorem dX1_cross_136 : decode cX1_cross 136 = .ok (.aload_n 0, 1) := by decide +kernel
theorem dX1_cross_137 : decode cX1_cross 137 = .ok (.getfield 47, 3) := by decide +kernel
theorem dX1_cross_140 : decode cX1_cross 140 = .ok (.iadd, 1) := by decide +kernel
theorem dX1_cross_141 : decode cX1_cross 141 = .ok (.putfield 198, 3) := by decide +kernel
theorem dX1_cross_144 : decode cX1_cross 144 = .ok (.aload_n 0, 1) := by decide +kernel
theorem dX1_cross_145 : decode cX1_cross 145 = .ok (.aload_n 0, 1) := by decide +kernel
theorem dX1_cross_146 : decode cX1_cross 146 = .ok (.getfield 63, 3) := by decide +kernel
theorem dX1_cross_149 : decode cX1_cross 149 = .ok (.iconst (-1), 1) := by decide +kernel
theorem dX1_cross_150 : decode cX1_cross 150 = .ok (.if_icmp .ne 8, 3) := by decide +kernel
theorem dX1_cross_153 : decode cX1_cross 153 = .ok (.iload 8, 2) := by decide +kernel
theorem dX1_cross_155 : decode cX1_cross 155 = .ok (.goto 12, 3) := by decide +kernel
theorem dX1_cross_158 : decode cX1_cross 158 = .ok (.aload_n 0, 1) := by decide +kernel
theorem dX1_cross_159 : decode cX1_cross 159 = .ok (.getfield 63, 3) := by decide +kernel
theorem dX1_cross_162 : decode cX1_cross 162 = .ok (.iload 8, 2) := by decide +kernel
theorem dX1_cross_164 : decode cX1_cross 164 = .ok (.invokestatic 201, 3) := by decide +kernel
theorem dX1_cross_167 : decode cX1_cross 167 = .ok (.putfield 63, 3) := by decide +kernel
theorem dX1_cross_170 : decode cX1_cross 170 = .ok (.goto 24, 3) := by decide +kernel
theorem dX1_cross_173 : decode cX1_cross 173 = .ok (.aload_n 0, 1) := by decide +kernel
theorem dX1_cross_174 : decode cX1_cross 174 = .ok (.getfield 33, 3) := by decide +kernel
theorem dX1_cross_177 : decode cX1_cross 177 = .ok (.getfield 207, 3) := by decide +kernel
theorem dX1_cross_180 : decode cX1_cross 180 = .ok (.iload_n 1, 1) := by decide +kernel
theorem dX1_cross_181 : decode cX1_cross 181 = .ok (.iload 7, 2) := by decide +kernel
theorem dX1_cross_183 : decode cX1_cross 183 = .ok (.iastore, 1) := by decide +kernel
theorem dX1_cross_184 : decode cX1_cross 184 = .ok (.aload_n 0, 1) := by decide +kernel
theorem dX1_cross_185 : decode cX1_cross 185 = .ok (.iload 5, 2) := by decide +kernel
theorem dX1_cross_187 : decode cX1_cross 187 = .ok (.iload 6, 2) := by decide +kernel
theorem dX1_cross_189 : decode cX1_cross 189 = .ok (.iload_n 2, 1) := by decide +kernel
theorem dX1_cross_190 : decode cX1_cross 190 = .ok (.iload_n 1, 1) := by decide +kernel
theorem dX1_cross_191 : decode cX1_cross 191 = .ok (.invokevirtual 134, 3) := by decide +kernel
theorem dX1_cross_194 : decode cX1_cross 194 = .ok (.iload_n 3, 1) := by decide +kernel
theorem dX1_cross_195 : decode cX1_cross 195 = .ok (.bipush 20, 2) := by decide +kernel
theorem dX1_cross_197 : decode cX1_cross 197 = .ok (.if_icmp .ge 42, 3) := by decide +kernel
theorem dX1_cross_200 : decode cX1_cross 200 = .ok (.iconst 0, 1) := by decide +kernel
theorem dX1_cross_201 : decode cX1_cross 201 = .ok (.istore 9, 2) := by decide +kernel
theorem dX1_cross_203 : decode cX1_cross 203 = .ok (.iload 9, 2) := by decide +kernel
theorem dX1_cross_205 : decode cX1_cross 205 = .ok (.aload 4, 2) := by decide +kernel
theorem dX1_cross_207 : decode cX1_cross 207 = .ok (.getfield 98, 3) := by decide +kernel
theorem dX1_cross_210 : decode cX1_cross 210 = .ok (.if_icmp .ge 29, 3) := by decide +kernel
theorem dX1_cross_213 : decode cX1_cross 213 = .ok (.aload_n 0, 1) := by decide +kernel
theorem dX1_cross_214 : decode cX1_cross 214 = .ok (.iload 9, 2) := by decide +kernel
theorem dX1_cross_216 : decode cX1_cross 216 = .ok (.iload_n 1, 1) := by decide +kernel
theorem dX1_cross_217 : decode cX1_cross 217 = .ok (.invokevirtual 210, 3) := by decide +kernel
theorem dX1_cross_220 : decode cX1_cross 220 = .ok (.ifCond .eq 13, 3) := by decide +kernel
theorem dX1_cross_223 : decode cX1_cross 223 = .ok (.aload_n 0, 1) := by decide +kernel
theorem dX1_cross_224 : decode cX1_cross 224 = .ok (.iload 9, 2) := by decide +kernel
theorem dX1_cross_226 : decode cX1_cross 226 = .ok (.iload_n 2, 1) := by decide +kernel
theorem dX1_cross_227 : decode cX1_cross 227 = .ok (.iload_n 3, 1) := by decide +kernel
theorem dX1_cross_228 : decode cX1_cross 228 = .ok (.iconst 1, 1) := by decide +kernel
theorem dX1_cross_229 : decode cX1_cross 229 = .ok (.iadd, 1) := by decide +kernel
theorem dX1_cross_230 : decode cX1_cross 230 = .ok (.invokevirtual 107, 3) := by decide +kernel
theorem dX1_cross_233 : decode cX1_cross 233 = .ok (.iinc 9 1, 3) := by decide +kernel
theorem dX1_cross_236 : decode cX1_cross 236 = .ok (.goto (-33), 3) := by decide +kernel
theorem dX1_cross_239 : decode cX1_cross 239 = .ok (.return_, 1) := by decide +kernel
theorem dX1_isBehind_0 : decode cX1_isBehind 0 = .ok (.aload_n 0, 1) := by decide +kernel
theorem dX1_isBehind_1 : decode cX1_isBehind 1 = .ok (.getfield 25, 3) := by decide +kernel
theorem dX1_isBehind_4 : decode cX1_isBehind 4 = .ok (.getfield 94, 3) := by decide +kernel
theorem dX1_isBehind_7 : decode cX1_isBehind 7 = .ok (.getfield 174, 3) := by decide +kernel
theorem dX1_isBehind_10 : decode cX1_isBehind 10 = .ok (.iload_n 1, 1) := by decide +kernel
theorem dX1_isBehind_11 : decode cX1_isBehind 11 = .ok (.iaload, 1) := by decide +kernel
theorem dX1_isBehind_12 : decode cX1_isBehind 12 = .ok (.iconst 2, 1) := by decide +kernel
theorem dX1_isBehind_13 : decode cX1_isBehind 13 = .ok (.if_icmp .ne 47, 3) := by decide +kernel
theorem dX1_isBehind_16 : decode cX1_isBehind 16 = .ok (.aload_n 0, 1) := by decide +kernel
theorem dX1_isBehind_17 : decode cX1_isBehind 17 = .ok (.getfield 25, 3) := by decide +kernel
theorem dX1_isBehind_20 : decode cX1_isBehind 20 = .ok (.getfield 94, 3) := by decide +kernel
theorem dX1_isBehind_23 : decode cX1_isBehind 23 = .ok (.getfield 185, 3) := by decide +kernel
theorem dX1_isBehind_26 : decode cX1_isBehind 26 = .ok (.iload_n 1, 1) := by decide +kernel
theorem dX1_isBehind_27 : decode cX1_isBehind 27 = .ok (.iaload, 1) := by decide +kernel
theorem dX1_isBehind_28 : decode cX1_isBehind 28 = .ok (.iload_n 2, 1) := by decide +kernel
theorem dX1_isBehind_29 : decode cX1_isBehind 29 = .ok (.if_icmp .ne 31, 3) := by decide +kernel
theorem dX1_isBehind_32 : decode cX1_isBehind 32 = .ok (.aload_n 0, 1) := by decide +kernel
theorem dX1_isBehind_33 : decode cX1_isBehind 33 = .ok (.getfield 33, 3) := by decide +kernel
theorem dX1_isBehind_36 : decode cX1_isBehind 36 = .ok (.getfield 171, 3) := by decide +kernel
theorem dX1_isBehind_39 : decode cX1_isBehind 39 = .ok (.iload_n 1, 1) := by decide +kernel
theorem dX1_isBehind_40 : decode cX1_isBehind 40 = .ok (.iaload, 1) := by decide +kernel
theorem dX1_isBehind_41 : decode cX1_isBehind 41 = .ok (.iconst (-1), 1) := by decide +kernel
theorem dX1_isBehind_42 : decode cX1_isBehind 42 = .ok (.if_icmp .ne 18, 3) := by decide +kernel
theorem dX1_isBehind_45 : decode cX1_isBehind 45 = .ok (.aload_n 0, 1) := by decide +kernel
theorem dX1_isBehind_46 : decode cX1_isBehind 46 = .ok (.getfield 51, 3) := by decide +kernel
theorem dX1_isBehind_49 : decode cX1_isBehind 49 = .ok (.iload_n 1, 1) := by decide +kernel
theorem dX1_isBehind_50 : decode cX1_isBehind 50 = .ok (.ishr, 1) := by decide +kernel
theorem dX1_isBehind_51 : decode cX1_isBehind 51 = .ok (.iconst 1, 1) := by decide +kernel
theorem dX1_isBehind_52 : decode cX1_isBehind 52 = .ok (.iand, 1) := by decide +kernel
theorem dX1_isBehind_53 : decode cX1_isBehind 53 = .ok (.ifCond .ne 7, 3) := by decide +kernel
theorem dX1_isBehind_56 : decode cX1_isBehind 56 = .ok (.iconst 1, 1) := by decide +kernel
theorem dX1_isBehind_57 : decode cX1_isBehind 57 = .ok (.goto 4, 3) := by decide +kernel
theorem dX1_isBehind_60 : decode cX1_isBehind 60 = .ok (.iconst 0, 1) := by decide +kernel
theorem dX1_isBehind_61 : decode cX1_isBehind 61 = .ok (.ireturn, 1) := by decide +kernel
theorem dX1_choose_0 : decode cX1_choose 0 = .ok (.iload_n 2, 1) := by decide +kernel
theorem dX1_choose_1 : decode cX1_choose 1 = .ok (.istore 5, 2) := by decide +kernel
theorem dX1_choose_3 : decode cX1_choose 3 = .ok (.iconst 0, 1) := by decide +kernel
theorem dX1_choose_4 : decode cX1_choose 4 = .ok (.istore 6, 2) := by decide +kernel
theorem dX1_choose_6 : decode cX1_choose 6 = .ok (.aload_n 0, 1) := by decide +kernel
theorem dX1_choose_7 : decode cX1_choose 7 = .ok (.iconst 0, 1) := by decide +kernel
theorem dX1_choose_8 : decode cX1_choose 8 = .ok (.putfield 213, 3) := by decide +kernel
theorem dX1_choose_11 : decode cX1_choose 11 = .ok (.aload_n 0, 1) := by decide +kernel
theorem dX1_choose_12 : decode cX1_choose 12 = .ok (.getfield 22, 3) := by decide +kernel
theorem dX1_choose_15 : decode cX1_choose 15 = .ok (.iconst 3, 1) := by decide +kernel
theorem dX1_choose_16 : decode cX1_choose 16 = .ok (.aload_n 0, 1) := by decide +kernel
theorem dX1_choose_17 : decode cX1_choose 17 = .ok (.getfield 33, 3) := by decide +kernel
theorem dX1_choose_20 : decode cX1_choose 20 = .ok (.getfield 180, 3) := by decide +kernel
theorem dX1_choose_23 : decode cX1_choose 23 = .ok (.iload_n 1, 1) := by decide +kernel
theorem dX1_choose_24 : decode cX1_choose 24 = .ok (.iaload, 1) := by decide +kernel
theorem dX1_choose_25 : decode cX1_choose 25 = .ok (.iastore, 1) := by decide +kernel
theorem dX1_choose_26 : decode cX1_choose 26 = .ok (.aload_n 0, 1) := by decide +kernel
theorem dX1_choose_27 : decode cX1_choose 27 = .ok (.getfield 22, 3) := by decide +kernel
theorem dX1_choose_30 : decode cX1_choose 30 = .ok (.iconst 4, 1) := by decide +kernel
theorem dX1_choose_31 : decode cX1_choose 31 = .ok (.iload_n 3, 1) := by decide +kernel
theorem dX1_choose_32 : decode cX1_choose 32 = .ok (.iastore, 1) := by decide +kernel
theorem dX1_choose_33 : decode cX1_choose 33 = .ok (.aload_n 0, 1) := by decide +kernel
theorem dX1_choose_34 : decode cX1_choose 34 = .ok (.getfield 22, 3) := by decide +kernel
theorem dX1_choose_37 : decode cX1_choose 37 = .ok (.iconst 5, 1) := by decide +kernel
theorem dX1_choose_38 : decode cX1_choose 38 = .ok (.iload 4, 2) := by decide +kernel
theorem dX1_choose_40 : decode cX1_choose 40 = .ok (.iastore, 1) := by decide +kernel
theorem dX1_choose_41 : decode cX1_choose 41 = .ok (.iconst 0, 1) := by decide +kernel
theorem dX1_choose_42 : decode cX1_choose 42 = .ok (.istore 7, 2) := by decide +kernel
theorem dX1_choose_44 : decode cX1_choose 44 = .ok (.iload 7, 2) := by decide +kernel
theorem dX1_choose_46 : decode cX1_choose 46 = .ok (.aload_n 0, 1) := by decide +kernel
theorem dX1_choose_47 : decode cX1_choose 47 = .ok (.getfield 33, 3) := by decide +kernel
theorem dX1_choose_50 : decode cX1_choose 50 = .ok (.getfield 180, 3) := by decide +kernel
theorem dX1_choose_53 : decode cX1_choose 53 = .ok (.iload_n 1, 1) := by decide +kernel
theorem dX1_choose_54 : decode cX1_choose 54 = .ok (.iaload, 1) := by decide +kernel
theorem dX1_choose_55 : decode cX1_choose 55 = .ok (.if_icmp .ge 166, 3) := by decide +kernel
theorem dX1_choose_58 : decode cX1_choose 58 = .ok (.aload_n 0, 1) := by decide +kernel
theorem dX1_choose_59 : decode cX1_choose 59 = .ok (.getfield 33, 3) := by decide +kernel
theorem dX1_choose_62 : decode cX1_choose 62 = .ok (.getfield 216, 3) := by decide +kernel
theorem dX1_choose_65 : decode cX1_choose 65 = .ok (.iload_n 1, 1) := by decide +kernel
theorem dX1_choose_66 : decode cX1_choose 66 = .ok (.bipush 30, 2) := by decide +kernel
theorem dX1_choose_68 : decode cX1_choose 68 = .ok (.imul, 1) := by decide +kernel
theorem dX1_choose_69 : decode cX1_choose 69 = .ok (.iload 7, 2) := by decide +kernel
theorem dX1_choose_71 : decode cX1_choose 71 = .ok (.iadd, 1) := by decide +kernel
theorem dX1_choose_72 : decode cX1_choose 72 = .ok (.iaload, 1) := by decide +kernel
theorem dX1_choose_73 : decode cX1_choose 73 = .ok (.istore 8, 2) := by decide +kernel
theorem dX1_choose_75 : decode cX1_choose 75 = .ok (.aload_n 0, 1) := by decide +kernel
theorem dX1_choose_76 : decode cX1_choose 76 = .ok (.getfield 25, 3) := by decide +kernel
theorem dX1_choose_79 : decode cX1_choose 79 = .ok (.getfield 138, 3) := by decide +kernel
theorem dX1_choose_82 : decode cX1_choose 82 = .ok (.getfield 219, 3) := by decide +kernel
theorem dX1_choose_85 : decode cX1_choose 85 = .ok (.iload 8, 2) := by decide +kernel
theorem dX1_choose_87 : decode cX1_choose 87 = .ok (.iaload, 1) := by decide +kernel
theorem dX1_choose_88 : decode cX1_choose 88 = .ok (.istore 9, 2) := by decide +kernel
theorem dX1_choose_90 : decode cX1_choose 90 = .ok (.iload 9, 2) := by decide +kernel
theorem dX1_choose_92 : decode cX1_choose 92 = .ok (.iload 5, 2) := by decide +kernel
theorem dX1_choose_94 : decode cX1_choose 94 = .ok (.if_icmp .le 17, 3) := by decide +kernel
theorem dX1_choose_97 : decode cX1_choose 97 = .ok (.aload_n 0, 1) := by decide +kernel
theorem dX1_choose_98 : decode cX1_choose 98 = .ok (.getfield 25, 3) := by decide +kernel
theorem dX1_choose_101 : decode cX1_choose 101 = .ok (.getfield 222, 3) := by decide +kernel
theorem dX1_choose_104 : decode cX1_choose 104 = .ok (.iconst 1, 1) := by decide +kernel
theorem dX1_choose_105 : decode cX1_choose 105 = .ok (.if_icmp .ne 110, 3) := by decide +kernel
theorem dX1_choose_108 : decode cX1_choose 108 = .ok (.goto 113, 3) := by decide +kernel
theorem dX1_choose_111 : decode cX1_choose 111 = .ok (.aload_n 0, 1) := by decide +kernel
theorem dX1_choose_112 : decode cX1_choose 112 = .ok (.getfield 22, 3) := by decide +kernel
theorem dX1_choose_115 : decode cX1_choose 115 = .ok (.iconst 0, 1) := by decide +kernel
theorem dX1_choose_116 : decode cX1_choose 116 = .ok (.iload 9, 2) := by decide +kernel
theorem dX1_choose_118 : decode cX1_choose 118 = .ok (.iastore, 1) := by decide +kernel
theorem dX1_choose_119 : decode cX1_choose 119 = .ok (.aload_n 0, 1) := by decide +kernel
theorem dX1_choose_120 : decode cX1_choose 120 = .ok (.getfield 22, 3) := by decide +kernel
theorem dX1_choose_123 : decode cX1_choose 123 = .ok (.iconst 1, 1) := by decide +kernel
theorem dX1_choose_124 : decode cX1_choose 124 = .ok (.iload 5, 2) := by decide +kernel
theorem dX1_choose_126 : decode cX1_choose 126 = .ok (.iastore, 1) := by decide +kernel
theorem dX1_choose_127 : decode cX1_choose 127 = .ok (.aload_n 0, 1) := by decide +kernel
theorem dX1_choose_128 : decode cX1_choose 128 = .ok (.getfield 22, 3) := by decide +kernel
theorem dX1_choose_131 : decode cX1_choose 131 = .ok (.iconst 2, 1) := by decide +kernel
theorem dX1_choose_132 : decode cX1_choose 132 = .ok (.iload 4, 2) := by decide +kernel
theorem dX1_choose_134 : decode cX1_choose 134 = .ok (.aload_n 0, 1) := by decide +kernel
theorem dX1_choose_135 : decode cX1_choose 135 = .ok (.getfield 33, 3) := by decide +kernel
theorem dX1_choose_138 : decode cX1_choose 138 = .ok (.getfield 225, 3) := by decide +kernel
theorem dX1_choose_141 : decode cX1_choose 141 = .ok (.iload 8, 2) := by decide +kernel
theorem dX1_choose_143 : decode cX1_choose 143 = .ok (.iaload, 1) := by decide +kernel
theorem dX1_choose_144 : decode cX1_choose 144 = .ok (.isub, 1) := by decide +kernel
theorem dX1_choose_145 : decode cX1_choose 145 = .ok (.iastore, 1) := by decide +kernel
theorem dX1_choose_146 : decode cX1_choose 146 = .ok (.aload_n 0, 1) := by decide +kernel
theorem dX1_choose_147 : decode cX1_choose 147 = .ok (.getfield 22, 3) := by decide +kernel
theorem dX1_choose_150 : decode cX1_choose 150 = .ok (.bipush 6, 2) := by decide +kernel
theorem dX1_choose_152 : decode cX1_choose 152 = .ok (.aload_n 0, 1) := by decide +kernel
theorem dX1_choose_153 : decode cX1_choose 153 = .ok (.getfield 33, 3) := by decide +kernel
theorem dX1_choose_156 : decode cX1_choose 156 = .ok (.getfield 228, 3) := by decide +kernel
theorem dX1_choose_159 : decode cX1_choose 159 = .ok (.iload 8, 2) := by decide +kernel
theorem dX1_choose_161 : decode cX1_choose 161 = .ok (.iaload, 1) := by decide +kernel
theorem dX1_choose_162 : decode cX1_choose 162 = .ok (.iastore, 1) := by decide +kernel
theorem dX1_choose_163 : decode cX1_choose 163 = .ok (.aload_n 0, 1) := by decide +kernel
theorem dX1_choose_164 : decode cX1_choose 164 = .ok (.getfield 25, 3) := by decide +kernel
theorem dX1_choose_167 : decode cX1_choose 167 = .ok (.getfield 231, 3) := by decide +kernel
theorem dX1_choose_170 : decode cX1_choose 170 = .ok (.aload_n 0, 1) := by decide +kernel
theorem dX1_choose_171 : decode cX1_choose 171 = .ok (.getfield 22, 3) := by decide +kernel
theorem dX1_choose_174 : decode cX1_choose 174 = .ok (.invokevirtual 235, 3) := by decide +kernel
theorem dX1_choose_177 : decode cX1_choose 177 = .ok (.ifCond .eq 38, 3) := by decide +kernel
theorem dX1_choose_180 : decode cX1_choose 180 = .ok (.aload_n 0, 1) := by decide +kernel
theorem dX1_choose_181 : decode cX1_choose 181 = .ok (.getfield 18, 3) := by decide +kernel
theorem dX1_choose_184 : decode cX1_choose 184 = .ok (.aload_n 0, 1) := by decide +kernel
theorem dX1_choose_185 : decode cX1_choose 185 = .ok (.getfield 213, 3) := by decide +kernel
theorem dX1_choose_188 : decode cX1_choose 188 = .ok (.iload 8, 2) := by decide +kernel
theorem dX1_choose_190 : decode cX1_choose 190 = .ok (.iastore, 1) := by decide +kernel
theorem dX1_choose_191 : decode cX1_choose 191 = .ok (.aload_n 0, 1) := by decide +kernel
theorem dX1_choose_192 : decode cX1_choose 192 = .ok (.dup, 1) := by decide +kernel
theorem dX1_choose_193 : decode cX1_choose 193 = .ok (.getfield 213, 3) := by decide +kernel
theorem dX1_choose_196 : decode cX1_choose 196 = .ok (.iconst 1, 1) := by decide +kernel
theorem dX1_choose_197 : decode cX1_choose 197 = .ok (.iadd, 1) := by decide +kernel
theorem dX1_choose_198 : decode cX1_choose 198 = .ok (.putfield 213, 3) := by decide +kernel
theorem dX1_choose_201 : decode cX1_choose 201 = .ok (.iload 5, 2) := by decide +kernel
theorem dX1_choose_203 : decode cX1_choose 203 = .ok (.iload 9, 2) := by decide +kernel
theorem dX1_choose_205 : decode cX1_choose 205 = .ok (.isub, 1) := by decide +kernel
theorem dX1_choose_206 : decode cX1_choose 206 = .ok (.istore 5, 2) := by decide +kernel
theorem dX1_choose_208 : decode cX1_choose 208 = .ok (.iload 6, 2) := by decide +kernel
theorem dX1_choose_210 : decode cX1_choose 210 = .ok (.iload 9, 2) := by decide +kernel
theorem dX1_choose_212 : decode cX1_choose 212 = .ok (.iadd, 1) := by decide +kernel
theorem dX1_choose_213 : decode cX1_choose 213 = .ok (.istore 6, 2) := by decide +kernel
theorem dX1_choose_215 : decode cX1_choose 215 = .ok (.iinc 7 1, 3) := by decide +kernel
theorem dX1_choose_218 : decode cX1_choose 218 = .ok (.goto (-174), 3) := by decide +kernel
theorem dX1_choose_221 : decode cX1_choose 221 = .ok (.iload 6, 2) := by decide +kernel
theorem dX1_choose_223 : decode cX1_choose 223 = .ok (.ireturn, 1) := by decide +kernel
theorem dX1_carry_0 : decode cX1_carry 0 = .ok (.aload_n 0, 1) := by decide +kernel
theorem dX1_carry_1 : decode cX1_carry 1 = .ok (.getfield 33, 3) := by decide +kernel
theorem dX1_carry_4 : decode cX1_carry 4 = .ok (.aload_n 0, 1) := by decide +kernel
theorem dX1_carry_5 : decode cX1_carry 5 = .ok (.getfield 18, 3) := by decide +kernel
theorem dX1_carry_8 : decode cX1_carry 8 = .ok (.aload_n 0, 1) := by decide +kernel
theorem dX1_carry_9 : decode cX1_carry 9 = .ok (.getfield 213, 3) := by decide +kernel
theorem dX1_carry_12 : decode cX1_carry 12 = .ok (.iload_n 1, 1) := by decide +kernel
theorem dX1_carry_13 : decode cX1_carry 13 = .ok (.invokevirtual 161, 3) := by decide +kernel
theorem dX1_carry_16 : decode cX1_carry 16 = .ok (.iconst 0, 1) := by decide +kernel
theorem dX1_carry_17 : decode cX1_carry 17 = .ok (.istore 5, 2) := by decide +kernel
theorem dX1_carry_19 : decode cX1_carry 19 = .ok (.iload 5, 2) := by decide +kernel
theorem dX1_carry_21 : decode cX1_carry 21 = .ok (.aload_n 0, 1) := by decide +kernel
theorem dX1_carry_22 : decode cX1_carry 22 = .ok (.getfield 213, 3) := by decide +kernel
theorem dX1_carry_25 : decode cX1_carry 25 = .ok (.if_icmp .ge 59, 3) := by decide +kernel
theorem dX1_carry_28 : decode cX1_carry 28 = .ok (.aload_n 0, 1) := by decide +kernel
theorem dX1_carry_29 : decode cX1_carry 29 = .ok (.getfield 18, 3) := by decide +kernel
theorem dX1_carry_32 : decode cX1_carry 32 = .ok (.iload 5, 2) := by decide +kernel
theorem dX1_carry_34 : decode cX1_carry 34 = .ok (.iaload, 1) := by decide +kernel
theorem dX1_carry_35 : decode cX1_carry 35 = .ok (.istore 6, 2) := by decide +kernel
theorem dX1_carry_37 : decode cX1_carry 37 = .ok (.aload_n 0, 1) := by decide +kernel
theorem dX1_carry_38 : decode cX1_carry 38 = .ok (.getfield 33, 3) := by decide +kernel
theorem dX1_carry_41 : decode cX1_carry 41 = .ok (.getfield 228, 3) := by decide +kernel
theorem dX1_carry_44 : decode cX1_carry 44 = .ok (.iload 6, 2) := by decide +kernel
theorem dX1_carry_46 : decode cX1_carry 46 = .ok (.dup2, 1) := by decide +kernel
theorem dX1_carry_47 : decode cX1_carry 47 = .ok (.iaload, 1) := by decide +kernel
theorem dX1_carry_48 : decode cX1_carry 48 = .ok (.iconst 1, 1) := by decide +kernel
theorem dX1_carry_49 : decode cX1_carry 49 = .ok (.iadd, 1) := by decide +kernel
theorem dX1_carry_50 : decode cX1_carry 50 = .ok (.iastore, 1) := by decide +kernel
theorem dX1_carry_51 : decode cX1_carry 51 = .ok (.aload_n 0, 1) := by decide +kernel
theorem dX1_carry_52 : decode cX1_carry 52 = .ok (.iload 6, 2) := by decide +kernel
theorem dX1_carry_54 : decode cX1_carry 54 = .ok (.iload_n 2, 1) := by decide +kernel
theorem dX1_carry_55 : decode cX1_carry 55 = .ok (.iload_n 3, 1) := by decide +kernel
theorem dX1_carry_56 : decode cX1_carry 56 = .ok (.invokevirtual 148, 3) := by decide +kernel
theorem dX1_carry_59 : decode cX1_carry 59 = .ok (.aload_n 0, 1) := by decide +kernel
theorem dX1_carry_60 : decode cX1_carry 60 = .ok (.getfield 37, 3) := by decide +kernel
theorem dX1_carry_63 : decode cX1_carry 63 = .ok (.ifCond .eq 15, 3) := by decide +kernel
theorem dX1_carry_66 : decode cX1_carry 66 = .ok (.aload_n 0, 1) := by decide +kernel
theorem dX1_carry_67 : decode cX1_carry 67 = .ok (.getfield 29, 3) := by decide +kernel
theorem dX1_carry_70 : decode cX1_carry 70 = .ok (.iload 6, 2) := by decide +kernel
theorem dX1_carry_72 : decode cX1_carry 72 = .ok (.iload 4, 2) := by decide +kernel
theorem dX1_carry_74 : decode cX1_carry 74 = .ok (.iload_n 3, 1) := by decide +kernel
theorem dX1_carry_75 : decode cX1_carry 75 = .ok (.invokevirtual 241, 3) := by decide +kernel
theorem dX1_carry_78 : decode cX1_carry 78 = .ok (.iinc 5 1, 3) := by decide +kernel
theorem dX1_carry_81 : decode cX1_carry 81 = .ok (.goto (-62), 3) := by decide +kernel
theorem dX1_carry_84 : decode cX1_carry 84 = .ok (.aload_n 0, 1) := by decide +kernel
theorem dX1_carry_85 : decode cX1_carry 85 = .ok (.dup, 1) := by decide +kernel
theorem dX1_carry_86 : decode cX1_carry 86 = .ok (.getfield 66, 3) := by decide +kernel
theorem dX1_carry_89 : decode cX1_carry 89 = .ok (.aload_n 0, 1) := by decide +kernel
theorem dX1_carry_90 : decode cX1_carry 90 = .ok (.getfield 213, 3) := by decide +kernel
theorem dX1_carry_93 : decode cX1_carry 93 = .ok (.iadd, 1) := by decide +kernel
theorem dX1_carry_94 : decode cX1_carry 94 = .ok (.putfield 66, 3) := by decide +kernel
theorem dX1_carry_97 : decode cX1_carry 97 = .ok (.return_, 1) := by decide +kernel
theorem dX2_init_0 : decode cX2_init 0 = .ok (.aload_n 0, 1) := by decide +kernel
theorem dX2_init_1 : decode cX2_init 1 = .ok (.invokespecial 3, 3) := by decide +kernel
theorem dX2_init_4 : decode cX2_init 4 = .ok (.aload_n 0, 1) := by decide +kernel
theorem dX2_init_5 : decode cX2_init 5 = .ok (.bipush 20, 2) := by decide +kernel
theorem dX2_init_7 : decode cX2_init 7 = .ok (.newarray .int, 2) := by decide +kernel
theorem dX2_init_9 : decode cX2_init 9 = .ok (.putfield 9, 3) := by decide +kernel
theorem dX2_init_12 : decode cX2_init 12 = .ok (.aload_n 0, 1) := by decide +kernel
theorem dX2_init_13 : decode cX2_init 13 = .ok (.bipush 20, 2) := by decide +kernel
theorem dX2_init_15 : decode cX2_init 15 = .ok (.newarray .int, 2) := by decide +kernel
theorem dX2_init_17 : decode cX2_init 17 = .ok (.putfield 15, 3) := by decide +kernel
theorem dX2_init_20 : decode cX2_init 20 = .ok (.aload_n 0, 1) := by decide +kernel
theorem dX2_init_21 : decode cX2_init 21 = .ok (.bipush 20, 2) := by decide +kernel
theorem dX2_init_23 : decode cX2_init 23 = .ok (.newarray .int, 2) := by decide +kernel
theorem dX2_init_25 : decode cX2_init 25 = .ok (.putfield 18, 3) := by decide +kernel
theorem dX2_init_28 : decode cX2_init 28 = .ok (.aload_n 0, 1) := by decide +kernel
theorem dX2_init_29 : decode cX2_init 29 = .ok (.bipush 20, 2) := by decide +kernel
theorem dX2_init_31 : decode cX2_init 31 = .ok (.newarray .int, 2) := by decide +kernel
theorem dX2_init_33 : decode cX2_init 33 = .ok (.putfield 21, 3) := by decide +kernel
theorem dX2_init_36 : decode cX2_init 36 = .ok (.aload_n 0, 1) := by decide +kernel
theorem dX2_init_37 : decode cX2_init 37 = .ok (.bipush 20, 2) := by decide +kernel
theorem dX2_init_39 : decode cX2_init 39 = .ok (.newarray .int, 2) := by decide +kernel
theorem dX2_init_41 : decode cX2_init 41 = .ok (.putfield 24, 3) := by decide +kernel
theorem dX2_init_44 : decode cX2_init 44 = .ok (.aload_n 0, 1) := by decide +kernel
theorem dX2_init_45 : decode cX2_init 45 = .ok (.bipush 20, 2) := by decide +kernel
theorem dX2_init_47 : decode cX2_init 47 = .ok (.newarray .int, 2) := by decide +kernel
theorem dX2_init_49 : decode cX2_init 49 = .ok (.putfield 27, 3) := by decide +kernel
theorem dX2_init_52 : decode cX2_init 52 = .ok (.aload_n 0, 1) := by decide +kernel
theorem dX2_init_53 : decode cX2_init 53 = .ok (.bipush 20, 2) := by decide +kernel
theorem dX2_init_55 : decode cX2_init 55 = .ok (.newarray .int, 2) := by decide +kernel
theorem dX2_init_57 : decode cX2_init 57 = .ok (.putfield 30, 3) := by decide +kernel
theorem dX2_init_60 : decode cX2_init 60 = .ok (.aload_n 0, 1) := by decide +kernel
theorem dX2_init_61 : decode cX2_init 61 = .ok (.bipush 20, 2) := by decide +kernel
theorem dX2_init_63 : decode cX2_init 63 = .ok (.newarray .int, 2) := by decide +kernel
theorem dX2_init_65 : decode cX2_init 65 = .ok (.putfield 33, 3) := by decide +kernel
theorem dX2_init_68 : decode cX2_init 68 = .ok (.aload_n 0, 1) := by decide +kernel
theorem dX2_init_69 : decode cX2_init 69 = .ok (.bipush 20, 2) := by decide +kernel
theorem dX2_init_71 : decode cX2_init 71 = .ok (.newarray .int, 2) := by decide +kernel
theorem dX2_init_73 : decode cX2_init 73 = .ok (.putfield 36, 3) := by decide +kernel
theorem dX2_init_76 : decode cX2_init 76 = .ok (.return_, 1) := by decide +kernel
theorem dX2_add_0 : decode cX2_add 0 = .ok (.aload_n 0, 1) := by decide +kernel
theorem dX2_add_1 : decode cX2_add 1 = .ok (.getfield 39, 3) := by decide +kernel
theorem dX2_add_4 : decode cX2_add 4 = .ok (.bipush 20, 2) := by decide +kernel
theorem dX2_add_6 : decode cX2_add 6 = .ok (.if_icmp .lt 5, 3) := by decide +kernel
theorem dX2_add_9 : decode cX2_add 9 = .ok (.iconst (-1), 1) := by decide +kernel
theorem dX2_add_10 : decode cX2_add 10 = .ok (.ireturn, 1) := by decide +kernel
theorem dX2_add_11 : decode cX2_add 11 = .ok (.aload_n 0, 1) := by decide +kernel
theorem dX2_add_12 : decode cX2_add 12 = .ok (.getfield 9, 3) := by decide +kernel
theorem dX2_add_15 : decode cX2_add 15 = .ok (.aload_n 0, 1) := by decide +kernel
theorem dX2_add_16 : decode cX2_add 16 = .ok (.getfield 39, 3) := by decide +kernel
theorem dX2_add_19 : decode cX2_add 19 = .ok (.iload_n 1, 1) := by decide +kernel
theorem dX2_add_20 : decode cX2_add 20 = .ok (.iastore, 1) := by decide +kernel
theorem dX2_add_21 : decode cX2_add 21 = .ok (.aload_n 0, 1) := by decide +kernel
theorem dX2_add_22 : decode cX2_add 22 = .ok (.getfield 15, 3) := by decide +kernel
theorem dX2_add_25 : decode cX2_add 25 = .ok (.aload_n 0, 1) := by decide +kernel
theorem dX2_add_26 : decode cX2_add 26 = .ok (.getfield 39, 3) := by decide +kernel
theorem dX2_add_29 : decode cX2_add 29 = .ok (.iload_n 2, 1) := by decide +kernel
theorem dX2_add_30 : decode cX2_add 30 = .ok (.iastore, 1) := by decide +kernel
theorem dX2_add_31 : decode cX2_add 31 = .ok (.aload_n 0, 1) := by decide +kernel
theorem dX2_add_32 : decode cX2_add 32 = .ok (.getfield 18, 3) := by decide +kernel
theorem dX2_add_35 : decode cX2_add 35 = .ok (.aload_n 0, 1) := by decide +kernel
theorem dX2_add_36 : decode cX2_add 36 = .ok (.getfield 39, 3) := by decide +kernel
theorem dX2_add_39 : decode cX2_add 39 = .ok (.iload_n 3, 1) := by decide +kernel
theorem dX2_add_40 : decode cX2_add 40 = .ok (.iastore, 1) := by decide +kernel
theorem dX2_add_41 : decode cX2_add 41 = .ok (.aload_n 0, 1) := by decide +kernel
theorem dX2_add_42 : decode cX2_add 42 = .ok (.getfield 21, 3) := by decide +kernel
theorem dX2_add_45 : decode cX2_add 45 = .ok (.aload_n 0, 1) := by decide +kernel
theorem dX2_add_46 : decode cX2_add 46 = .ok (.getfield 39, 3) := by decide +kernel
theorem dX2_add_49 : decode cX2_add 49 = .ok (.iload 4, 2) := by decide +kernel
theorem dX2_add_51 : decode cX2_add 51 = .ok (.iastore, 1) := by decide +kernel
theorem dX2_add_52 : decode cX2_add 52 = .ok (.aload_n 0, 1) := by decide +kernel
theorem dX2_add_53 : decode cX2_add 53 = .ok (.getfield 24, 3) := by decide +kernel
theorem dX2_add_56 : decode cX2_add 56 = .ok (.aload_n 0, 1) := by decide +kernel
theorem dX2_add_57 : decode cX2_add 57 = .ok (.getfield 39, 3) := by decide +kernel
theorem dX2_add_60 : decode cX2_add 60 = .ok (.iload 5, 2) := by decide +kernel
theorem dX2_add_62 : decode cX2_add 62 = .ok (.iastore, 1) := by decide +kernel
theorem dX2_add_63 : decode cX2_add 63 = .ok (.aload_n 0, 1) := by decide +kernel
theorem dX2_add_64 : decode cX2_add 64 = .ok (.getfield 27, 3) := by decide +kernel
theorem dX2_add_67 : decode cX2_add 67 = .ok (.aload_n 0, 1) := by decide +kernel
theorem dX2_add_68 : decode cX2_add 68 = .ok (.getfield 39, 3) := by decide +kernel
theorem dX2_add_71 : decode cX2_add 71 = .ok (.iload 6, 2) := by decide +kernel
theorem dX2_add_73 : decode cX2_add 73 = .ok (.iastore, 1) := by decide +kernel
theorem dX2_add_74 : decode cX2_add 74 = .ok (.aload_n 0, 1) := by decide +kernel
theorem dX2_add_75 : decode cX2_add 75 = .ok (.getfield 30, 3) := by decide +kernel
theorem dX2_add_78 : decode cX2_add 78 = .ok (.aload_n 0, 1) := by decide +kernel
theorem dX2_add_79 : decode cX2_add 79 = .ok (.getfield 39, 3) := by decide +kernel
theorem dX2_add_82 : decode cX2_add 82 = .ok (.iconst 0, 1) := by decide +kernel
theorem dX2_add_83 : decode cX2_add 83 = .ok (.iastore, 1) := by decide +kernel
theorem dX2_add_84 : decode cX2_add 84 = .ok (.aload_n 0, 1) := by decide +kernel
theorem dX2_add_85 : decode cX2_add 85 = .ok (.getfield 33, 3) := by decide +kernel
theorem dX2_add_88 : decode cX2_add 88 = .ok (.aload_n 0, 1) := by decide +kernel
theorem dX2_add_89 : decode cX2_add 89 = .ok (.getfield 39, 3) := by decide +kernel
theorem dX2_add_92 : decode cX2_add 92 = .ok (.iconst 0, 1) := by decide +kernel
theorem dX2_add_93 : decode cX2_add 93 = .ok (.iastore, 1) := by decide +kernel
theorem dX2_add_94 : decode cX2_add 94 = .ok (.aload_n 0, 1) := by decide +kernel
theorem dX2_add_95 : decode cX2_add 95 = .ok (.getfield 36, 3) := by decide +kernel
theorem dX2_add_98 : decode cX2_add 98 = .ok (.aload_n 0, 1) := by decide +kernel
theorem dX2_add_99 : decode cX2_add 99 = .ok (.getfield 39, 3) := by decide +kernel
theorem dX2_add_102 : decode cX2_add 102 = .ok (.iconst 0, 1) := by decide +kernel
theorem dX2_add_103 : decode cX2_add 103 = .ok (.iastore, 1) := by decide +kernel
theorem dX2_add_104 : decode cX2_add 104 = .ok (.aload_n 0, 1) := by decide +kernel
theorem dX2_add_105 : decode cX2_add 105 = .ok (.dup, 1) := by decide +kernel
theorem dX2_add_106 : decode cX2_add 106 = .ok (.getfield 39, 3) := by decide +kernel
theorem dX2_add_109 : decode cX2_add 109 = .ok (.iconst 1, 1) := by decide +kernel
theorem dX2_add_110 : decode cX2_add 110 = .ok (.iadd, 1) := by decide +kernel
theorem dX2_add_111 : decode cX2_add 111 = .ok (.putfield 39, 3) := by decide +kernel
theorem dX2_add_114 : decode cX2_add 114 = .ok (.aload_n 0, 1) := by decide +kernel
theorem dX2_add_115 : decode cX2_add 115 = .ok (.getfield 39, 3) := by decide +kernel
theorem dX2_add_118 : decode cX2_add 118 = .ok (.iconst 1, 1) := by decide +kernel
theorem dX2_add_119 : decode cX2_add 119 = .ok (.isub, 1) := by decide +kernel
theorem dX2_add_120 : decode cX2_add 120 = .ok (.ireturn, 1) := by decide +kernel
theorem dX2_has_0 : decode cX2_has 0 = .ok (.iload_n 1, 1) := by decide +kernel
theorem dX2_has_1 : decode cX2_has 1 = .ok (.ifCond .lt 15, 3) := by decide +kernel
theorem dX2_has_4 : decode cX2_has 4 = .ok (.iload_n 1, 1) := by decide +kernel
theorem dX2_has_5 : decode cX2_has 5 = .ok (.aload_n 0, 1) := by decide +kernel
theorem dX2_has_6 : decode cX2_has 6 = .ok (.getfield 39, 3) := by decide +kernel
theorem dX2_has_9 : decode cX2_has 9 = .ok (.if_icmp .ge 7, 3) := by decide +kernel
theorem dX2_has_12 : decode cX2_has 12 = .ok (.iconst 1, 1) := by decide +kernel
theorem dX2_has_13 : decode cX2_has 13 = .ok (.goto 4, 3) := by decide +kernel
theorem dX2_has_16 : decode cX2_has 16 = .ok (.iconst 0, 1) := by decide +kernel
theorem dX2_has_17 : decode cX2_has 17 = .ok (.ireturn, 1) := by decide +kernel
theorem dX2_canFollow_0 : decode cX2_canFollow 0 = .ok (.aload_n 0, 1) := by decide +kernel
theorem dX2_canFollow_1 : decode cX2_canFollow 1 = .ok (.iload_n 1, 1) := by decide +kernel
theorem dX2_canFollow_2 : decode cX2_canFollow 2 = .ok (.invokevirtual 43, 3) := by decide +kernel
theorem dX2_canFollow_5 : decode cX2_canFollow 5 = .ok (.ifCond .eq 50, 3) := by decide +kernel
theorem dX2_canFollow_8 : decode cX2_canFollow 8 = .ok (.aload_n 0, 1) := by decide +kernel
theorem dX2_canFollow_9 : decode cX2_canFollow 9 = .ok (.iload_n 2, 1) := by decide +kernel
theorem dX2_canFollow_10 : decode cX2_canFollow 10 = .ok (.invokevirtual 43, 3) := by decide +kernel
theorem dX2_canFollow_13 : decode cX2_canFollow 13 = .ok (.ifCond .eq 42, 3) := by decide +kernel
theorem dX2_canFollow_16 : decode cX2_canFollow 16 = .ok (.iload_n 1, 1) := by decide +kernel
theorem dX2_canFollow_17 : decode cX2_canFollow 17 = .ok (.iload_n 2, 1) := by decide +kernel
theorem dX2_canFollow_18 : decode cX2_canFollow 18 = .ok (.if_icmp .eq 37, 3) := by decide +kernel
theorem dX2_canFollow_21 : decode cX2_canFollow 21 = .ok (.aload_n 0, 1) := by decide +kernel
theorem dX2_canFollow_22 : decode cX2_canFollow 22 = .ok (.getfield 15, 3) := by decide +kernel
theorem dX2_canFollow_25 : decode cX2_canFollow 25 = .ok (.iload_n 1, 1) := by decide +kernel
theorem dX2_canFollow_26 : decode cX2_canFollow 26 = .ok (.iaload, 1) := by decide +kernel
theorem dX2_canFollow_27 : decode cX2_canFollow 27 = .ok (.aload_n 0, 1) := by decide +kernel
theorem dX2_canFollow_28 : decode cX2_canFollow 28 = .ok (.getfield 15, 3) := by decide +kernel
theorem dX2_canFollow_31 : decode cX2_canFollow 31 = .ok (.iload_n 2, 1) := by decide +kernel
theorem dX2_canFollow_32 : decode cX2_canFollow 32 = .ok (.iaload, 1) := by decide +kernel
theorem dX2_canFollow_33 : decode cX2_canFollow 33 = .ok (.if_icmp .ne 22, 3) := by decide +kernel
theorem dX2_canFollow_36 : decode cX2_canFollow 36 = .ok (.aload_n 0, 1) := by decide +kernel
theorem dX2_canFollow_37 : decode cX2_canFollow 37 = .ok (.getfield 18, 3) := by decide +kernel
theorem dX2_canFollow_40 : decode cX2_canFollow 40 = .ok (.iload_n 1, 1) := by decide +kernel
theorem dX2_canFollow_41 : decode cX2_canFollow 41 = .ok (.iaload, 1) := by decide +kernel
theorem dX2_canFollow_42 : decode cX2_canFollow 42 = .ok (.aload_n 0, 1) := by decide +kernel
theorem dX2_canFollow_43 : decode cX2_canFollow 43 = .ok (.getfield 18, 3) := by decide +kernel
theorem dX2_canFollow_46 : decode cX2_canFollow 46 = .ok (.iload_n 2, 1) := by decide +kernel
theorem dX2_canFollow_47 : decode cX2_canFollow 47 = .ok (.iaload, 1) := by decide +kernel
theorem dX2_canFollow_48 : decode cX2_canFollow 48 = .ok (.if_icmp .ne 7, 3) := by decide +kernel
theorem dX2_canFollow_51 : decode cX2_canFollow 51 = .ok (.iconst 1, 1) := by decide +kernel
theorem dX2_canFollow_52 : decode cX2_canFollow 52 = .ok (.goto 4, 3) := by decide +kernel
theorem dX2_canFollow_55 : decode cX2_canFollow 55 = .ok (.iconst 0, 1) := by decide +kernel
theorem dX2_canFollow_56 : decode cX2_canFollow 56 = .ok (.ireturn, 1) := by decide +kernel
theorem dX2_tellKind_0 : decode cX2_tellKind 0 = .ok (.aload_n 0, 1) := by decide +kernel
theorem dX2_tellKind_1 : decode cX2_tellKind 1 = .ok (.iload_n 1, 1) := by decide +kernel
theorem dX2_tellKind_2 : decode cX2_tellKind 2 = .ok (.invokevirtual 43, 3) := by decide +kernel
theorem dX2_tellKind_5 : decode cX2_tellKind 5 = .ok (.ifCond .eq 17, 3) := by decide +kernel
theorem dX2_tellKind_8 : decode cX2_tellKind 8 = .ok (.aload_n 0, 1) := by decide +kernel
theorem dX2_tellKind_9 : decode cX2_tellKind 9 = .ok (.getfield 30, 3) := by decide +kernel
theorem dX2_tellKind_12 : decode cX2_tellKind 12 = .ok (.iload_n 1, 1) := by decide +kernel
theorem dX2_tellKind_13 : decode cX2_tellKind 13 = .ok (.iload_n 2, 1) := by decide +kernel
theorem dX2_tellKind_14 : decode cX2_tellKind 14 = .ok (.iastore, 1) := by decide +kernel
theorem dX2_tellKind_15 : decode cX2_tellKind 15 = .ok (.aload_n 0, 1) := by decide +kernel
theorem dX2_tellKind_16 : decode cX2_tellKind 16 = .ok (.getfield 33, 3) := by decide +kernel
theorem dX2_tellKind_19 : decode cX2_tellKind 19 = .ok (.iload_n 1, 1) := by decide +kernel
theorem dX2_tellKind_20 : decode cX2_tellKind 20 = .ok (.iload_n 3, 1) := by decide +kernel
theorem dX2_tellKind_21 : decode cX2_tellKind 21 = .ok (.iastore, 1) := by decide +kernel
theorem dX2_tellKind_22 : decode cX2_tellKind 22 = .ok (.return_, 1) := by decide +kernel
theorem dX2_maybeSet_0 : decode cX2_maybeSet 0 = .ok (.iconst 0, 1) := by decide +kernel
theorem dX2_maybeSet_1 : decode cX2_maybeSet 1 = .ok (.istore_n 1, 1) := by decide +kernel
theorem dX2_maybeSet_2 : decode cX2_maybeSet 2 = .ok (.iconst 0, 1) := by decide +kernel
theorem dX2_maybeSet_3 : decode cX2_maybeSet 3 = .ok (.istore_n 2, 1) := by decide +kernel
theorem dX2_maybeSet_4 : decode cX2_maybeSet 4 = .ok (.iload_n 2, 1) := by decide +kernel
theorem dX2_maybeSet_5 : decode cX2_maybeSet 5 = .ok (.aload_n 0, 1) := by decide +kernel
theorem dX2_maybeSet_6 : decode cX2_maybeSet 6 = .ok (.getfield 39, 3) := by decide +kernel
theorem dX2_maybeSet_9 : decode cX2_maybeSet 9 = .ok (.if_icmp .ge 20, 3) := by decide +kernel
theorem dX2_maybeSet_12 : decode cX2_maybeSet 12 = .ok (.iload_n 1, 1) := by decide +kernel
theorem dX2_maybeSet_13 : decode cX2_maybeSet 13 = .ok (.aload_n 0, 1) := by decide +kernel
theorem dX2_maybeSet_14 : decode cX2_maybeSet 14 = .ok (.getfield 36, 3) := by decide +kernel
theorem dX2_maybeSet_17 : decode cX2_maybeSet 17 = .ok (.iload_n 2, 1) := by decide +kernel
theorem dX2_maybeSet_18 : decode cX2_maybeSet 18 = .ok (.iaload, 1) := by decide +kernel
theorem dX2_maybeSet_19 : decode cX2_maybeSet 19 = .ok (.iload_n 2, 1) := by decide +kernel
theorem dX2_maybeSet_20 : decode cX2_maybeSet 20 = .ok (.ishl, 1) := by decide +kernel
theorem dX2_maybeSet_21 : decode cX2_maybeSet 21 = .ok (.ior, 1) := by decide +kernel
theorem dX2_maybeSet_22 : decode cX2_maybeSet 22 = .ok (.istore_n 1, 1) := by decide +kernel
theorem dX2_maybeSet_23 : decode cX2_maybeSet 23 = .ok (.iinc 2 1, 3) := by decide +kernel
theorem dX2_maybeSet_26 : decode cX2_maybeSet 26 = .ok (.goto (-22), 3) := by decide +kernel
theorem dX2_maybeSet_29 : decode cX2_maybeSet 29 = .ok (.iload_n 1, 1) := by decide +kernel
theorem dX2_maybeSet_30 : decode cX2_maybeSet 30 = .ok (.ireturn, 1) := by decide +kernel
theorem dX2_tell_0 : decode cX2_tell 0 = .ok (.aload_n 0, 1) := by decide +kernel
theorem dX2_tell_1 : decode cX2_tell 1 = .ok (.iload_n 1, 1) := by decide +kernel
theorem dX2_tell_2 : decode cX2_tell 2 = .ok (.invokevirtual 43, 3) := by decide +kernel
theorem dX2_tell_5 : decode cX2_tell 5 = .ok (.ifCond .ne 6, 3) := by decide +kernel
theorem dX2_tell_8 : decode cX2_tell 8 = .ok (.bipush (-2), 2) := by decide +kernel
theorem dX2_tell_10 : decode cX2_tell 10 = .ok (.ireturn, 1) := by decide +kernel
theorem dX2_tell_11 : decode cX2_tell 11 = .ok (.iload_n 2, 1) := by decide +kernel
theorem dX2_tell_12 : decode cX2_tell 12 = .ok (.tableswitch 127 0 11 #[64, 71, 78, 85, 92, 99, 106, 113, 127, 127, 127, 120], 64) := by decide +kernel
theorem dX2_tell_76 : decode cX2_tell 76 = .ok (.aload_n 0, 1) := by decide +kernel
theorem dX2_tell_77 : decode cX2_tell 77 = .ok (.getfield 9, 3) := by decide +kernel
theorem dX2_tell_80 : decode cX2_tell 80 = .ok (.iload_n 1, 1) := by decide +kernel
theorem dX2_tell_81 : decode cX2_tell 81 = .ok (.iaload, 1) := by decide +kernel
theorem dX2_tell_82 : decode cX2_tell 82 = .ok (.ireturn, 1) := by decide +kernel
theorem dX2_tell_83 : decode cX2_tell 83 = .ok (.aload_n 0, 1) := by decide +kernel
theorem dX2_tell_84 : decode cX2_tell 84 = .ok (.getfield 15, 3) := by decide +kernel
theorem dX2_tell_87 : decode cX2_tell 87 = .ok (.iload_n 1, 1) := by decide +kernel
theorem dX2_tell_88 : decode cX2_tell 88 = .ok (.iaload, 1) := by decide +kernel
theorem dX2_tell_89 : decode cX2_tell 89 = .ok (.ireturn, 1) := by decide +kernel
theorem dX2_tell_90 : decode cX2_tell 90 = .ok (.aload_n 0, 1) := by decide +kernel
theorem dX2_tell_91 : decode cX2_tell 91 = .ok (.getfield 18, 3) := by decide +kernel
theorem dX2_tell_94 : decode cX2_tell 94 = .ok (.iload_n 1, 1) := by decide +kernel
theorem dX2_tell_95 : decode cX2_tell 95 = .ok (.iaload, 1) := by decide +kernel
theorem dX2_tell_96 : decode cX2_tell 96 = .ok (.ireturn, 1) := by decide +kernel
theorem dX2_tell_97 : decode cX2_tell 97 = .ok (.aload_n 0, 1) := by decide +kernel
theorem dX2_tell_98 : decode cX2_tell 98 = .ok (.getfield 21, 3) := by decide +kernel
theorem dX2_tell_101 : decode cX2_tell 101 = .ok (.iload_n 1, 1) := by decide +kernel
theorem dX2_tell_102 : decode cX2_tell 102 = .ok (.iaload, 1) := by decide +kernel
theorem dX2_tell_103 : decode cX2_tell 103 = .ok (.ireturn, 1) := by decide +kernel
theorem dX2_tell_104 : decode cX2_tell 104 = .ok (.aload_n 0, 1) := by decide +kernel
theorem dX2_tell_105 : decode cX2_tell 105 = .ok (.getfield 24, 3) := by decide +kernel
theorem dX2_tell_108 : decode cX2_tell 108 = .ok (.iload_n 1, 1) := by decide +kernel
theorem dX2_tell_109 : decode cX2_tell 109 = .ok (.iaload, 1) := by decide +kernel
theorem dX2_tell_110 : decode cX2_tell 110 = .ok (.ireturn, 1) := by decide +kernel
theorem dX2_tell_111 : decode cX2_tell 111 = .ok (.aload_n 0, 1) := by decide +kernel
theorem dX2_tell_112 : decode cX2_tell 112 = .ok (.getfield 27, 3) := by decide +kernel
theorem dX2_tell_115 : decode cX2_tell 115 = .ok (.iload_n 1, 1) := by decide +kernel
theorem dX2_tell_116 : decode cX2_tell 116 = .ok (.iaload, 1) := by decide +kernel
theorem dX2_tell_117 : decode cX2_tell 117 = .ok (.ireturn, 1) := by decide +kernel
theorem dX2_tell_118 : decode cX2_tell 118 = .ok (.aload_n 0, 1) := by decide +kernel
theorem dX2_tell_119 : decode cX2_tell 119 = .ok (.getfield 30, 3) := by decide +kernel
theorem dX2_tell_122 : decode cX2_tell 122 = .ok (.iload_n 1, 1) := by decide +kernel
theorem dX2_tell_123 : decode cX2_tell 123 = .ok (.iaload, 1) := by decide +kernel
theorem dX2_tell_124 : decode cX2_tell 124 = .ok (.ireturn, 1) := by decide +kernel
theorem dX2_tell_125 : decode cX2_tell 125 = .ok (.aload_n 0, 1) := by decide +kernel
theorem dX2_tell_126 : decode cX2_tell 126 = .ok (.getfield 33, 3) := by decide +kernel
theorem dX2_tell_129 : decode cX2_tell 129 = .ok (.iload_n 1, 1) := by decide +kernel
theorem dX2_tell_130 : decode cX2_tell 130 = .ok (.iaload, 1) := by decide +kernel
theorem dX2_tell_131 : decode cX2_tell 131 = .ok (.ireturn, 1) := by decide +kernel
theorem dX2_tell_132 : decode cX2_tell 132 = .ok (.aload_n 0, 1) := by decide +kernel
theorem dX2_tell_133 : decode cX2_tell 133 = .ok (.getfield 36, 3) := by decide +kernel
theorem dX2_tell_136 : decode cX2_tell 136 = .ok (.iload_n 1, 1) := by decide +kernel
theorem dX2_tell_137 : decode cX2_tell 137 = .ok (.iaload, 1) := by decide +kernel
theorem dX2_tell_138 : decode cX2_tell 138 = .ok (.ireturn, 1) := by decide +kernel
theorem dX2_tell_139 : decode cX2_tell 139 = .ok (.bipush (-2), 2) := by decide +kernel
theorem dX2_tell_141 : decode cX2_tell 141 = .ok (.ireturn, 1) := by decide +kernel
theorem dX2_copyFrom_0 : decode cX2_copyFrom 0 = .ok (.aload_n 1, 1) := by decide +kernel
theorem dX2_copyFrom_1 : decode cX2_copyFrom 1 = .ok (.getfield 9, 3) := by decide +kernel
theorem dX2_copyFrom_4 : decode cX2_copyFrom 4 = .ok (.iconst 0, 1) := by decide +kernel
theorem dX2_copyFrom_5 : decode cX2_copyFrom 5 = .ok (.aload_n 0, 1) := by decide +kernel
theorem dX2_copyFrom_6 : decode cX2_copyFrom 6 = .ok (.getfield 9, 3) := by decide +kernel
theorem dX2_copyFrom_9 : decode cX2_copyFrom 9 = .ok (.iconst 0, 1) := by decide +kernel
theorem dX2_copyFrom_10 : decode cX2_copyFrom 10 = .ok (.bipush 20, 2) := by decide +kernel
theorem dX2_copyFrom_12 : decode cX2_copyFrom 12 = .ok (.invokestatic 47, 3) := by decide +kernel
theorem dX2_copyFrom_15 : decode cX2_copyFrom 15 = .ok (.aload_n 1, 1) := by decide +kernel
theorem dX2_copyFrom_16 : decode cX2_copyFrom 16 = .ok (.getfield 15, 3) := by decide +kernel
theorem dX2_copyFrom_19 : decode cX2_copyFrom 19 = .ok (.iconst 0, 1) := by decide +kernel
theorem dX2_copyFrom_20 : decode cX2_copyFrom 20 = .ok (.aload_n 0, 1) := by decide +kernel
theorem dX2_copyFrom_21 : decode cX2_copyFrom 21 = .ok (.getfield 15, 3) := by decide +kernel
theorem dX2_copyFrom_24 : decode cX2_copyFrom 24 = .ok (.iconst 0, 1) := by decide +kernel
theorem dX2_copyFrom_25 : decode cX2_copyFrom 25 = .ok (.bipush 20, 2) := by decide +kernel
theorem dX2_copyFrom_27 : decode cX2_copyFrom 27 = .ok (.invokestatic 47, 3) := by decide +kernel
theorem dX2_copyFrom_30 : decode cX2_copyFrom 30 = .ok (.aload_n 1, 1) := by decide +kernel
theorem dX2_copyFrom_31 : decode cX2_copyFrom 31 = .ok (.getfield 18, 3) := by decide +kernel
theorem dX2_copyFrom_34 : decode cX2_copyFrom 34 = .ok (.iconst 0, 1) := by decide +kernel
theorem dX2_copyFrom_35 : decode cX2_copyFrom 35 = .ok (.aload_n 0, 1) := by decide +kernel
theorem dX2_copyFrom_36 : decode cX2_copyFrom 36 = .ok (.getfield 18, 3) := by decide +kernel
theorem dX2_copyFrom_39 : decode cX2_copyFrom 39 = .ok (.iconst 0, 1) := by decide +kernel
theorem dX2_copyFrom_40 : decode cX2_copyFrom 40 = .ok (.bipush 20, 2) := by decide +kernel
theorem dX2_copyFrom_42 : decode cX2_copyFrom 42 = .ok (.invokestatic 47, 3) := by decide +kernel
theorem dX2_copyFrom_45 : decode cX2_copyFrom 45 = .ok (.aload_n 1, 1) := by decide +kernel
theorem dX2_copyFrom_46 : decode cX2_copyFrom 46 = .ok (.getfield 21, 3) := by decide +kernel
theorem dX2_copyFrom_49 : decode cX2_copyFrom 49 = .ok (.iconst 0, 1) := by decide +kernel
theorem dX2_copyFrom_50 : decode cX2_copyFrom 50 = .ok (.aload_n 0, 1) := by decide +kernel
theorem dX2_copyFrom_51 : decode cX2_copyFrom 51 = .ok (.getfield 21, 3) := by decide +kernel
theorem dX2_copyFrom_54 : decode cX2_copyFrom 54 = .ok (.iconst 0, 1) := by decide +kernel
theorem dX2_copyFrom_55 : decode cX2_copyFrom 55 = .ok (.bipush 20, 2) := by decide +kernel
theorem dX2_copyFrom_57 : decode cX2_copyFrom 57 = .ok (.invokestatic 47, 3) := by decide +kernel
theorem dX2_copyFrom_60 : decode cX2_copyFrom 60 = .ok (.aload_n 1, 1) := by decide +kernel
theorem dX2_copyFrom_61 : decode cX2_copyFrom 61 = .ok (.getfield 24, 3) := by decide +kernel
theorem dX2_copyFrom_64 : decode cX2_copyFrom 64 = .ok (.iconst 0, 1) := by decide +kernel
theorem dX2_copyFrom_65 : decode cX2_copyFrom 65 = .ok (.aload_n 0, 1) := by decide +kernel
theorem dX2_copyFrom_66 : decode cX2_copyFrom 66 = .ok (.getfield 24, 3) := by decide +kernel
theorem dX2_copyFrom_69 : decode cX2_copyFrom 69 = .ok (.iconst 0, 1) := by decide +kernel
theorem dX2_copyFrom_70 : decode cX2_copyFrom 70 = .ok (.bipush 20, 2) := by decide +kernel
theorem dX2_copyFrom_72 : decode cX2_copyFrom 72 = .ok (.invokestatic 47, 3) := by decide +kernel
theorem dX2_copyFrom_75 : decode cX2_copyFrom 75 = .ok (.aload_n 1, 1) := by decide +kernel
theorem dX2_copyFrom_76 : decode cX2_copyFrom 76 = .ok (.getfield 27, 3) := by decide +kernel
theorem dX2_copyFrom_79 : decode cX2_copyFrom 79 = .ok (.iconst 0, 1) := by decide +kernel
theorem dX2_copyFrom_80 : decode cX2_copyFrom 80 = .ok (.aload_n 0, 1) := by decide +kernel
theorem dX2_copyFrom_81 : decode cX2_copyFrom 81 = .ok (.getfield 27, 3) := by decide +kernel
theorem dX2_copyFrom_84 : decode cX2_copyFrom 84 = .ok (.iconst 0, 1) := by decide +kernel
theorem dX2_copyFrom_85 : decode cX2_copyFrom 85 = .ok (.bipush 20, 2) := by decide +kernel
theorem dX2_copyFrom_87 : decode cX2_copyFrom 87 = .ok (.invokestatic 47, 3) := by decide +kernel
theorem dX2_copyFrom_90 : decode cX2_copyFrom 90 = .ok (.aload_n 1, 1) := by decide +kernel
theorem dX2_copyFrom_91 : decode cX2_copyFrom 91 = .ok (.getfield 30, 3) := by decide +kernel
theorem dX2_copyFrom_94 : decode cX2_copyFrom 94 = .ok (.iconst 0, 1) := by decide +kernel
theorem dX2_copyFrom_95 : decode cX2_copyFrom 95 = .ok (.aload_n 0, 1) := by decide +kernel
theorem dX2_copyFrom_96 : decode cX2_copyFrom 96 = .ok (.getfield 30, 3) := by decide +kernel
theorem dX2_copyFrom_99 : decode cX2_copyFrom 99 = .ok (.iconst 0, 1) := by decide +kernel
theorem dX2_copyFrom_100 : decode cX2_copyFrom 100 = .ok (.bipush 20, 2) := by decide +kernel
theorem dX2_copyFrom_102 : decode cX2_copyFrom 102 = .ok (.invokestatic 47, 3) := by decide +kernel
theorem dX2_copyFrom_105 : decode cX2_copyFrom 105 = .ok (.aload_n 1, 1) := by decide +kernel
theorem dX2_copyFrom_106 : decode cX2_copyFrom 106 = .ok (.getfield 33, 3) := by decide +kernel
theorem dX2_copyFrom_109 : decode cX2_copyFrom 109 = .ok (.iconst 0, 1) := by decide +kernel
theorem dX2_copyFrom_110 : decode cX2_copyFrom 110 = .ok (.aload_n 0, 1) := by decide +kernel
theorem dX2_copyFrom_111 : decode cX2_copyFrom 111 = .ok (.getfield 33, 3) := by decide +kernel
theorem dX2_copyFrom_114 : decode cX2_copyFrom 114 = .ok (.iconst 0, 1) := by decide +kernel
theorem dX2_copyFrom_115 : decode cX2_copyFrom 115 = .ok (.bipush 20, 2) := by decide +kernel
theorem dX2_copyFrom_117 : decode cX2_copyFrom 117 = .ok (.invokestatic 47, 3) := by decide +kernel
theorem dX2_copyFrom_120 : decode cX2_copyFrom 120 = .ok (.aload_n 1, 1) := by decide +kernel
theorem dX2_copyFrom_121 : decode cX2_copyFrom 121 = .ok (.getfield 36, 3) := by decide +kernel
theorem dX2_copyFrom_124 : decode cX2_copyFrom 124 = .ok (.iconst 0, 1) := by decide +kernel
theorem dX2_copyFrom_125 : decode cX2_copyFrom 125 = .ok (.aload_n 0, 1) := by decide +kernel
theorem dX2_copyFrom_126 : decode cX2_copyFrom 126 = .ok (.getfield 36, 3) := by decide +kernel
theorem dX2_copyFrom_129 : decode cX2_copyFrom 129 = .ok (.iconst 0, 1) := by decide +kernel
theorem dX2_copyFrom_130 : decode cX2_copyFrom 130 = .ok (.bipush 20, 2) := by decide +kernel
theorem dX2_copyFrom_132 : decode cX2_copyFrom 132 = .ok (.invokestatic 47, 3) := by decide +kernel
theorem dX2_copyFrom_135 : decode cX2_copyFrom 135 = .ok (.aload_n 0, 1) := by decide +kernel
theorem dX2_copyFrom_136 : decode cX2_copyFrom 136 = .ok (.aload_n 1, 1) := by decide +kernel
theorem dX2_copyFrom_137 : decode cX2_copyFrom 137 = .ok (.getfield 39, 3) := by decide +kernel
theorem dX2_copyFrom_140 : decode cX2_copyFrom 140 = .ok (.putfield 39, 3) := by decide +kernel
theorem dX2_copyFrom_143 : decode cX2_copyFrom 143 = .ok (.return_, 1) := by decide +kernel
theorem dX3_init_0 : decode cX3_init 0 = .ok (.aload_n 0, 1) := by decide +kernel
theorem dX3_init_1 : decode cX3_init 1 = .ok (.invokespecial 3, 3) := by decide +kernel
theorem dX3_init_4 : decode cX3_init 4 = .ok (.aload_n 0, 1) := by decide +kernel
theorem dX3_init_5 : decode cX3_init 5 = .ok (.sipush 400, 3) := by decide +kernel
theorem dX3_init_8 : decode cX3_init 8 = .ok (.newarray .int, 2) := by decide +kernel
theorem dX3_init_10 : decode cX3_init 10 = .ok (.putfield 9, 3) := by decide +kernel
theorem dX3_init_13 : decode cX3_init 13 = .ok (.aload_n 0, 1) := by decide +kernel
theorem dX3_init_14 : decode cX3_init 14 = .ok (.bipush 17, 2) := by decide +kernel
theorem dX3_init_16 : decode cX3_init 16 = .ok (.newarray .int, 2) := by decide +kernel
theorem dX3_init_18 : decode cX3_init 18 = .ok (.putfield 15, 3) := by decide +kernel
theorem dX3_init_21 : decode cX3_init 21 = .ok (.aload_n 0, 1) := by decide +kernel
theorem dX3_init_22 : decode cX3_init 22 = .ok (.bipush 16, 2) := by decide +kernel
theorem dX3_init_24 : decode cX3_init 24 = .ok (.newarray .int, 2) := by decide +kernel
theorem dX3_init_26 : decode cX3_init 26 = .ok (.putfield 18, 3) := by decide +kernel
theorem dX3_init_29 : decode cX3_init 29 = .ok (.aload_n 0, 1) := by decide +kernel
theorem dX3_init_30 : decode cX3_init 30 = .ok (.bipush 64, 2) := by decide +kernel
theorem dX3_init_32 : decode cX3_init 32 = .ok (.newarray .int, 2) := by decide +kernel
theorem dX3_init_34 : decode cX3_init 34 = .ok (.putfield 21, 3) := by decide +kernel
theorem dX3_init_37 : decode cX3_init 37 = .ok (.return_, 1) := by decide +kernel
theorem dX3_clear_0 : decode cX3_clear 0 = .ok (.aload_n 0, 1) := by decide +kernel
theorem dX3_clear_1 : decode cX3_clear 1 = .ok (.iconst 0, 1) := by decide +kernel
theorem dX3_clear_2 : decode cX3_clear 2 = .ok (.putfield 24, 3) := by decide +kernel
theorem dX3_clear_5 : decode cX3_clear 5 = .ok (.aload_n 0, 1) := by decide +kernel
theorem dX3_clear_6 : decode cX3_clear 6 = .ok (.iconst 0, 1) := by decide +kernel
theorem dX3_clear_7 : decode cX3_clear 7 = .ok (.putfield 28, 3) := by decide +kernel
theorem dX3_clear_10 : decode cX3_clear 10 = .ok (.aload_n 0, 1) := by decide +kernel
theorem dX3_clear_11 : decode cX3_clear 11 = .ok (.getfield 15, 3) := by decide +kernel
theorem dX3_clear_14 : decode cX3_clear 14 = .ok (.iconst 0, 1) := by decide +kernel
theorem dX3_clear_15 : decode cX3_clear 15 = .ok (.iconst 0, 1) := by decide +kernel
theorem dX3_clear_16 : decode cX3_clear 16 = .ok (.iastore, 1) := by decide +kernel
theorem dX3_clear_17 : decode cX3_clear 17 = .ok (.return_, 1) := by decide +kernel
theorem dX3_beginLine_0 : decode cX3_beginLine 0 = .ok (.aload_n 0, 1) := by decide +kernel
theorem dX3_beginLine_1 : decode cX3_beginLine 1 = .ok (.getfield 24, 3) := by decide +kernel
theorem dX3_beginLine_4 : decode cX3_beginLine 4 = .ok (.bipush 16, 2) := by decide +kernel
theorem dX3_beginLine_6 : decode cX3_beginLine 6 = .ok (.if_icmp .lt 5, 3) := by decide +kernel
theorem dX3_beginLine_9 : decode cX3_beginLine 9 = .ok (.iconst 0, 1) := by decide +kernel
theorem dX3_beginLine_10 : decode cX3_beginLine 10 = .ok (.ireturn, 1) := by decide +kernel
theorem dX3_beginLine_11 : decode cX3_beginLine 11 = .ok (.aload_n 0, 1) := by decide +kernel
theorem dX3_beginLine_12 : decode cX3_beginLine 12 = .ok (.getfield 18, 3) := by decide +kernel
theorem dX3_beginLine_15 : decode cX3_beginLine 15 = .ok (.aload_n 0, 1) := by decide +kernel
theorem dX3_beginLine_16 : decode cX3_beginLine 16 = .ok (.getfield 24, 3) := by decide +kernel
theorem dX3_beginLine_19 : decode cX3_beginLine 19 = .ok (.iload_n 1, 1) := by decide +kernel
theorem dX3_beginLine_20 : decode cX3_beginLine 20 = .ok (.ifCond .eq 7, 3) := by decide +kernel
theorem dX3_beginLine_23 : decode cX3_beginLine 23 = .ok (.iconst 1, 1) := by decide +kernel
theorem dX3_beginLine_24 : decode cX3_beginLine 24 = .ok (.goto 4, 3) := by decide +kernel
theorem dX3_beginLine_27 : decode cX3_beginLine 27 = .ok (.iconst 0, 1) := by decide +kernel
theorem dX3_beginLine_28 : decode cX3_beginLine 28 = .ok (.iastore, 1) := by decide +kernel
theorem dX3_beginLine_29 : decode cX3_beginLine 29 = .ok (.iconst 1, 1) := by decide +kernel
theorem dX3_beginLine_30 : decode cX3_beginLine 30 = .ok (.ireturn, 1) := by decide +kernel
theorem dX3_closeLine_0 : decode cX3_closeLine 0 = .ok (.aload_n 0, 1) := by decide +kernel
theorem dX3_closeLine_1 : decode cX3_closeLine 1 = .ok (.getfield 24, 3) := by decide +kernel
theorem dX3_closeLine_4 : decode cX3_closeLine 4 = .ok (.bipush 16, 2) := by decide +kernel
theorem dX3_closeLine_6 : decode cX3_closeLine 6 = .ok (.if_icmp .ge 26, 3) := by decide +kernel
theorem dX3_closeLine_9 : decode cX3_closeLine 9 = .ok (.aload_n 0, 1) := by decide +kernel
theorem dX3_closeLine_10 : decode cX3_closeLine 10 = .ok (.dup, 1) := by decide +kernel
theorem dX3_closeLine_11 : decode cX3_closeLine 11 = .ok (.getfield 24, 3) := by decide +kernel
theorem dX3_closeLine_14 : decode cX3_closeLine 14 = .ok (.iconst 1, 1) := by decide +kernel
theorem dX3_closeLine_15 : decode cX3_closeLine 15 = .ok (.iadd, 1) := by decide +kernel
theorem dX3_closeLine_16 : decode cX3_closeLine 16 = .ok (.putfield 24, 3) := by decide +kernel
theorem dX3_closeLine_19 : decode cX3_closeLine 19 = .ok (.aload_n 0, 1) := by decide +kernel
theorem dX3_closeLine_20 : decode cX3_closeLine 20 = .ok (.getfield 15, 3) := by decide +kernel
theorem dX3_closeLine_23 : decode cX3_closeLine 23 = .ok (.aload_n 0, 1) := by decide +kernel
theorem dX3_closeLine_24 : decode cX3_closeLine 24 = .ok (.getfield 24, 3) := by decide +kernel
theorem dX3_closeLine_27 : decode cX3_closeLine 27 = .ok (.aload_n 0, 1) := by decide +kernel
theorem dX3_closeLine_28 : decode cX3_closeLine 28 = .ok (.getfield 28, 3) := by decide +kernel
theorem dX3_closeLine_31 : decode cX3_closeLine 31 = .ok (.iastore, 1) := by decide +kernel
theorem dX3_closeLine_32 : decode cX3_closeLine 32 = .ok (.return_, 1) := by decide +kernel
theorem dX3_put_0 : decode cX3_put 0 = .ok (.aload_n 0, 1) := by decide +kernel
theorem dX3_put_1 : decode cX3_put 1 = .ok (.getfield 28, 3) := by decide +kernel
theorem dX3_put_4 : decode cX3_put 4 = .ok (.sipush 400, 3) := by decide +kernel
theorem dX3_put_7 : decode cX3_put 7 = .ok (.if_icmp .ge 23, 3) := by decide +kernel
theorem dX3_put_10 : decode cX3_put 10 = .ok (.aload_n 0, 1) := by decide +kernel
theorem dX3_put_11 : decode cX3_put 11 = .ok (.getfield 9, 3) := by decide +kernel
theorem dX3_put_14 : decode cX3_put 14 = .ok (.aload_n 0, 1) := by decide +kernel
theorem dX3_put_15 : decode cX3_put 15 = .ok (.getfield 28, 3) := by decide +kernel
theorem dX3_put_18 : decode cX3_put 18 = .ok (.iload_n 1, 1) := by decide +kernel
theorem dX3_put_19 : decode cX3_put 19 = .ok (.iastore, 1) := by decide +kernel
theorem dX3_put_20 : decode cX3_put 20 = .ok (.aload_n 0, 1) := by decide +kernel
theorem dX3_put_21 : decode cX3_put 21 = .ok (.dup, 1) := by decide +kernel
theorem dX3_put_22 : decode cX3_put 22 = .ok (.getfield 28, 3) := by decide +kernel
theorem dX3_put_25 : decode cX3_put 25 = .ok (.iconst 1, 1) := by decide +kernel
theorem dX3_put_26 : decode cX3_put 26 = .ok (.iadd, 1) := by decide +kernel
theorem dX3_put_27 : decode cX3_put 27 = .ok (.putfield 28, 3) := by decide +kernel
theorem dX3_put_30 : decode cX3_put 30 = .ok (.return_, 1) := by decide +kernel
theorem dX3_lets_0 : decode cX3_lets 0 = .ok (.iconst 0, 1) := by decide +kernel
theorem dX3_lets_1 : decode cX3_lets 1 = .ok (.istore_n 2, 1) := by decide +kernel
theorem dX3_lets_2 : decode cX3_lets 2 = .ok (.iload_n 2, 1) := by decide +kernel
theorem dX3_lets_3 : decode cX3_lets 3 = .ok (.aload_n 0, 1) := by decide +kernel
theorem dX3_lets_4 : decode cX3_lets 4 = .ok (.getfield 24, 3) := by decide +kernel
theorem dX3_lets_7 : decode cX3_lets 7 = .ok (.if_icmp .ge 34, 3) := by decide +kernel
theorem dX3_lets_10 : decode cX3_lets 10 = .ok (.aload_n 0, 1) := by decide +kernel
theorem dX3_lets_11 : decode cX3_lets 11 = .ok (.iload_n 2, 1) := by decide +kernel
theorem dX3_lets_12 : decode cX3_lets 12 = .ok (.aload_n 1, 1) := by decide +kernel
theorem dX3_lets_13 : decode cX3_lets 13 = .ok (.invokevirtual 31, 3) := by decide +kernel
theorem dX3_lets_16 : decode cX3_lets 16 = .ok (.ifCond .eq 19, 3) := by decide +kernel
theorem dX3_lets_19 : decode cX3_lets 19 = .ok (.aload_n 0, 1) := by decide +kernel
theorem dX3_lets_20 : decode cX3_lets 20 = .ok (.getfield 18, 3) := by decide +kernel
theorem dX3_lets_23 : decode cX3_lets 23 = .ok (.iload_n 2, 1) := by decide +kernel
theorem dX3_lets_24 : decode cX3_lets 24 = .ok (.iaload, 1) := by decide +kernel
theorem dX3_lets_25 : decode cX3_lets 25 = .ok (.iconst 1, 1) := by decide +kernel
theorem dX3_lets_26 : decode cX3_lets 26 = .ok (.if_icmp .ne 7, 3) := by decide +kernel
theorem dX3_lets_29 : decode cX3_lets 29 = .ok (.iconst 1, 1) := by decide +kernel
theorem dX3_lets_30 : decode cX3_lets 30 = .ok (.goto 4, 3) := by decide +kernel
theorem dX3_lets_33 : decode cX3_lets 33 = .ok (.iconst 0, 1) := by decide +kernel
theorem dX3_lets_34 : decode cX3_lets 34 = .ok (.ireturn, 1) := by decide +kernel
theorem dX3_lets_35 : decode cX3_lets 35 = .ok (.iinc 2 1, 3) := by decide +kernel
theorem dX3_lets_38 : decode cX3_lets 38 = .ok (.goto (-36), 3) := by decide +kernel
theorem dX3_lets_41 : decode cX3_lets 41 = .ok (.iconst 1, 1) := by decide +kernel
theorem dX3_lets_42 : decode cX3_lets 42 = .ok (.ireturn, 1) := by decide +kernel
theorem dX3_holds_0 : decode cX3_holds 0 = .ok (.iconst 0, 1) := by decide +kernel
theorem dX3_holds_1 : decode cX3_holds 1 = .ok (.istore_n 3, 1) := by decide +kernel
theorem dX3_holds_2 : decode cX3_holds 2 = .ok (.aload_n 0, 1) := by decide +kernel
theorem dX3_holds_3 : decode cX3_holds 3 = .ok (.getfield 15, 3) := by decide +kernel
theorem dX3_holds_6 : decode cX3_holds 6 = .ok (.iload_n 1, 1) := by decide +kernel
theorem dX3_holds_7 : decode cX3_holds 7 = .ok (.iaload, 1) := by decide +kernel
theorem dX3_holds_8 : decode cX3_holds 8 = .ok (.istore 4, 2) := by decide +kernel
theorem dX3_holds_10 : decode cX3_holds 10 = .ok (.iload 4, 2) := by decide +kernel
theorem dX3_holds_12 : decode cX3_holds 12 = .ok (.aload_n 0, 1) := by decide +kernel
theorem dX3_holds_13 : decode cX3_holds 13 = .ok (.getfield 15, 3) := by decide +kernel
theorem dX3_holds_16 : decode cX3_holds 16 = .ok (.iload_n 1, 1) := by decide +kernel
theorem dX3_holds_17 : decode cX3_holds 17 = .ok (.iconst 1, 1) := by decide +kernel
theorem dX3_holds_18 : decode cX3_holds 18 = .ok (.iadd, 1) := by decide +kernel
theorem dX3_holds_19 : decode cX3_holds 19 = .ok (.iaload, 1) := by decide +kernel
theorem dX3_holds_20 : decode cX3_holds 20 = .ok (.if_icmp .ge 353, 3) := by decide +kernel
theorem dX3_holds_23 : decode cX3_holds 23 = .ok (.aload_n 0, 1) := by decide +kernel
theorem dX3_holds_24 : decode cX3_holds 24 = .ok (.getfield 9, 3) := by decide +kernel
theorem dX3_holds_27 : decode cX3_holds 27 = .ok (.iload 4, 2) := by decide +kernel
theorem dX3_holds_29 : decode cX3_holds 29 = .ok (.iaload, 1) := by decide +kernel
theorem dX3_holds_30 : decode cX3_holds 30 = .ok (.istore 5, 2) := by decide +kernel
theorem dX3_holds_32 : decode cX3_holds 32 = .ok (.iload 5, 2) := by decide +kernel
theorem dX3_holds_34 : decode cX3_holds 34 = .ok (.ineg, 1) := by decide +kernel
theorem dX3_holds_35 : decode cX3_holds 35 = .ok (.bipush 8, 2) := by decide +kernel
theorem dX3_holds_37 : decode cX3_holds 37 = .ok (.isub, 1) := by decide +kernel
theorem dX3_holds_38 : decode cX3_holds 38 = .ok (.istore 6, 2) := by decide +kernel
theorem dX3_holds_40 : decode cX3_holds 40 = .ok (.iload 5, 2) := by decide +kernel
theorem dX3_holds_42 : decode cX3_holds 42 = .ok (.ifCond .ge 15, 3) := by decide +kernel
theorem dX3_holds_45 : decode cX3_holds 45 = .ok (.iload 6, 2) := by decide +kernel
theorem dX3_holds_47 : decode cX3_holds 47 = .ok (.ifCond .lt 42, 3) := by decide +kernel
theorem dX3_holds_50 : decode cX3_holds 50 = .ok (.iload 6, 2) := by decide +kernel
theorem dX3_holds_52 : decode cX3_holds 52 = .ok (.bipush 7, 2) := by decide +kernel
theorem dX3_holds_54 : decode cX3_holds 54 = .ok (.if_icmp .ge 35, 3) := by decide +kernel
theorem dX3_holds_57 : decode cX3_holds 57 = .ok (.iload_n 3, 1) := by decide +kernel
theorem dX3_holds_58 : decode cX3_holds 58 = .ok (.bipush 64, 2) := by decide +kernel
theorem dX3_holds_60 : decode cX3_holds 60 = .ok (.if_icmp .ge 307, 3) := by decide +kernel
theorem dX3_holds_63 : decode cX3_holds 63 = .ok (.aload_n 0, 1) := by decide +kernel
theorem dX3_holds_64 : decode cX3_holds 64 = .ok (.getfield 21, 3) := by decide +kernel
theorem dX3_holds_67 : decode cX3_holds 67 = .ok (.iload_n 3, 1) := by decide +kernel
theorem dX3_holds_68 : decode cX3_holds 68 = .ok (.iload 5, 2) := by decide +kernel
theorem dX3_holds_70 : decode cX3_holds 70 = .ok (.ifCond .lt 8, 3) := by decide +kernel
theorem dX3_holds_73 : decode cX3_holds 73 = .ok (.iload 5, 2) := by decide +kernel
theorem dX3_holds_75 : decode cX3_holds 75 = .ok (.goto 7, 3) := by decide +kernel
theorem dX3_holds_78 : decode cX3_holds 78 = .ok (.aload_n 2, 1) := by decide +kernel
theorem dX3_holds_79 : decode cX3_holds 79 = .ok (.iload 6, 2) := by decide +kernel
theorem dX3_holds_81 : decode cX3_holds 81 = .ok (.iaload, 1) := by decide +kernel
theorem dX3_holds_82 : decode cX3_holds 82 = .ok (.iastore, 1) := by decide +kernel
theorem dX3_holds_83 : decode cX3_holds 83 = .ok (.iinc 3 1, 3) := by decide +kernel
theorem dX3_holds_86 : decode cX3_holds 86 = .ok (.goto 281, 3) := by decide +kernel
theorem dX3_holds_89 : decode cX3_holds 89 = .ok (.iload 5, 2) := by decide +kernel
theorem dX3_holds_91 : decode cX3_holds 91 = .ok (.bipush (-7), 2) := by decide +kernel
theorem dX3_holds_93 : decode cX3_holds 93 = .ok (.if_icmp .ne 28, 3) := by decide +kernel
theorem dX3_holds_96 : decode cX3_holds 96 = .ok (.iload_n 3, 1) := by decide +kernel
theorem dX3_holds_97 : decode cX3_holds 97 = .ok (.ifCond .le 270, 3) := by decide +kernel
theorem dX3_holds_100 : decode cX3_holds 100 = .ok (.aload_n 0, 1) := by decide +kernel
theorem dX3_holds_101 : decode cX3_holds 101 = .ok (.getfield 21, 3) := by decide +kernel
theorem dX3_holds_104 : decode cX3_holds 104 = .ok (.iload_n 3, 1) := by decide +kernel
theorem dX3_holds_105 : decode cX3_holds 105 = .ok (.iconst 1, 1) := by decide +kernel
theorem dX3_holds_106 : decode cX3_holds 106 = .ok (.isub, 1) := by decide +kernel
theorem dX3_holds_107 : decode cX3_holds 107 = .ok (.iconst 1, 1) := by decide +kernel
theorem dX3_holds_108 : decode cX3_holds 108 = .ok (.aload_n 0, 1) := by decide +kernel
theorem dX3_holds_109 : decode cX3_holds 109 = .ok (.getfield 21, 3) := by decide +kernel
theorem dX3_holds_112 : decode cX3_holds 112 = .ok (.iload_n 3, 1) := by decide +kernel
theorem dX3_holds_113 : decode cX3_holds 113 = .ok (.iconst 1, 1) := by decide +kernel
theorem dX3_holds_114 : decode cX3_holds 114 = .ok (.isub, 1) := by decide +kernel
theorem dX3_holds_115 : decode cX3_holds 115 = .ok (.iaload, 1) := by decide +kernel
theorem dX3_holds_116 : decode cX3_holds 116 = .ok (.isub, 1) := by decide +kernel
theorem dX3_holds_117 : decode cX3_holds 117 = .ok (.iastore, 1) := by decide +kernel
theorem dX3_holds_118 : decode cX3_holds 118 = .ok (.goto 249, 3) := by decide +kernel
theorem dX3_holds_121 : decode cX3_holds 121 = .ok (.iload_n 3, 1) := by decide +kernel
theorem dX3_holds_122 : decode cX3_holds 122 = .ok (.iconst 1, 1) := by decide +kernel
theorem dX3_holds_123 : decode cX3_holds 123 = .ok (.if_icmp .le 244, 3) := by decide +kernel
theorem dX3_holds_126 : decode cX3_holds 126 = .ok (.iinc 3 (-1), 3) := by decide +kernel
theorem dX3_holds_129 : decode cX3_holds 129 = .ok (.aload_n 0, 1) := by decide +kernel
theorem dX3_holds_130 : decode cX3_holds 130 = .ok (.getfield 21, 3) := by decide +kernel
theorem dX3_holds_133 : decode cX3_holds 133 = .ok (.iload_n 3, 1) := by decide +kernel
theorem dX3_holds_134 : decode cX3_holds 134 = .ok (.iaload, 1) := by decide +kernel
theorem dX3_holds_135 : decode cX3_holds 135 = .ok (.istore 7, 2) := by decide +kernel
theorem dX3_holds_137 : decode cX3_holds 137 = .ok (.aload_n 0, 1) := by decide +kernel
theorem dX3_holds_138 : decode cX3_holds 138 = .ok (.getfield 21, 3) := by decide +kernel
theorem dX3_holds_141 : decode cX3_holds 141 = .ok (.iload_n 3, 1) := by decide +kernel
theorem dX3_holds_142 : decode cX3_holds 142 = .ok (.iconst 1, 1) := by decide +kernel
theorem dX3_holds_143 : decode cX3_holds 143 = .ok (.isub, 1) := by decide +kernel
theorem dX3_holds_144 : decode cX3_holds 144 = .ok (.iaload, 1) := by decide +kernel
theorem dX3_holds_145 : decode cX3_holds 145 = .ok (.istore 8, 2) := by decide +kernel
theorem dX3_holds_147 : decode cX3_holds 147 = .ok (.iload 5, 2) := by decide +kernel
theorem dX3_holds_149 : decode cX3_holds 149 = .ok (.ineg, 1) := by decide +kernel
theorem dX3_holds_150 : decode cX3_holds 150 = .ok (.tableswitch 200 6 24 #[190, 200, 200, 200, 200, 200, 200, 200, 200, 200, 90, 100, 110, 120, 200, 200, 139, 156, 173], 90) := by decide +kernel
theorem dX3_holds_240 : decode cX3_holds 240 = .ok (.iload 8, 2) := by decide +kernel
theorem dX3_holds_242 : decode cX3_holds 242 = .ok (.iload 7, 2) := by decide +kernel
theorem dX3_holds_244 : decode cX3_holds 244 = .ok (.iadd, 1) := by decide +kernel
theorem dX3_holds_245 : decode cX3_holds 245 = .ok (.istore 8, 2) := by decide +kernel
theorem dX3_holds_247 : decode cX3_holds 247 = .ok (.goto 110, 3) := by decide +kernel
theorem dX3_holds_250 : decode cX3_holds 250 = .ok (.iload 8, 2) := by decide +kernel
theorem dX3_holds_252 : decode cX3_holds 252 = .ok (.iload 7, 2) := by decide +kernel
theorem dX3_holds_254 : decode cX3_holds 254 = .ok (.isub, 1) := by decide +kernel
theorem dX3_holds_255 : decode cX3_holds 255 = .ok (.istore 8, 2) := by decide +kernel
theorem dX3_holds_257 : decode cX3_holds 257 = .ok (.goto 100, 3) := by decide +kernel
theorem dX3_holds_260 : decode cX3_holds 260 = .ok (.iload 8, 2) := by decide +kernel
theorem dX3_holds_262 : decode cX3_holds 262 = .ok (.iload 7, 2) := by decide +kernel
theorem dX3_holds_264 : decode cX3_holds 264 = .ok (.imul, 1) := by decide +kernel
theorem dX3_holds_265 : decode cX3_holds 265 = .ok (.istore 8, 2) := by decide +kernel
theorem dX3_holds_267 : decode cX3_holds 267 = .ok (.goto 90, 3) := by decide +kernel
theorem dX3_holds_270 : decode cX3_holds 270 = .ok (.iload 7, 2) := by decide +kernel
theorem dX3_holds_272 : decode cX3_holds 272 = .ok (.ifCond .ne 7, 3) := by decide +kernel
theorem dX3_holds_275 : decode cX3_holds 275 = .ok (.iconst 0, 1) := by decide +kernel
theorem dX3_holds_276 : decode cX3_holds 276 = .ok (.goto 8, 3) := by decide +kernel
theorem dX3_holds_279 : decode cX3_holds 279 = .ok (.iload 8, 2) := by decide +kernel
theorem dX3_holds_281 : decode cX3_holds 281 = .ok (.iload 7, 2) := by decide +kernel
theorem dX3_holds_283 : decode cX3_holds 283 = .ok (.idiv, 1) := by decide +kernel
theorem dX3_holds_284 : decode cX3_holds 284 = .ok (.istore 8, 2) := by decide +kernel
theorem dX3_holds_286 : decode cX3_holds 286 = .ok (.goto 71, 3) := by decide +kernel
theorem dX3_holds_289 : decode cX3_holds 289 = .ok (.iload 8, 2) := by decide +kernel
theorem dX3_holds_291 : decode cX3_holds 291 = .ok (.iload 7, 2) := by decide +kernel
theorem dX3_holds_293 : decode cX3_holds 293 = .ok (.if_icmp .ge 7, 3) := by decide +kernel
theorem dX3_holds_296 : decode cX3_holds 296 = .ok (.iconst 1, 1) := by decide +kernel
theorem dX3_holds_297 : decode cX3_holds 297 = .ok (.goto 4, 3) := by decide +kernel
theorem dX3_holds_300 : decode cX3_holds 300 = .ok (.iconst 0, 1) := by decide +kernel
theorem dX3_holds_301 : decode cX3_holds 301 = .ok (.istore 8, 2) := by decide +kernel
theorem dX3_holds_303 : decode cX3_holds 303 = .ok (.goto 54, 3) := by decide +kernel
theorem dX3_holds_306 : decode cX3_holds 306 = .ok (.iload 8, 2) := by decide +kernel
theorem dX3_holds_308 : decode cX3_holds 308 = .ok (.iload 7, 2) := by decide +kernel
theorem dX3_holds_310 : decode cX3_holds 310 = .ok (.if_icmp .ne 7, 3) := by decide +kernel
theorem dX3_holds_313 : decode cX3_holds 313 = .ok (.iconst 1, 1) := by decide +kernel
theorem dX3_holds_314 : decode cX3_holds 314 = .ok (.goto 4, 3) := by decide +kernel
theorem dX3_holds_317 : decode cX3_holds 317 = .ok (.iconst 0, 1) := by decide +kernel
theorem dX3_holds_318 : decode cX3_holds 318 = .ok (.istore 8, 2) := by decide +kernel
theorem dX3_holds_320 : decode cX3_holds 320 = .ok (.goto 37, 3) := by decide +kernel
theorem dX3_holds_323 : decode cX3_holds 323 = .ok (.iload 8, 2) := by decide +kernel
theorem dX3_holds_325 : decode cX3_holds 325 = .ok (.iload 7, 2) := by decide +kernel
theorem dX3_holds_327 : decode cX3_holds 327 = .ok (.if_icmp .le 7, 3) := by decide +kernel
theorem dX3_holds_330 : decode cX3_holds 330 = .ok (.iconst 1, 1) := by decide +kernel
theorem dX3_holds_331 : decode cX3_holds 331 = .ok (.goto 4, 3) := by decide +kernel
theorem dX3_holds_334 : decode cX3_holds 334 = .ok (.iconst 0, 1) := by decide +kernel
theorem dX3_holds_335 : decode cX3_holds 335 = .ok (.istore 8, 2) := by decide +kernel
theorem dX3_holds_337 : decode cX3_holds 337 = .ok (.goto 20, 3) := by decide +kernel
theorem dX3_holds_340 : decode cX3_holds 340 = .ok (.iload 8, 2) := by decide +kernel
theorem dX3_holds_342 : decode cX3_holds 342 = .ok (.iload 7, 2) := by decide +kernel
theorem dX3_holds_344 : decode cX3_holds 344 = .ok (.iand, 1) := by decide +kernel
theorem dX3_holds_345 : decode cX3_holds 345 = .ok (.istore 8, 2) := by decide +kernel
theorem dX3_holds_347 : decode cX3_holds 347 = .ok (.goto 10, 3) := by decide +kernel
theorem dX3_holds_350 : decode cX3_holds 350 = .ok (.iload 8, 2) := by decide +kernel
theorem dX3_holds_352 : decode cX3_holds 352 = .ok (.iload 7, 2) := by decide +kernel
theorem dX3_holds_354 : decode cX3_holds 354 = .ok (.ior, 1) := by decide +kernel
theorem dX3_holds_355 : decode cX3_holds 355 = .ok (.istore 8, 2) := by decide +kernel
theorem dX3_holds_357 : decode cX3_holds 357 = .ok (.aload_n 0, 1) := by decide +kernel
theorem dX3_holds_358 : decode cX3_holds 358 = .ok (.getfield 21, 3) := by decide +kernel
theorem dX3_holds_361 : decode cX3_holds 361 = .ok (.iload_n 3, 1) := by decide +kernel
theorem dX3_holds_362 : decode cX3_holds 362 = .ok (.iconst 1, 1) := by decide +kernel
theorem dX3_holds_363 : decode cX3_holds 363 = .ok (.isub, 1) := by decide +kernel
theorem dX3_holds_364 : decode cX3_holds 364 = .ok (.iload 8, 2) := by decide +kernel
theorem dX3_holds_366 : decode cX3_holds 366 = .ok (.iastore, 1) := by decide +kernel
theorem dX3_holds_367 : decode cX3_holds 367 = .ok (.iinc 4 1, 3) := by decide +kernel
theorem dX3_holds_370 : decode cX3_holds 370 = .ok (.goto (-360), 3) := by decide +kernel
theorem dX3_holds_373 : decode cX3_holds 373 = .ok (.iload_n 3, 1) := by decide +kernel
theorem dX3_holds_374 : decode cX3_holds 374 = .ok (.ifCond .eq 12, 3) := by decide +kernel
theorem dX3_holds_377 : decode cX3_holds 377 = .ok (.aload_n 0, 1) := by decide +kernel
theorem dX3_holds_378 : decode cX3_holds 378 = .ok (.getfield 21, 3) := by decide +kernel
theorem dX3_holds_381 : decode cX3_holds 381 = .ok (.iconst 0, 1) := by decide +kernel
theorem dX3_holds_382 : decode cX3_holds 382 = .ok (.iaload, 1) := by decide +kernel
theorem dX3_holds_383 : decode cX3_holds 383 = .ok (.ifCond .eq 7, 3) := by decide +kernel
theorem dX3_holds_386 : decode cX3_holds 386 = .ok (.iconst 1, 1) := by decide +kernel
theorem dX3_holds_387 : decode cX3_holds 387 = .ok (.goto 4, 3) := by decide +kernel
theorem dX3_holds_390 : decode cX3_holds 390 = .ok (.iconst 0, 1) := by decide +kernel
theorem dX3_holds_391 : decode cX3_holds 391 = .ok (.ireturn, 1) := by decide +kernel
theorem dX3_copyFrom_0 : decode cX3_copyFrom 0 = .ok (.aload_n 1, 1) := by decide +kernel
theorem dX3_copyFrom_1 : decode cX3_copyFrom 1 = .ok (.getfield 9, 3) := by decide +kernel
theorem dX3_copyFrom_4 : decode cX3_copyFrom 4 = .ok (.iconst 0, 1) := by decide +kernel
theorem dX3_copyFrom_5 : decode cX3_copyFrom 5 = .ok (.aload_n 0, 1) := by decide +kernel
theorem dX3_copyFrom_6 : decode cX3_copyFrom 6 = .ok (.getfield 9, 3) := by decide +kernel
theorem dX3_copyFrom_9 : decode cX3_copyFrom 9 = .ok (.iconst 0, 1) := by decide +kernel
theorem dX3_copyFrom_10 : decode cX3_copyFrom 10 = .ok (.sipush 400, 3) := by decide +kernel
theorem dX3_copyFrom_13 : decode cX3_copyFrom 13 = .ok (.invokestatic 35, 3) := by decide +kernel
theorem dX3_copyFrom_16 : decode cX3_copyFrom 16 = .ok (.aload_n 1, 1) := by decide +kernel
theorem dX3_copyFrom_17 : decode cX3_copyFrom 17 = .ok (.getfield 15, 3) := by decide +kernel
theorem dX3_copyFrom_20 : decode cX3_copyFrom 20 = .ok (.iconst 0, 1) := by decide +kernel
theorem dX3_copyFrom_21 : decode cX3_copyFrom 21 = .ok (.aload_n 0, 1) := by decide +kernel
theorem dX3_copyFrom_22 : decode cX3_copyFrom 22 = .ok (.getfield 15, 3) := by decide +kernel
theorem dX3_copyFrom_25 : decode cX3_copyFrom 25 = .ok (.iconst 0, 1) := by decide +kernel
theorem dX3_copyFrom_26 : decode cX3_copyFrom 26 = .ok (.bipush 17, 2) := by decide +kernel
theorem dX3_copyFrom_28 : decode cX3_copyFrom 28 = .ok (.invokestatic 35, 3) := by decide +kernel
theorem dX3_copyFrom_31 : decode cX3_copyFrom 31 = .ok (.aload_n 1, 1) := by decide +kernel
theorem dX3_copyFrom_32 : decode cX3_copyFrom 32 = .ok (.getfield 18, 3) := by decide +kernel
theorem dX3_copyFrom_35 : decode cX3_copyFrom 35 = .ok (.iconst 0, 1) := by decide +kernel
theorem dX3_copyFrom_36 : decode cX3_copyFrom 36 = .ok (.aload_n 0, 1) := by decide +kernel
theorem dX3_copyFrom_37 : decode cX3_copyFrom 37 = .ok (.getfield 18, 3) := by decide +kernel
theorem dX3_copyFrom_40 : decode cX3_copyFrom 40 = .ok (.iconst 0, 1) := by decide +kernel
theorem dX3_copyFrom_41 : decode cX3_copyFrom 41 = .ok (.bipush 16, 2) := by decide +kernel
theorem dX3_copyFrom_43 : decode cX3_copyFrom 43 = .ok (.invokestatic 35, 3) := by decide +kernel
theorem dX3_copyFrom_46 : decode cX3_copyFrom 46 = .ok (.aload_n 0, 1) := by decide +kernel
theorem dX3_copyFrom_47 : decode cX3_copyFrom 47 = .ok (.aload_n 1, 1) := by decide +kernel
theorem dX3_copyFrom_48 : decode cX3_copyFrom 48 = .ok (.getfield 24, 3) := by decide +kernel
theorem dX3_copyFrom_51 : decode cX3_copyFrom 51 = .ok (.putfield 24, 3) := by decide +kernel
theorem dX3_copyFrom_54 : decode cX3_copyFrom 54 = .ok (.aload_n 0, 1) := by decide +kernel
theorem dX3_copyFrom_55 : decode cX3_copyFrom 55 = .ok (.aload_n 1, 1) := by decide +kernel
theorem dX3_copyFrom_56 : decode cX3_copyFrom 56 = .ok (.getfield 28, 3) := by decide +kernel
theorem dX3_copyFrom_59 : decode cX3_copyFrom 59 = .ok (.putfield 28, 3) := by decide +kernel
theorem dX3_copyFrom_62 : decode cX3_copyFrom 62 = .ok (.return_, 1) := by decide +kernel
theorem dX4_init_0 : decode cX4_init 0 = .ok (.aload_n 0, 1) := by decide +kernel
theorem dX4_init_1 : decode cX4_init 1 = .ok (.invokespecial 3, 3) := by decide +kernel
theorem dX4_init_4 : decode cX4_init 4 = .ok (.aload_n 0, 1) := by decide +kernel
theorem dX4_init_5 : decode cX4_init 5 = .ok (.bipush 20, 2) := by decide +kernel
theorem dX4_init_7 : decode cX4_init 7 = .ok (.newarray .int, 2) := by decide +kernel
theorem dX4_init_9 : decode cX4_init 9 = .ok (.putfield 9, 3) := by decide +kernel
theorem dX4_init_12 : decode cX4_init 12 = .ok (.aload_n 0, 1) := by decide +kernel
theorem dX4_init_13 : decode cX4_init 13 = .ok (.bipush 20, 2) := by decide +kernel
theorem dX4_init_15 : decode cX4_init 15 = .ok (.newarray .int, 2) := by decide +kernel
theorem dX4_init_17 : decode cX4_init 17 = .ok (.putfield 15, 3) := by decide +kernel
theorem dX4_init_20 : decode cX4_init 20 = .ok (.aload_n 0, 1) := by decide +kernel
theorem dX4_init_21 : decode cX4_init 21 = .ok (.bipush 20, 2) := by decide +kernel
theorem dX4_init_23 : decode cX4_init 23 = .ok (.newarray .int, 2) := by decide +kernel
theorem dX4_init_25 : decode cX4_init 25 = .ok (.putfield 18, 3) := by decide +kernel
theorem dX4_init_28 : decode cX4_init 28 = .ok (.return_, 1) := by decide +kernel
theorem dX4_add_0 : decode cX4_add 0 = .ok (.aload_n 0, 1) := by decide +kernel
theorem dX4_add_1 : decode cX4_add 1 = .ok (.getfield 21, 3) := by decide +kernel
theorem dX4_add_4 : decode cX4_add 4 = .ok (.bipush 20, 2) := by decide +kernel
theorem dX4_add_6 : decode cX4_add 6 = .ok (.if_icmp .lt 5, 3) := by decide +kernel
theorem dX4_add_9 : decode cX4_add 9 = .ok (.iconst 0, 1) := by decide +kernel
theorem dX4_add_10 : decode cX4_add 10 = .ok (.ireturn, 1) := by decide +kernel
theorem dX4_add_11 : decode cX4_add 11 = .ok (.aload_n 0, 1) := by decide +kernel
theorem dX4_add_12 : decode cX4_add 12 = .ok (.getfield 9, 3) := by decide +kernel
theorem dX4_add_15 : decode cX4_add 15 = .ok (.aload_n 0, 1) := by decide +kernel
theorem dX4_add_16 : decode cX4_add 16 = .ok (.getfield 21, 3) := by decide +kernel
theorem dX4_add_19 : decode cX4_add 19 = .ok (.iload_n 1, 1) := by decide +kernel
theorem dX4_add_20 : decode cX4_add 20 = .ok (.iastore, 1) := by decide +kernel
theorem dX4_add_21 : decode cX4_add 21 = .ok (.aload_n 0, 1) := by decide +kernel
theorem dX4_add_22 : decode cX4_add 22 = .ok (.getfield 15, 3) := by decide +kernel
theorem dX4_add_25 : decode cX4_add 25 = .ok (.aload_n 0, 1) := by decide +kernel
theorem dX4_add_26 : decode cX4_add 26 = .ok (.getfield 21, 3) := by decide +kernel
theorem dX4_add_29 : decode cX4_add 29 = .ok (.iload_n 2, 1) := by decide +kernel
theorem dX4_add_30 : decode cX4_add 30 = .ok (.iastore, 1) := by decide +kernel
theorem dX4_add_31 : decode cX4_add 31 = .ok (.aload_n 0, 1) := by decide +kernel
theorem dX4_add_32 : decode cX4_add 32 = .ok (.getfield 18, 3) := by decide +kernel
theorem dX4_add_35 : decode cX4_add 35 = .ok (.aload_n 0, 1) := by decide +kernel
theorem dX4_add_36 : decode cX4_add 36 = .ok (.getfield 21, 3) := by decide +kernel
theorem dX4_add_39 : decode cX4_add 39 = .ok (.iload_n 3, 1) := by decide +kernel
theorem dX4_add_40 : decode cX4_add 40 = .ok (.iastore, 1) := by decide +kernel
theorem dX4_add_41 : decode cX4_add 41 = .ok (.aload_n 0, 1) := by decide +kernel
theorem dX4_add_42 : decode cX4_add 42 = .ok (.dup, 1) := by decide +kernel
theorem dX4_add_43 : decode cX4_add 43 = .ok (.getfield 21, 3) := by decide +kernel
theorem dX4_add_46 : decode cX4_add 46 = .ok (.iconst 1, 1) := by decide +kernel
theorem dX4_add_47 : decode cX4_add 47 = .ok (.iadd, 1) := by decide +kernel
theorem dX4_add_48 : decode cX4_add 48 = .ok (.putfield 21, 3) := by decide +kernel
theorem dX4_add_51 : decode cX4_add 51 = .ok (.iconst 1, 1) := by decide +kernel
theorem dX4_add_52 : decode cX4_add 52 = .ok (.ireturn, 1) := by decide +kernel
theorem dX4_lastHour_0 : decode cX4_lastHour 0 = .ok (.iconst (-1), 1) := by decide +kernel
theorem dX4_lastHour_1 : decode cX4_lastHour 1 = .ok (.istore_n 1, 1) := by decide +kernel
theorem dX4_lastHour_2 : decode cX4_lastHour 2 = .ok (.iconst 0, 1) := by decide +kernel
theorem dX4_lastHour_3 : decode cX4_lastHour 3 = .ok (.istore_n 2, 1) := by decide +kernel
theorem dX4_lastHour_4 : decode cX4_lastHour 4 = .ok (.iload_n 2, 1) := by decide +kernel
theorem dX4_lastHour_5 : decode cX4_lastHour 5 = .ok (.aload_n 0, 1) := by decide +kernel
theorem dX4_lastHour_6 : decode cX4_lastHour 6 = .ok (.getfield 21, 3) := by decide +kernel
theorem dX4_lastHour_9 : decode cX4_lastHour 9 = .ok (.if_icmp .ge 20, 3) := by decide +kernel
theorem dX4_lastHour_12 : decode cX4_lastHour 12 = .ok (.iload_n 1, 1) := by decide +kernel
theorem dX4_lastHour_13 : decode cX4_lastHour 13 = .ok (.aload_n 0, 1) := by decide +kernel
theorem dX4_lastHour_14 : decode cX4_lastHour 14 = .ok (.getfield 9, 3) := by decide +kernel
theorem dX4_lastHour_17 : decode cX4_lastHour 17 = .ok (.iload_n 2, 1) := by decide +kernel
theorem dX4_lastHour_18 : decode cX4_lastHour 18 = .ok (.iaload, 1) := by decide +kernel
theorem dX4_lastHour_19 : decode cX4_lastHour 19 = .ok (.invokestatic 25, 3) := by decide +kernel
theorem dX4_lastHour_22 : decode cX4_lastHour 22 = .ok (.istore_n 1, 1) := by decide +kernel
theorem dX4_lastHour_23 : decode cX4_lastHour 23 = .ok (.iinc 2 1, 3) := by decide +kernel
theorem dX4_lastHour_26 : decode cX4_lastHour 26 = .ok (.goto (-22), 3) := by decide +kernel
theorem dX4_lastHour_29 : decode cX4_lastHour 29 = .ok (.iload_n 1, 1) := by decide +kernel
theorem dX4_lastHour_30 : decode cX4_lastHour 30 = .ok (.ireturn, 1) := by decide +kernel
theorem dX4_agree_0 : decode cX4_agree 0 = .ok (.iconst 0, 1) := by decide +kernel
theorem dX4_agree_1 : decode cX4_agree 1 = .ok (.istore_n 3, 1) := by decide +kernel
theorem dX4_agree_2 : decode cX4_agree 2 = .ok (.iload_n 3, 1) := by decide +kernel
theorem dX4_agree_3 : decode cX4_agree 3 = .ok (.aload_n 0, 1) := by decide +kernel
theorem dX4_agree_4 : decode cX4_agree 4 = .ok (.getfield 21, 3) := by decide +kernel
theorem dX4_agree_7 : decode cX4_agree 7 = .ok (.if_icmp .ge 40, 3) := by decide +kernel
theorem dX4_agree_10 : decode cX4_agree 10 = .ok (.aload_n 0, 1) := by decide +kernel
theorem dX4_agree_11 : decode cX4_agree 11 = .ok (.getfield 9, 3) := by decide +kernel
theorem dX4_agree_14 : decode cX4_agree 14 = .ok (.iload_n 3, 1) := by decide +kernel
theorem dX4_agree_15 : decode cX4_agree 15 = .ok (.iaload, 1) := by decide +kernel
theorem dX4_agree_16 : decode cX4_agree 16 = .ok (.iload_n 1, 1) := by decide +kernel
theorem dX4_agree_17 : decode cX4_agree 17 = .ok (.if_icmp .ne 24, 3) := by decide +kernel
theorem dX4_agree_20 : decode cX4_agree 20 = .ok (.aload_n 2, 1) := by decide +kernel
theorem dX4_agree_21 : decode cX4_agree 21 = .ok (.aload_n 0, 1) := by decide +kernel
theorem dX4_agree_22 : decode cX4_agree 22 = .ok (.getfield 15, 3) := by decide +kernel
theorem dX4_agree_25 : decode cX4_agree 25 = .ok (.iload_n 3, 1) := by decide +kernel
theorem dX4_agree_26 : decode cX4_agree 26 = .ok (.iaload, 1) := by decide +kernel
theorem dX4_agree_27 : decode cX4_agree 27 = .ok (.invokevirtual 31, 3) := by decide +kernel
theorem dX4_agree_30 : decode cX4_agree 30 = .ok (.aload_n 0, 1) := by decide +kernel
theorem dX4_agree_31 : decode cX4_agree 31 = .ok (.getfield 18, 3) := by decide +kernel
theorem dX4_agree_34 : decode cX4_agree 34 = .ok (.iload_n 3, 1) := by decide +kernel
theorem dX4_agree_35 : decode cX4_agree 35 = .ok (.iaload, 1) := by decide +kernel
theorem dX4_agree_36 : decode cX4_agree 36 = .ok (.if_icmp .eq 5, 3) := by decide +kernel
theorem dX4_agree_39 : decode cX4_agree 39 = .ok (.iconst 0, 1) := by decide +kernel
theorem dX4_agree_40 : decode cX4_agree 40 = .ok (.ireturn, 1) := by decide +kernel
theorem dX4_agree_41 : decode cX4_agree 41 = .ok (.iinc 3 1, 3) := by decide +kernel
theorem dX4_agree_44 : decode cX4_agree 44 = .ok (.goto (-42), 3) := by decide +kernel
theorem dX4_agree_47 : decode cX4_agree 47 = .ok (.iconst 1, 1) := by decide +kernel
theorem dX4_agree_48 : decode cX4_agree 48 = .ok (.ireturn, 1) := by decide +kernel
theorem dX4_copyFrom_0 : decode cX4_copyFrom 0 = .ok (.aload_n 1, 1) := by decide +kernel
theorem dX4_copyFrom_1 : decode cX4_copyFrom 1 = .ok (.getfield 9, 3) := by decide +kernel
theorem dX4_copyFrom_4 : decode cX4_copyFrom 4 = .ok (.iconst 0, 1) := by decide +kernel
theorem dX4_copyFrom_5 : decode cX4_copyFrom 5 = .ok (.aload_n 0, 1) := by decide +kernel
theorem dX4_copyFrom_6 : decode cX4_copyFrom 6 = .ok (.getfield 9, 3) := by decide +kernel
theorem dX4_copyFrom_9 : decode cX4_copyFrom 9 = .ok (.iconst 0, 1) := by decide +kernel
theorem dX4_copyFrom_10 : decode cX4_copyFrom 10 = .ok (.bipush 20, 2) := by decide +kernel
theorem dX4_copyFrom_12 : decode cX4_copyFrom 12 = .ok (.invokestatic 37, 3) := by decide +kernel
theorem dX4_copyFrom_15 : decode cX4_copyFrom 15 = .ok (.aload_n 1, 1) := by decide +kernel
theorem dX4_copyFrom_16 : decode cX4_copyFrom 16 = .ok (.getfield 15, 3) := by decide +kernel
theorem dX4_copyFrom_19 : decode cX4_copyFrom 19 = .ok (.iconst 0, 1) := by decide +kernel
theorem dX4_copyFrom_20 : decode cX4_copyFrom 20 = .ok (.aload_n 0, 1) := by decide +kernel
theorem dX4_copyFrom_21 : decode cX4_copyFrom 21 = .ok (.getfield 15, 3) := by decide +kernel
theorem dX4_copyFrom_24 : decode cX4_copyFrom 24 = .ok (.iconst 0, 1) := by decide +kernel
theorem dX4_copyFrom_25 : decode cX4_copyFrom 25 = .ok (.bipush 20, 2) := by decide +kernel
theorem dX4_copyFrom_27 : decode cX4_copyFrom 27 = .ok (.invokestatic 37, 3) := by decide +kernel
theorem dX4_copyFrom_30 : decode cX4_copyFrom 30 = .ok (.aload_n 1, 1) := by decide +kernel
theorem dX4_copyFrom_31 : decode cX4_copyFrom 31 = .ok (.getfield 18, 3) := by decide +kernel
theorem dX4_copyFrom_34 : decode cX4_copyFrom 34 = .ok (.iconst 0, 1) := by decide +kernel
theorem dX4_copyFrom_35 : decode cX4_copyFrom 35 = .ok (.aload_n 0, 1) := by decide +kernel
theorem dX4_copyFrom_36 : decode cX4_copyFrom 36 = .ok (.getfield 18, 3) := by decide +kernel
theorem dX4_copyFrom_39 : decode cX4_copyFrom 39 = .ok (.iconst 0, 1) := by decide +kernel
theorem dX4_copyFrom_40 : decode cX4_copyFrom 40 = .ok (.bipush 20, 2) := by decide +kernel
theorem dX4_copyFrom_42 : decode cX4_copyFrom 42 = .ok (.invokestatic 37, 3) := by decide +kernel
theorem dX4_copyFrom_45 : decode cX4_copyFrom 45 = .ok (.aload_n 0, 1) := by decide +kernel
theorem dX4_copyFrom_46 : decode cX4_copyFrom 46 = .ok (.aload_n 1, 1) := by decide +kernel
theorem dX4_copyFrom_47 : decode cX4_copyFrom 47 = .ok (.getfield 21, 3) := by decide +kernel
theorem dX4_copyFrom_50 : decode cX4_copyFrom 50 = .ok (.putfield 21, 3) := by decide +kernel
theorem dX4_copyFrom_53 : decode cX4_copyFrom 53 = .ok (.return_, 1) := by decide +kernel
theorem dX5_init_0 : decode cX5_init 0 = .ok (.aload_n 0, 1) := by decide +kernel
theorem dX5_init_1 : decode cX5_init 1 = .ok (.invokespecial 3, 3) := by decide +kernel
theorem dX5_init_4 : decode cX5_init 4 = .ok (.aload_n 0, 1) := by decide +kernel
theorem dX5_init_5 : decode cX5_init 5 = .ok (.bipush 30, 2) := by decide +kernel
theorem dX5_init_7 : decode cX5_init 7 = .ok (.newarray .int, 2) := by decide +kernel
theorem dX5_init_9 : decode cX5_init 9 = .ok (.putfield 9, 3) := by decide +kernel
theorem dX5_init_12 : decode cX5_init 12 = .ok (.aload_n 0, 1) := by decide +kernel
theorem dX5_init_13 : decode cX5_init 13 = .ok (.bipush 30, 2) := by decide +kernel
theorem dX5_init_15 : decode cX5_init 15 = .ok (.newarray .int, 2) := by decide +kernel
theorem dX5_init_17 : decode cX5_init 17 = .ok (.putfield 15, 3) := by decide +kernel
theorem dX5_init_20 : decode cX5_init 20 = .ok (.aload_n 0, 1) := by decide +kernel
theorem dX5_init_21 : decode cX5_init 21 = .ok (.bipush 30, 2) := by decide +kernel
theorem dX5_init_23 : decode cX5_init 23 = .ok (.newarray .int, 2) := by decide +kernel
theorem dX5_init_25 : decode cX5_init 25 = .ok (.putfield 18, 3) := by decide +kernel
theorem dX5_init_28 : decode cX5_init 28 = .ok (.aload_n 0, 1) := by decide +kernel
theorem dX5_init_29 : decode cX5_init 29 = .ok (.bipush 30, 2) := by decide +kernel
theorem dX5_init_31 : decode cX5_init 31 = .ok (.newarray .int, 2) := by decide +kernel
theorem dX5_init_33 : decode cX5_init 33 = .ok (.putfield 21, 3) := by decide +kernel
theorem dX5_init_36 : decode cX5_init 36 = .ok (.aload_n 0, 1) := by decide +kernel
theorem dX5_init_37 : decode cX5_init 37 = .ok (.bipush 30, 2) := by decide +kernel
theorem dX5_init_39 : decode cX5_init 39 = .ok (.newarray .int, 2) := by decide +kernel
theorem dX5_init_41 : decode cX5_init 41 = .ok (.putfield 24, 3) := by decide +kernel
theorem dX5_init_44 : decode cX5_init 44 = .ok (.return_, 1) := by decide +kernel
theorem dX5_add_0 : decode cX5_add 0 = .ok (.aload_n 0, 1) := by decide +kernel
theorem dX5_add_1 : decode cX5_add 1 = .ok (.getfield 27, 3) := by decide +kernel
theorem dX5_add_4 : decode cX5_add 4 = .ok (.bipush 30, 2) := by decide +kernel
theorem dX5_add_6 : decode cX5_add 6 = .ok (.if_icmp .lt 5, 3) := by decide +kernel
theorem dX5_add_9 : decode cX5_add 9 = .ok (.iconst (-1), 1) := by decide +kernel
theorem dX5_add_10 : decode cX5_add 10 = .ok (.ireturn, 1) := by decide +kernel
theorem dX5_add_11 : decode cX5_add 11 = .ok (.aload_n 0, 1) := by decide +kernel
theorem dX5_add_12 : decode cX5_add 12 = .ok (.getfield 9, 3) := by decide +kernel
theorem dX5_add_15 : decode cX5_add 15 = .ok (.aload_n 0, 1) := by decide +kernel
theorem dX5_add_16 : decode cX5_add 16 = .ok (.getfield 27, 3) := by decide +kernel
theorem dX5_add_19 : decode cX5_add 19 = .ok (.iload_n 1, 1) := by decide +kernel
theorem dX5_add_20 : decode cX5_add 20 = .ok (.iastore, 1) := by decide +kernel
theorem dX5_add_21 : decode cX5_add 21 = .ok (.aload_n 0, 1) := by decide +kernel
theorem dX5_add_22 : decode cX5_add 22 = .ok (.getfield 15, 3) := by decide +kernel
theorem dX5_add_25 : decode cX5_add 25 = .ok (.aload_n 0, 1) := by decide +kernel
theorem dX5_add_26 : decode cX5_add 26 = .ok (.getfield 27, 3) := by decide +kernel
theorem dX5_add_29 : decode cX5_add 29 = .ok (.iload_n 2, 1) := by decide +kernel
theorem dX5_add_30 : decode cX5_add 30 = .ok (.iastore, 1) := by decide +kernel
theorem dX5_add_31 : decode cX5_add 31 = .ok (.aload_n 0, 1) := by decide +kernel
theorem dX5_add_32 : decode cX5_add 32 = .ok (.getfield 18, 3) := by decide +kernel
theorem dX5_add_35 : decode cX5_add 35 = .ok (.aload_n 0, 1) := by decide +kernel
theorem dX5_add_36 : decode cX5_add 36 = .ok (.getfield 27, 3) := by decide +kernel
theorem dX5_add_39 : decode cX5_add 39 = .ok (.iload_n 3, 1) := by decide +kernel
theorem dX5_add_40 : decode cX5_add 40 = .ok (.iastore, 1) := by decide +kernel
theorem dX5_add_41 : decode cX5_add 41 = .ok (.aload_n 0, 1) := by decide +kernel
theorem dX5_add_42 : decode cX5_add 42 = .ok (.getfield 21, 3) := by decide +kernel
theorem dX5_add_45 : decode cX5_add 45 = .ok (.aload_n 0, 1) := by decide +kernel
theorem dX5_add_46 : decode cX5_add 46 = .ok (.getfield 27, 3) := by decide +kernel
theorem dX5_add_49 : decode cX5_add 49 = .ok (.iconst (-1), 1) := by decide +kernel
theorem dX5_add_50 : decode cX5_add 50 = .ok (.iastore, 1) := by decide +kernel
theorem dX5_add_51 : decode cX5_add 51 = .ok (.aload_n 0, 1) := by decide +kernel
theorem dX5_add_52 : decode cX5_add 52 = .ok (.getfield 24, 3) := by decide +kernel
theorem dX5_add_55 : decode cX5_add 55 = .ok (.aload_n 0, 1) := by decide +kernel
theorem dX5_add_56 : decode cX5_add 56 = .ok (.getfield 27, 3) := by decide +kernel
theorem dX5_add_59 : decode cX5_add 59 = .ok (.iconst 0, 1) := by decide +kernel
theorem dX5_add_60 : decode cX5_add 60 = .ok (.iastore, 1) := by decide +kernel
theorem dX5_add_61 : decode cX5_add 61 = .ok (.aload_n 0, 1) := by decide +kernel
theorem dX5_add_62 : decode cX5_add 62 = .ok (.dup, 1) := by decide +kernel
theorem dX5_add_63 : decode cX5_add 63 = .ok (.getfield 27, 3) := by decide +kernel
theorem dX5_add_66 : decode cX5_add 66 = .ok (.iconst 1, 1) := by decide +kernel
theorem dX5_add_67 : decode cX5_add 67 = .ok (.iadd, 1) := by decide +kernel
theorem dX5_add_68 : decode cX5_add 68 = .ok (.putfield 27, 3) := by decide +kernel
theorem dX5_add_71 : decode cX5_add 71 = .ok (.aload_n 0, 1) := by decide +kernel
theorem dX5_add_72 : decode cX5_add 72 = .ok (.getfield 27, 3) := by decide +kernel
theorem dX5_add_75 : decode cX5_add 75 = .ok (.iconst 1, 1) := by decide +kernel
theorem dX5_add_76 : decode cX5_add 76 = .ok (.isub, 1) := by decide +kernel
theorem dX5_add_77 : decode cX5_add 77 = .ok (.ireturn, 1) := by decide +kernel
theorem dX5_dropLast_0 : decode cX5_dropLast 0 = .ok (.aload_n 0, 1) := by decide +kernel
theorem dX5_dropLast_1 : decode cX5_dropLast 1 = .ok (.getfield 27, 3) := by decide +kernel
theorem dX5_dropLast_4 : decode cX5_dropLast 4 = .ok (.ifCond .le 13, 3) := by decide +kernel
theorem dX5_dropLast_7 : decode cX5_dropLast 7 = .ok (.aload_n 0, 1) := by decide +kernel
theorem dX5_dropLast_8 : decode cX5_dropLast 8 = .ok (.dup, 1) := by decide +kernel
theorem dX5_dropLast_9 : decode cX5_dropLast 9 = .ok (.getfield 27, 3) := by decide +kernel
theorem dX5_dropLast_12 : decode cX5_dropLast 12 = .ok (.iconst 1, 1) := by decide +kernel
theorem dX5_dropLast_13 : decode cX5_dropLast 13 = .ok (.isub, 1) := by decide +kernel
theorem dX5_dropLast_14 : decode cX5_dropLast 14 = .ok (.putfield 27, 3) := by decide +kernel
theorem dX5_dropLast_17 : decode cX5_dropLast 17 = .ok (.return_, 1) := by decide +kernel
theorem dX5_has_0 : decode cX5_has 0 = .ok (.iload_n 1, 1) := by decide +kernel
theorem dX5_has_1 : decode cX5_has 1 = .ok (.ifCond .lt 15, 3) := by decide +kernel
theorem dX5_has_4 : decode cX5_has 4 = .ok (.iload_n 1, 1) := by decide +kernel
theorem dX5_has_5 : decode cX5_has 5 = .ok (.aload_n 0, 1) := by decide +kernel
theorem dX5_has_6 : decode cX5_has 6 = .ok (.getfield 27, 3) := by decide +kernel
theorem dX5_has_9 : decode cX5_has 9 = .ok (.if_icmp .ge 7, 3) := by decide +kernel
theorem dX5_has_12 : decode cX5_has 12 = .ok (.iconst 1, 1) := by decide +kernel
theorem dX5_has_13 : decode cX5_has 13 = .ok (.goto 4, 3) := by decide +kernel
theorem dX5_has_16 : decode cX5_has 16 = .ok (.iconst 0, 1) := by decide +kernel
theorem dX5_has_17 : decode cX5_has 17 = .ok (.ireturn, 1) := by decide +kernel
theorem dX5_hasAll_0 : decode cX5_hasAll 0 = .ok (.iload_n 1, 1) := by decide +kernel
theorem dX5_hasAll_1 : decode cX5_hasAll 1 = .ok (.ifCond .lt 16, 3) := by decide +kernel
theorem dX5_hasAll_4 : decode cX5_hasAll 4 = .ok (.iload_n 1, 1) := by decide +kernel
theorem dX5_hasAll_5 : decode cX5_hasAll 5 = .ok (.aload_n 0, 1) := by decide +kernel
theorem dX5_hasAll_6 : decode cX5_hasAll 6 = .ok (.getfield 27, 3) := by decide +kernel
theorem dX5_hasAll_9 : decode cX5_hasAll 9 = .ok (.ishr, 1) := by decide +kernel
theorem dX5_hasAll_10 : decode cX5_hasAll 10 = .ok (.ifCond .ne 7, 3) := by decide +kernel
theorem dX5_hasAll_13 : decode cX5_hasAll 13 = .ok (.iconst 1, 1) := by decide +kernel
theorem dX5_hasAll_14 : decode cX5_hasAll 14 = .ok (.goto 4, 3) := by decide +kernel
theorem dX5_hasAll_17 : decode cX5_hasAll 17 = .ok (.iconst 0, 1) := by decide +kernel
theorem dX5_hasAll_18 : decode cX5_hasAll 18 = .ok (.ireturn, 1) := by decide +kernel
theorem dX5_copyFrom_0 : decode cX5_copyFrom 0 = .ok (.aload_n 1, 1) := by decide +kernel
theorem dX5_copyFrom_1 : decode cX5_copyFrom 1 = .ok (.getfield 9, 3) := by decide +kernel
theorem dX5_copyFrom_4 : decode cX5_copyFrom 4 = .ok (.iconst 0, 1) := by decide +kernel
theorem dX5_copyFrom_5 : decode cX5_copyFrom 5 = .ok (.aload_n 0, 1) := by decide +kernel
theorem dX5_copyFrom_6 : decode cX5_copyFrom 6 = .ok (.getfield 9, 3) := by decide +kernel
theorem dX5_copyFrom_9 : decode cX5_copyFrom 9 = .ok (.iconst 0, 1) := by decide +kernel
theorem dX5_copyFrom_10 : decode cX5_copyFrom 10 = .ok (.bipush 30, 2) := by decide +kernel
theorem dX5_copyFrom_12 : decode cX5_copyFrom 12 = .ok (.invokestatic 31, 3) := by decide +kernel
theorem dX5_copyFrom_15 : decode cX5_copyFrom 15 = .ok (.aload_n 1, 1) := by decide +kernel
theorem dX5_copyFrom_16 : decode cX5_copyFrom 16 = .ok (.getfield 15, 3) := by decide +kernel
theorem dX5_copyFrom_19 : decode cX5_copyFrom 19 = .ok (.iconst 0, 1) := by decide +kernel
theorem dX5_copyFrom_20 : decode cX5_copyFrom 20 = .ok (.aload_n 0, 1) := by decide +kernel
theorem dX5_copyFrom_21 : decode cX5_copyFrom 21 = .ok (.getfield 15, 3) := by decide +kernel
theorem dX5_copyFrom_24 : decode cX5_copyFrom 24 = .ok (.iconst 0, 1) := by decide +kernel
theorem dX5_copyFrom_25 : decode cX5_copyFrom 25 = .ok (.bipush 30, 2) := by decide +kernel
theorem dX5_copyFrom_27 : decode cX5_copyFrom 27 = .ok (.invokestatic 31, 3) := by decide +kernel
theorem dX5_copyFrom_30 : decode cX5_copyFrom 30 = .ok (.aload_n 1, 1) := by decide +kernel
theorem dX5_copyFrom_31 : decode cX5_copyFrom 31 = .ok (.getfield 18, 3) := by decide +kernel
theorem dX5_copyFrom_34 : decode cX5_copyFrom 34 = .ok (.iconst 0, 1) := by decide +kernel
theorem dX5_copyFrom_35 : decode cX5_copyFrom 35 = .ok (.aload_n 0, 1) := by decide +kernel
theorem dX5_copyFrom_36 : decode cX5_copyFrom 36 = .ok (.getfield 18, 3) := by decide +kernel
theorem dX5_copyFrom_39 : decode cX5_copyFrom 39 = .ok (.iconst 0, 1) := by decide +kernel
theorem dX5_copyFrom_40 : decode cX5_copyFrom 40 = .ok (.bipush 30, 2) := by decide +kernel
theorem dX5_copyFrom_42 : decode cX5_copyFrom 42 = .ok (.invokestatic 31, 3) := by decide +kernel
theorem dX5_copyFrom_45 : decode cX5_copyFrom 45 = .ok (.aload_n 1, 1) := by decide +kernel
theorem dX5_copyFrom_46 : decode cX5_copyFrom 46 = .ok (.getfield 21, 3) := by decide +kernel
theorem dX5_copyFrom_49 : decode cX5_copyFrom 49 = .ok (.iconst 0, 1) := by decide +kernel
theorem dX5_copyFrom_50 : decode cX5_copyFrom 50 = .ok (.aload_n 0, 1) := by decide +kernel
theorem dX5_copyFrom_51 : decode cX5_copyFrom 51 = .ok (.getfield 21, 3) := by decide +kernel
theorem dX5_copyFrom_54 : decode cX5_copyFrom 54 = .ok (.iconst 0, 1) := by decide +kernel
theorem dX5_copyFrom_55 : decode cX5_copyFrom 55 = .ok (.bipush 30, 2) := by decide +kernel
theorem dX5_copyFrom_57 : decode cX5_copyFrom 57 = .ok (.invokestatic 31, 3) := by decide +kernel
theorem dX5_copyFrom_60 : decode cX5_copyFrom 60 = .ok (.aload_n 1, 1) := by decide +kernel
theorem dX5_copyFrom_61 : decode cX5_copyFrom 61 = .ok (.getfield 24, 3) := by decide +kernel
theorem dX5_copyFrom_64 : decode cX5_copyFrom 64 = .ok (.iconst 0, 1) := by decide +kernel
theorem dX5_copyFrom_65 : decode cX5_copyFrom 65 = .ok (.aload_n 0, 1) := by decide +kernel
theorem dX5_copyFrom_66 : decode cX5_copyFrom 66 = .ok (.getfield 24, 3) := by decide +kernel
theorem dX5_copyFrom_69 : decode cX5_copyFrom 69 = .ok (.iconst 0, 1) := by decide +kernel
theorem dX5_copyFrom_70 : decode cX5_copyFrom 70 = .ok (.bipush 30, 2) := by decide +kernel
theorem dX5_copyFrom_72 : decode cX5_copyFrom 72 = .ok (.invokestatic 31, 3) := by decide +kernel
theorem dX5_copyFrom_75 : decode cX5_copyFrom 75 = .ok (.aload_n 0, 1) := by decide +kernel
theorem dX5_copyFrom_76 : decode cX5_copyFrom 76 = .ok (.aload_n 1, 1) := by decide +kernel
theorem dX5_copyFrom_77 : decode cX5_copyFrom 77 = .ok (.getfield 27, 3) := by decide +kernel
theorem dX5_copyFrom_80 : decode cX5_copyFrom 80 = .ok (.putfield 27, 3) := by decide +kernel
theorem dX5_copyFrom_83 : decode cX5_copyFrom 83 = .ok (.return_, 1) := by decide +kernel
theorem dX6_init_0 : decode cX6_init 0 = .ok (.aload_n 0, 1) := by decide +kernel
theorem dX6_init_1 : decode cX6_init 1 = .ok (.invokespecial 3, 3) := by decide +kernel
theorem dX6_init_4 : decode cX6_init 4 = .ok (.aload_n 0, 1) := by decide +kernel
theorem dX6_init_5 : decode cX6_init 5 = .ok (.bipush 8, 2) := by decide +kernel
theorem dX6_init_7 : decode cX6_init 7 = .ok (.newarray .int, 2) := by decide +kernel
theorem dX6_init_9 : decode cX6_init 9 = .ok (.putfield 9, 3) := by decide +kernel
theorem dX6_init_12 : decode cX6_init 12 = .ok (.aload_n 0, 1) := by decide +kernel
theorem dX6_init_13 : decode cX6_init 13 = .ok (.bipush 8, 2) := by decide +kernel
theorem dX6_init_15 : decode cX6_init 15 = .ok (.newarray .int, 2) := by decide +kernel
theorem dX6_init_17 : decode cX6_init 17 = .ok (.putfield 15, 3) := by decide +kernel
theorem dX6_init_20 : decode cX6_init 20 = .ok (.aload_n 0, 1) := by decide +kernel
theorem dX6_init_21 : decode cX6_init 21 = .ok (.bipush 8, 2) := by decide +kernel
theorem dX6_init_23 : decode cX6_init 23 = .ok (.newarray .int, 2) := by decide +kernel
theorem dX6_init_25 : decode cX6_init 25 = .ok (.putfield 18, 3) := by decide +kernel
theorem dX6_init_28 : decode cX6_init 28 = .ok (.aload_n 0, 1) := by decide +kernel
theorem dX6_init_29 : decode cX6_init 29 = .ok (.bipush 8, 2) := by decide +kernel
theorem dX6_init_31 : decode cX6_init 31 = .ok (.newarray .int, 2) := by decide +kernel
theorem dX6_init_33 : decode cX6_init 33 = .ok (.putfield 21, 3) := by decide +kernel
theorem dX6_init_36 : decode cX6_init 36 = .ok (.aload_n 0, 1) := by decide +kernel
theorem dX6_init_37 : decode cX6_init 37 = .ok (.bipush 8, 2) := by decide +kernel
theorem dX6_init_39 : decode cX6_init 39 = .ok (.newarray .int, 2) := by decide +kernel
theorem dX6_init_41 : decode cX6_init 41 = .ok (.putfield 24, 3) := by decide +kernel
theorem dX6_init_44 : decode cX6_init 44 = .ok (.return_, 1) := by decide +kernel
theorem dX6_add_0 : decode cX6_add 0 = .ok (.aload_n 0, 1) := by decide +kernel
theorem dX6_add_1 : decode cX6_add 1 = .ok (.getfield 27, 3) := by decide +kernel
theorem dX6_add_4 : decode cX6_add 4 = .ok (.bipush 8, 2) := by decide +kernel
theorem dX6_add_6 : decode cX6_add 6 = .ok (.if_icmp .lt 5, 3) := by decide +kernel
theorem dX6_add_9 : decode cX6_add 9 = .ok (.iconst (-1), 1) := by decide +kernel
theorem dX6_add_10 : decode cX6_add 10 = .ok (.ireturn, 1) := by decide +kernel
theorem dX6_add_11 : decode cX6_add 11 = .ok (.aload_n 0, 1) := by decide +kernel
theorem dX6_add_12 : decode cX6_add 12 = .ok (.getfield 9, 3) := by decide +kernel
theorem dX6_add_15 : decode cX6_add 15 = .ok (.aload_n 0, 1) := by decide +kernel
theorem dX6_add_16 : decode cX6_add 16 = .ok (.getfield 27, 3) := by decide +kernel
theorem dX6_add_19 : decode cX6_add 19 = .ok (.iload_n 1, 1) := by decide +kernel
theorem dX6_add_20 : decode cX6_add 20 = .ok (.iastore, 1) := by decide +kernel
theorem dX6_add_21 : decode cX6_add 21 = .ok (.aload_n 0, 1) := by decide +kernel
theorem dX6_add_22 : decode cX6_add 22 = .ok (.getfield 15, 3) := by decide +kernel
theorem dX6_add_25 : decode cX6_add 25 = .ok (.aload_n 0, 1) := by decide +kernel
theorem dX6_add_26 : decode cX6_add 26 = .ok (.getfield 27, 3) := by decide +kernel
theorem dX6_add_29 : decode cX6_add 29 = .ok (.iload_n 2, 1) := by decide +kernel
theorem dX6_add_30 : decode cX6_add 30 = .ok (.iastore, 1) := by decide +kernel
theorem dX6_add_31 : decode cX6_add 31 = .ok (.aload_n 0, 1) := by decide +kernel
theorem dX6_add_32 : decode cX6_add 32 = .ok (.getfield 18, 3) := by decide +kernel
theorem dX6_add_35 : decode cX6_add 35 = .ok (.aload_n 0, 1) := by decide +kernel
theorem dX6_add_36 : decode cX6_add 36 = .ok (.getfield 27, 3) := by decide +kernel
theorem dX6_add_39 : decode cX6_add 39 = .ok (.iload_n 3, 1) := by decide +kernel
theorem dX6_add_40 : decode cX6_add 40 = .ok (.iastore, 1) := by decide +kernel
theorem dX6_add_41 : decode cX6_add 41 = .ok (.aload_n 0, 1) := by decide +kernel
theorem dX6_add_42 : decode cX6_add 42 = .ok (.getfield 21, 3) := by decide +kernel
theorem dX6_add_45 : decode cX6_add 45 = .ok (.aload_n 0, 1) := by decide +kernel
theorem dX6_add_46 : decode cX6_add 46 = .ok (.getfield 27, 3) := by decide +kernel
theorem dX6_add_49 : decode cX6_add 49 = .ok (.iload 4, 2) := by decide +kernel
theorem dX6_add_51 : decode cX6_add 51 = .ok (.iastore, 1) := by decide +kernel
theorem dX6_add_52 : decode cX6_add 52 = .ok (.aload_n 0, 1) := by decide +kernel
theorem dX6_add_53 : decode cX6_add 53 = .ok (.getfield 24, 3) := by decide +kernel
theorem dX6_add_56 : decode cX6_add 56 = .ok (.aload_n 0, 1) := by decide +kernel
theorem dX6_add_57 : decode cX6_add 57 = .ok (.getfield 27, 3) := by decide +kernel
theorem dX6_add_60 : decode cX6_add 60 = .ok (.iload 5, 2) := by decide +kernel
theorem dX6_add_62 : decode cX6_add 62 = .ok (.iastore, 1) := by decide +kernel
theorem dX6_add_63 : decode cX6_add 63 = .ok (.aload_n 0, 1) := by decide +kernel
theorem dX6_add_64 : decode cX6_add 64 = .ok (.dup, 1) := by decide +kernel
theorem dX6_add_65 : decode cX6_add 65 = .ok (.getfield 27, 3) := by decide +kernel
theorem dX6_add_68 : decode cX6_add 68 = .ok (.iconst 1, 1) := by decide +kernel
theorem dX6_add_69 : decode cX6_add 69 = .ok (.iadd, 1) := by decide +kernel
theorem dX6_add_70 : decode cX6_add 70 = .ok (.putfield 27, 3) := by decide +kernel
theorem dX6_add_73 : decode cX6_add 73 = .ok (.aload_n 0, 1) := by decide +kernel
theorem dX6_add_74 : decode cX6_add 74 = .ok (.getfield 27, 3) := by decide +kernel
theorem dX6_add_77 : decode cX6_add 77 = .ok (.iconst 1, 1) := by decide +kernel
theorem dX6_add_78 : decode cX6_add 78 = .ok (.isub, 1) := by decide +kernel
theorem dX6_add_79 : decode cX6_add 79 = .ok (.ireturn, 1) := by decide +kernel
theorem dX6_priceOf_0 : decode cX6_priceOf 0 = .ok (.iconst 0, 1) := by decide +kernel
theorem dX6_priceOf_1 : decode cX6_priceOf 1 = .ok (.istore_n 2, 1) := by decide +kernel
theorem dX6_priceOf_2 : decode cX6_priceOf 2 = .ok (.iconst 0, 1) := by decide +kernel
theorem dX6_priceOf_3 : decode cX6_priceOf 3 = .ok (.istore_n 3, 1) := by decide +kernel
theorem dX6_priceOf_4 : decode cX6_priceOf 4 = .ok (.iload_n 3, 1) := by decide +kernel
theorem dX6_priceOf_5 : decode cX6_priceOf 5 = .ok (.aload_n 0, 1) := by decide +kernel
theorem dX6_priceOf_6 : decode cX6_priceOf 6 = .ok (.getfield 27, 3) := by decide +kernel
theorem dX6_priceOf_9 : decode cX6_priceOf 9 = .ok (.if_icmp .ge 24, 3) := by decide +kernel
theorem dX6_priceOf_12 : decode cX6_priceOf 12 = .ok (.iload_n 2, 1) := by decide +kernel
theorem dX6_priceOf_13 : decode cX6_priceOf 13 = .ok (.iload_n 1, 1) := by decide +kernel
theorem dX6_priceOf_14 : decode cX6_priceOf 14 = .ok (.iload_n 3, 1) := by decide +kernel
theorem dX6_priceOf_15 : decode cX6_priceOf 15 = .ok (.ishr, 1) := by decide +kernel
theorem dX6_priceOf_16 : decode cX6_priceOf 16 = .ok (.iconst 1, 1) := by decide +kernel
theorem dX6_priceOf_17 : decode cX6_priceOf 17 = .ok (.iand, 1) := by decide +kernel
theorem dX6_priceOf_18 : decode cX6_priceOf 18 = .ok (.aload_n 0, 1) := by decide +kernel
theorem dX6_priceOf_19 : decode cX6_priceOf 19 = .ok (.getfield 24, 3) := by decide +kernel
theorem dX6_priceOf_22 : decode cX6_priceOf 22 = .ok (.iload_n 3, 1) := by decide +kernel
theorem dX6_priceOf_23 : decode cX6_priceOf 23 = .ok (.iaload, 1) := by decide +kernel
theorem dX6_priceOf_24 : decode cX6_priceOf 24 = .ok (.imul, 1) := by decide +kernel
theorem dX6_priceOf_25 : decode cX6_priceOf 25 = .ok (.iadd, 1) := by decide +kernel
theorem dX6_priceOf_26 : decode cX6_priceOf 26 = .ok (.istore_n 2, 1) := by decide +kernel
theorem dX6_priceOf_27 : decode cX6_priceOf 27 = .ok (.iinc 3 1, 3) := by decide +kernel
theorem dX6_priceOf_30 : decode cX6_priceOf 30 = .ok (.goto (-26), 3) := by decide +kernel
theorem dX6_priceOf_33 : decode cX6_priceOf 33 = .ok (.iload_n 2, 1) := by decide +kernel
theorem dX6_priceOf_34 : decode cX6_priceOf 34 = .ok (.ireturn, 1) := by decide +kernel
theorem dX6_copyFrom_0 : decode cX6_copyFrom 0 = .ok (.aload_n 1, 1) := by decide +kernel
theorem dX6_copyFrom_1 : decode cX6_copyFrom 1 = .ok (.getfield 9, 3) := by decide +kernel
theorem dX6_copyFrom_4 : decode cX6_copyFrom 4 = .ok (.iconst 0, 1) := by decide +kernel
theorem dX6_copyFrom_5 : decode cX6_copyFrom 5 = .ok (.aload_n 0, 1) := by decide +kernel
theorem dX6_copyFrom_6 : decode cX6_copyFrom 6 = .ok (.getfield 9, 3) := by decide +kernel
theorem dX6_copyFrom_9 : decode cX6_copyFrom 9 = .ok (.iconst 0, 1) := by decide +kernel
theorem dX6_copyFrom_10 : decode cX6_copyFrom 10 = .ok (.bipush 8, 2) := by decide +kernel
theorem dX6_copyFrom_12 : decode cX6_copyFrom 12 = .ok (.invokestatic 31, 3) := by decide +kernel
theorem dX6_copyFrom_15 : decode cX6_copyFrom 15 = .ok (.aload_n 1, 1) := by decide +kernel
theorem dX6_copyFrom_16 : decode cX6_copyFrom 16 = .ok (.getfield 15, 3) := by decide +kernel
theorem dX6_copyFrom_19 : decode cX6_copyFrom 19 = .ok (.iconst 0, 1) := by decide +kernel
theorem dX6_copyFrom_20 : decode cX6_copyFrom 20 = .ok (.aload_n 0, 1) := by decide +kernel
theorem dX6_copyFrom_21 : decode cX6_copyFrom 21 = .ok (.getfield 15, 3) := by decide +kernel
theorem dX6_copyFrom_24 : decode cX6_copyFrom 24 = .ok (.iconst 0, 1) := by decide +kernel
theorem dX6_copyFrom_25 : decode cX6_copyFrom 25 = .ok (.bipush 8, 2) := by decide +kernel
theorem dX6_copyFrom_27 : decode cX6_copyFrom 27 = .ok (.invokestatic 31, 3) := by decide +kernel
theorem dX6_copyFrom_30 : decode cX6_copyFrom 30 = .ok (.aload_n 1, 1) := by decide +kernel
theorem dX6_copyFrom_31 : decode cX6_copyFrom 31 = .ok (.getfield 18, 3) := by decide +kernel
theorem dX6_copyFrom_34 : decode cX6_copyFrom 34 = .ok (.iconst 0, 1) := by decide +kernel
theorem dX6_copyFrom_35 : decode cX6_copyFrom 35 = .ok (.aload_n 0, 1) := by decide +kernel
theorem dX6_copyFrom_36 : decode cX6_copyFrom 36 = .ok (.getfield 18, 3) := by decide +kernel
theorem dX6_copyFrom_39 : decode cX6_copyFrom 39 = .ok (.iconst 0, 1) := by decide +kernel
theorem dX6_copyFrom_40 : decode cX6_copyFrom 40 = .ok (.bipush 8, 2) := by decide +kernel
theorem dX6_copyFrom_42 : decode cX6_copyFrom 42 = .ok (.invokestatic 31, 3) := by decide +kernel
theorem dX6_copyFrom_45 : decode cX6_copyFrom 45 = .ok (.aload_n 1, 1) := by decide +kernel
theorem dX6_copyFrom_46 : decode cX6_copyFrom 46 = .ok (.getfield 21, 3) := by decide +kernel
theorem dX6_copyFrom_49 : decode cX6_copyFrom 49 = .ok (.iconst 0, 1) := by decide +kernel
theorem dX6_copyFrom_50 : decode cX6_copyFrom 50 = .ok (.aload_n 0, 1) := by decide +kernel
theorem dX6_copyFrom_51 : decode cX6_copyFrom 51 = .ok (.getfield 21, 3) := by decide +kernel
theorem dX6_copyFrom_54 : decode cX6_copyFrom 54 = .ok (.iconst 0, 1) := by decide +kernel
theorem dX6_copyFrom_55 : decode cX6_copyFrom 55 = .ok (.bipush 8, 2) := by decide +kernel
theorem dX6_copyFrom_57 : decode cX6_copyFrom 57 = .ok (.invokestatic 31, 3) := by decide +kernel
theorem dX6_copyFrom_60 : decode cX6_copyFrom 60 = .ok (.aload_n 1, 1) := by decide +kernel
theorem dX6_copyFrom_61 : decode cX6_copyFrom 61 = .ok (.getfield 24, 3) := by decide +kernel
theorem dX6_copyFrom_64 : decode cX6_copyFrom 64 = .ok (.iconst 0, 1) := by decide +kernel
theorem dX6_copyFrom_65 : decode cX6_copyFrom 65 = .ok (.aload_n 0, 1) := by decide +kernel
theorem dX6_copyFrom_66 : decode cX6_copyFrom 66 = .ok (.getfield 24, 3) := by decide +kernel
theorem dX6_copyFrom_69 : decode cX6_copyFrom 69 = .ok (.iconst 0, 1) := by decide +kernel
theorem dX6_copyFrom_70 : decode cX6_copyFrom 70 = .ok (.bipush 8, 2) := by decide +kernel
theorem dX6_copyFrom_72 : decode cX6_copyFrom 72 = .ok (.invokestatic 31, 3) := by decide +kernel
theorem dX6_copyFrom_75 : decode cX6_copyFrom 75 = .ok (.aload_n 0, 1) := by decide +kernel
theorem dX6_copyFrom_76 : decode cX6_copyFrom 76 = .ok (.aload_n 1, 1) := by decide +kernel
theorem dX6_copyFrom_77 : decode cX6_copyFrom 77 = .ok (.getfield 27, 3) := by decide +kernel
theorem dX6_copyFrom_80 : decode cX6_copyFrom 80 = .ok (.putfield 27, 3) := by decide +kernel
theorem dX6_copyFrom_83 : decode cX6_copyFrom 83 = .ok (.return_, 1) := by decide +kernel
theorem dX7_init_0 : decode cX7_init 0 = .ok (.aload_n 0, 1) := by decide +kernel
theorem dX7_init_1 : decode cX7_init 1 = .ok (.invokespecial 3, 3) := by decide +kernel
theorem dX7_init_4 : decode cX7_init 4 = .ok (.aload_n 0, 1) := by decide +kernel
theorem dX7_init_5 : decode cX7_init 5 = .ok (.sipush 168, 3) := by decide +kernel
theorem dX7_init_8 : decode cX7_init 8 = .ok (.newarray .int, 2) := by decide +kernel
theorem dX7_init_10 : decode cX7_init 10 = .ok (.putfield 9, 3) := by decide +kernel
theorem dX7_init_13 : decode cX7_init 13 = .ok (.aload_n 0, 1) := by decide +kernel
theorem dX7_init_14 : decode cX7_init 14 = .ok (.sipush 168, 3) := by decide +kernel
theorem dX7_init_17 : decode cX7_init 17 = .ok (.newarray .int, 2) := by decide +kernel
theorem dX7_init_19 : decode cX7_init 19 = .ok (.putfield 15, 3) := by decide +kernel
theorem dX7_init_22 : decode cX7_init 22 = .ok (.aload_n 0, 1) := by decide +kernel
theorem dX7_init_23 : decode cX7_init 23 = .ok (.sipush 168, 3) := by decide +kernel
theorem dX7_init_26 : decode cX7_init 26 = .ok (.newarray .int, 2) := by decide +kernel
theorem dX7_init_28 : decode cX7_init 28 = .ok (.putfield 18, 3) := by decide +kernel
theorem dX7_init_31 : decode cX7_init 31 = .ok (.aload_n 0, 1) := by decide +kernel
theorem dX7_init_32 : decode cX7_init 32 = .ok (.sipush 168, 3) := by decide +kernel
theorem dX7_init_35 : decode cX7_init 35 = .ok (.newarray .int, 2) := by decide +kernel
theorem dX7_init_37 : decode cX7_init 37 = .ok (.putfield 21, 3) := by decide +kernel
theorem dX7_init_40 : decode cX7_init 40 = .ok (.aload_n 0, 1) := by decide +kernel
theorem dX7_init_41 : decode cX7_init 41 = .ok (.sipush 168, 3) := by decide +kernel
theorem dX7_init_44 : decode cX7_init 44 = .ok (.newarray .int, 2) := by decide +kernel
theorem dX7_init_46 : decode cX7_init 46 = .ok (.putfield 24, 3) := by decide +kernel
theorem dX7_init_49 : decode cX7_init 49 = .ok (.return_, 1) := by decide +kernel
theorem dX7_make_0 : decode cX7_make 0 = .ok (.aload_n 0, 1) := by decide +kernel
theorem dX7_make_1 : decode cX7_make 1 = .ok (.getfield 9, 3) := by decide +kernel
theorem dX7_make_4 : decode cX7_make 4 = .ok (.iconst 0, 1) := by decide +kernel
theorem dX7_make_5 : decode cX7_make 5 = .ok (.invokestatic 27, 3) := by decide +kernel
theorem dX7_make_8 : decode cX7_make 8 = .ok (.aload_n 0, 1) := by decide +kernel
theorem dX7_make_9 : decode cX7_make 9 = .ok (.getfield 15, 3) := by decide +kernel
theorem dX7_make_12 : decode cX7_make 12 = .ok (.iconst 0, 1) := by decide +kernel
theorem dX7_make_13 : decode cX7_make 13 = .ok (.invokestatic 27, 3) := by decide +kernel
theorem dX7_make_16 : decode cX7_make 16 = .ok (.aload_n 0, 1) := by decide +kernel
theorem dX7_make_17 : decode cX7_make 17 = .ok (.getfield 18, 3) := by decide +kernel
theorem dX7_make_20 : decode cX7_make 20 = .ok (.iconst 0, 1) := by decide +kernel
theorem dX7_make_21 : decode cX7_make 21 = .ok (.invokestatic 27, 3) := by decide +kernel
theorem dX7_make_24 : decode cX7_make 24 = .ok (.aload_n 0, 1) := by decide +kernel
theorem dX7_make_25 : decode cX7_make 25 = .ok (.getfield 21, 3) := by decide +kernel
theorem dX7_make_28 : decode cX7_make 28 = .ok (.iconst 0, 1) := by decide +kernel
theorem dX7_make_29 : decode cX7_make 29 = .ok (.invokestatic 27, 3) := by decide +kernel
theorem dX7_make_32 : decode cX7_make 32 = .ok (.aload_n 0, 1) := by decide +kernel
theorem dX7_make_33 : decode cX7_make 33 = .ok (.getfield 24, 3) := by decide +kernel
theorem dX7_make_36 : decode cX7_make 36 = .ok (.iconst 0, 1) := by decide +kernel
theorem dX7_make_37 : decode cX7_make 37 = .ok (.invokestatic 27, 3) := by decide +kernel
theorem dX7_make_40 : decode cX7_make 40 = .ok (.iconst 0, 1) := by decide +kernel
theorem dX7_make_41 : decode cX7_make 41 = .ok (.istore_n 3, 1) := by decide +kernel
theorem dX7_make_42 : decode cX7_make 42 = .ok (.iload_n 3, 1) := by decide +kernel
theorem dX7_make_43 : decode cX7_make 43 = .ok (.aload_n 1, 1) := by decide +kernel
theorem dX7_make_44 : decode cX7_make 44 = .ok (.getfield 33, 3) := by decide +kernel
theorem dX7_make_47 : decode cX7_make 47 = .ok (.getfield 39, 3) := by decide +kernel
theorem dX7_make_50 : decode cX7_make 50 = .ok (.if_icmp .ge 62, 3) := by decide +kernel
theorem dX7_make_53 : decode cX7_make 53 = .ok (.aload_n 0, 1) := by decide +kernel
theorem dX7_make_54 : decode cX7_make 54 = .ok (.getfield 9, 3) := by decide +kernel
theorem dX7_make_57 : decode cX7_make 57 = .ok (.aload_n 1, 1) := by decide +kernel
theorem dX7_make_58 : decode cX7_make 58 = .ok (.getfield 33, 3) := by decide +kernel
theorem dX7_make_61 : decode cX7_make 61 = .ok (.getfield 45, 3) := by decide +kernel
theorem dX7_make_64 : decode cX7_make 64 = .ok (.iload_n 3, 1) := by decide +kernel
theorem dX7_make_65 : decode cX7_make 65 = .ok (.iaload, 1) := by decide +kernel
theorem dX7_make_66 : decode cX7_make 66 = .ok (.dup2, 1) := by decide +kernel
theorem dX7_make_67 : decode cX7_make 67 = .ok (.iaload, 1) := by decide +kernel
theorem dX7_make_68 : decode cX7_make 68 = .ok (.iconst 1, 1) := by decide +kernel
theorem dX7_make_69 : decode cX7_make 69 = .ok (.iload_n 3, 1) := by decide +kernel
theorem dX7_make_70 : decode cX7_make 70 = .ok (.ishl, 1) := by decide +kernel
theorem dX7_make_71 : decode cX7_make 71 = .ok (.ior, 1) := by decide +kernel
theorem dX7_make_72 : decode cX7_make 72 = .ok (.iastore, 1) := by decide +kernel
theorem dX7_make_73 : decode cX7_make 73 = .ok (.aload_n 1, 1) := by decide +kernel
theorem dX7_make_74 : decode cX7_make 74 = .ok (.getfield 33, 3) := by decide +kernel
theorem dX7_make_77 : decode cX7_make 77 = .ok (.getfield 48, 3) := by decide +kernel
theorem dX7_make_80 : decode cX7_make 80 = .ok (.iload_n 3, 1) := by decide +kernel
theorem dX7_make_81 : decode cX7_make 81 = .ok (.iaload, 1) := by decide +kernel
theorem dX7_make_82 : decode cX7_make 82 = .ok (.iconst (-1), 1) := by decide +kernel
theorem dX7_make_83 : decode cX7_make 83 = .ok (.if_icmp .eq 23, 3) := by decide +kernel
theorem dX7_make_86 : decode cX7_make 86 = .ok (.aload_n 0, 1) := by decide +kernel
theorem dX7_make_87 : decode cX7_make 87 = .ok (.getfield 15, 3) := by decide +kernel
theorem dX7_make_90 : decode cX7_make 90 = .ok (.aload_n 1, 1) := by decide +kernel
theorem dX7_make_91 : decode cX7_make 91 = .ok (.getfield 33, 3) := by decide +kernel
theorem dX7_make_94 : decode cX7_make 94 = .ok (.getfield 51, 3) := by decide +kernel
theorem dX7_make_97 : decode cX7_make 97 = .ok (.iload_n 3, 1) := by decide +kernel
theorem dX7_make_98 : decode cX7_make 98 = .ok (.iaload, 1) := by decide +kernel
theorem dX7_make_99 : decode cX7_make 99 = .ok (.dup2, 1) := by decide +kernel
theorem dX7_make_100 : decode cX7_make 100 = .ok (.iaload, 1) := by decide +kernel
theorem dX7_make_101 : decode cX7_make 101 = .ok (.iconst 1, 1) := by decide +kernel
theorem dX7_make_102 : decode cX7_make 102 = .ok (.iload_n 3, 1) := by decide +kernel
theorem dX7_make_103 : decode cX7_make 103 = .ok (.ishl, 1) := by decide +kernel
theorem dX7_make_104 : decode cX7_make 104 = .ok (.ior, 1) := by decide +kernel
theorem dX7_make_105 : decode cX7_make 105 = .ok (.iastore, 1) := by decide +kernel
theorem dX7_make_106 : decode cX7_make 106 = .ok (.iinc 3 1, 3) := by decide +kernel
theorem dX7_make_109 : decode cX7_make 109 = .ok (.goto (-67), 3) := by decide +kernel
theorem dX7_make_112 : decode cX7_make 112 = .ok (.iconst 0, 1) := by decide +kernel
theorem dX7_make_113 : decode cX7_make 113 = .ok (.istore_n 3, 1) := by decide +kernel
theorem dX7_make_114 : decode cX7_make 114 = .ok (.iload_n 3, 1) := by decide +kernel
theorem dX7_make_115 : decode cX7_make 115 = .ok (.aload_n 1, 1) := by decide +kernel
theorem dX7_make_116 : decode cX7_make 116 = .ok (.getfield 54, 3) := by decide +kernel
theorem dX7_make_119 : decode cX7_make 119 = .ok (.getfield 58, 3) := by decide +kernel
theorem dX7_make_122 : decode cX7_make 122 = .ok (.if_icmp .ge 19, 3) := by decide +kernel
theorem dX7_make_125 : decode cX7_make 125 = .ok (.aload_n 0, 1) := by decide +kernel
theorem dX7_make_126 : decode cX7_make 126 = .ok (.aload_n 1, 1) := by decide +kernel
theorem dX7_make_127 : decode cX7_make 127 = .ok (.getfield 54, 3) := by decide +kernel
theorem dX7_make_130 : decode cX7_make 130 = .ok (.iload_n 3, 1) := by decide +kernel
theorem dX7_make_131 : decode cX7_make 131 = .ok (.iload_n 2, 1) := by decide +kernel
theorem dX7_make_132 : decode cX7_make 132 = .ok (.invokevirtual 61, 3) := by decide +kernel
theorem dX7_make_135 : decode cX7_make 135 = .ok (.iinc 3 1, 3) := by decide +kernel
theorem dX7_make_138 : decode cX7_make 138 = .ok (.goto (-24), 3) := by decide +kernel
theorem dX7_make_141 : decode cX7_make 141 = .ok (.iconst 0, 1) := by decide +kernel
theorem dX7_make_142 : decode cX7_make 142 = .ok (.istore_n 3, 1) := by decide +kernel
theorem dX7_make_143 : decode cX7_make 143 = .ok (.iload_n 3, 1) := by decide +kernel
theorem dX7_make_144 : decode cX7_make 144 = .ok (.aload_n 1, 1) := by decide +kernel
theorem dX7_make_145 : decode cX7_make 145 = .ok (.getfield 65, 3) := by decide +kernel
theorem dX7_make_148 : decode cX7_make 148 = .ok (.getfield 69, 3) := by decide +kernel
theorem dX7_make_151 : decode cX7_make 151 = .ok (.if_icmp .ge 29, 3) := by decide +kernel
theorem dX7_make_154 : decode cX7_make 154 = .ok (.aload_n 0, 1) := by decide +kernel
theorem dX7_make_155 : decode cX7_make 155 = .ok (.getfield 21, 3) := by decide +kernel
theorem dX7_make_158 : decode cX7_make 158 = .ok (.aload_n 1, 1) := by decide +kernel
theorem dX7_make_159 : decode cX7_make 159 = .ok (.getfield 65, 3) := by decide +kernel
theorem dX7_make_162 : decode cX7_make 162 = .ok (.getfield 72, 3) := by decide +kernel
theorem dX7_make_165 : decode cX7_make 165 = .ok (.iload_n 3, 1) := by decide +kernel
theorem dX7_make_166 : decode cX7_make 166 = .ok (.iaload, 1) := by decide +kernel
theorem dX7_make_167 : decode cX7_make 167 = .ok (.dup2, 1) := by decide +kernel
theorem dX7_make_168 : decode cX7_make 168 = .ok (.iaload, 1) := by decide +kernel
theorem dX7_make_169 : decode cX7_make 169 = .ok (.iconst 1, 1) := by decide +kernel
theorem dX7_make_170 : decode cX7_make 170 = .ok (.iload_n 3, 1) := by decide +kernel
theorem dX7_make_171 : decode cX7_make 171 = .ok (.ishl, 1) := by decide +kernel
theorem dX7_make_172 : decode cX7_make 172 = .ok (.ior, 1) := by decide +kernel
theorem dX7_make_173 : decode cX7_make 173 = .ok (.iastore, 1) := by decide +kernel
theorem dX7_make_174 : decode cX7_make 174 = .ok (.iinc 3 1, 3) := by decide +kernel
theorem dX7_make_177 : decode cX7_make 177 = .ok (.goto (-34), 3) := by decide +kernel
theorem dX7_make_180 : decode cX7_make 180 = .ok (.iconst 0, 1) := by decide +kernel
theorem dX7_make_181 : decode cX7_make 181 = .ok (.istore_n 3, 1) := by decide +kernel
theorem dX7_make_182 : decode cX7_make 182 = .ok (.iload_n 3, 1) := by decide +kernel
theorem dX7_make_183 : decode cX7_make 183 = .ok (.aload_n 1, 1) := by decide +kernel
theorem dX7_make_184 : decode cX7_make 184 = .ok (.getfield 73, 3) := by decide +kernel
theorem dX7_make_187 : decode cX7_make 187 = .ok (.getfield 77, 3) := by decide +kernel
theorem dX7_make_190 : decode cX7_make 190 = .ok (.if_icmp .ge 29, 3) := by decide +kernel
theorem dX7_make_193 : decode cX7_make 193 = .ok (.aload_n 0, 1) := by decide +kernel
theorem dX7_make_194 : decode cX7_make 194 = .ok (.getfield 24, 3) := by decide +kernel
theorem dX7_make_197 : decode cX7_make 197 = .ok (.aload_n 1, 1) := by decide +kernel
theorem dX7_make_198 : decode cX7_make 198 = .ok (.getfield 73, 3) := by decide +kernel
theorem dX7_make_201 : decode cX7_make 201 = .ok (.getfield 80, 3) := by decide +kernel
theorem dX7_make_204 : decode cX7_make 204 = .ok (.iload_n 3, 1) := by decide +kernel
theorem dX7_make_205 : decode cX7_make 205 = .ok (.iaload, 1) := by decide +kernel
end
section
/-! the heap of this claim as numbers: cells by number (cell k stands at base + k), what they are, and their ints -/
abbrev mx_Sk : Type := List (Nat ⊕ (Nat × List (Option Nat)))
abbrev mx_I : Type := Nat → Nat → Int32
abbrev mx_H : Type := mx_Sk × mx_I
abbrev mx_G : Type := va_G × ClassId × Nat × (Nat → Nat) × Nat × (Nat → Int32)
abbrev mx_M : Type := MethodName × ByteArray × Nat × Option FieldType
def mx_A (G : mx_G) : Nat → Prop := fun q => G.2.2.1 ≤ q
def mx_ad (G : mx_G) (k : Nat) : Nat := if k < 1000 then G.2.2.1 + k else G.2.2.2.1 k
def mx_cv (G : mx_G) : Value → Value
  | .ref k => .ref (mx_ad G k)
  | .int x => .int x
  | .long x => .long x
  | .float x => .float x
  | .double x => .double x
  | .null => .null
  | .retAddr x => .retAddr x
theorem mx_cv_cat (G : mx_G) (v : Value) : (mx_cv G v).category = v.category := by cases v <;> rfl
def mx_rv : Option Nat → Value
  | none => .null
  | some k => .ref k
def mx_ty (ci : Nat) : Nat → FieldType := match ci with
  | 0 => tyX0 | 1 => tyX1 | 2 => tyX2 | 3 => tyX3 | 4 => tyX4 | 5 => tyX5 | 6 => tyX6 | 7 => tyX7 | 8 => tyX8 | 9 => tyX9 | 10 => tyX10 | 11 => tyX11 | _ => tyX12
def mx_isR (ci k : Nat) : Bool := match mx_ty ci k with
  | .object _ => true
  | .array _ => true
  | _ => false
def mx_N (ci : Nat) : Nat := match ci with
  | 0 => 4 | 1 => 16 | 2 => 10 | 3 => 6 | 4 => 4 | 5 => 6 | 6 => 6 | 7 => 5 | 8 => 15 | 9 => 11 | 10 => 8 | 11 => 10 | _ => 33
def mx_fv (I : mx_I) (k ci : Nat) (refs : List (Option Nat)) (j : Nat) : Value := if mx_isR ci j = true then mx_rv (refs.getD j none) else .int (I k j)
def mx_fs (G : mx_G) (I : mx_I) (k ci : Nat) (refs : List (Option Nat)) : List Value := (List.range (mx_N ci)).map fun j => mx_cv G (mx_fv I k ci refs j)
def mx_cell (G : mx_G) (I : mx_I) (k : Nat) : (Nat ⊕ (Nat × List (Option Nat))) → va_E
  | .inl n => .inl (G.2.1, n, .inl (I k))
  | .inr o => .inr (o.1, mx_fs G I k o.1 o.2)
def mx_ws (G : mx_G) (h : mx_H) : va_W := h.1.mapIdx fun k c => (G.2.2.1 + k, mx_cell G h.2 k c)
def mx_W (G : mx_G) (h : mx_H) (H : Heap) : Prop := h.1.length ≤ 1000 ∧ va_P G.1 vwCl (mx_ws G h) H
def mx_row (I : mx_I) (k : Nat) (f : Nat → Int32) : mx_I := fun a => if a = k then f else I a
def mx_set (I : mx_I) (k i : Nat) (x : Int32) : mx_I := mx_row I k (upd (I k) i x)
theorem mx_ws_get {G : mx_G} {h : mx_H} {k : Nat} {c : Nat ⊕ (Nat × List (Option Nat))} (hk : h.1[k]? = some c) : (mx_ws G h)[k]? = some (G.2.2.1 + k, mx_cell G h.2 k c) := by
  simp [mx_ws, List.getElem?_mapIdx, hk]
theorem mx_ws_inv {G : mx_G} {h : mx_H} {k : Nat} {q : Nat × va_E} (hk : (mx_ws G h)[k]? = some q) : q.1 = G.2.2.1 + k ∧ k < h.1.length := by
  simp only [mx_ws, List.getElem?_mapIdx] at hk
  cases hc : h.1[k]? with
  | none => rw [hc] at hk; cases hk
  | some c =>
    rw [hc] at hk
    cases hk
    exact ⟨rfl, (List.getElem?_eq_some_iff.mp hc).1⟩
theorem mx_D (G : mx_G) (h : mx_H) : va_D (mx_A G) (mx_ws G h) := by
  refine ⟨fun i j p q hi hj e => ?_, fun k q hk => ?_⟩
  · have h1 := (mx_ws_inv hi).1
    have h2 := (mx_ws_inv hj).1
    omega
  · show G.2.2.1 ≤ q.1
    rw [(mx_ws_inv hk).1]
    omega
theorem mx_ad_lt {G : mx_G} {k : Nat} (h : k < 1000) : mx_ad G k = G.2.2.1 + k := by simp [mx_ad, h]
theorem mx_row_self (I : mx_I) (k : Nat) (f : Nat → Int32) : mx_row I k f k = f := by simp [mx_row]
theorem mx_row_ne {I : mx_I} {k a : Nat} {f : Nat → Int32} (h : a ≠ k) : mx_row I k f a = I a := by simp [mx_row, h]
theorem mx_cell_ne {G : mx_G} {I : mx_I} {k a : Nat} {f : Nat → Int32} (h : a ≠ k) (c : Nat ⊕ (Nat × List (Option Nat))) : mx_cell G (mx_row I k f) a c = mx_cell G I a c := by
  cases c with
  | inl n => simp [mx_cell, mx_row_ne h]
  | inr o => simp [mx_cell, mx_fs, mx_fv, mx_row_ne h]
theorem mx_ws_row {G : mx_G} {sk : mx_Sk} {I : mx_I} {k n : Nat} (hk : sk[k]? = some (.inl n)) (f : Nat → Int32) : mx_ws G (sk, mx_row I k f) = (mx_ws G (sk, I)).set k (G.2.2.1 + k, .inl (G.2.1, n, .inl f)) := by
  apply List.ext_getElem?
  intro j
  have hl : k < (mx_ws G (sk, I)).length := by simp [mx_ws]; exact (List.getElem?_eq_some_iff.mp hk).1
  by_cases hj : j = k
  · subst hj
    rw [List.getElem?_set_self hl]
    rw [mx_ws_get (h := (sk, mx_row I j f)) hk]
    simp [mx_cell, mx_row_self]
  · rw [List.getElem?_set_ne (Ne.symm hj)]
    simp only [mx_ws, List.getElem?_mapIdx]
    cases sk[j]? with
    | none => rfl
    | some c => simp [mx_cell_ne hj]
theorem mx_fs_get {G : mx_G} {I : mx_I} {k ci : Nat} {refs : List (Option Nat)} {j : Nat} (hj : j < mx_N ci) : (mx_fs G I k ci refs)[j]? = some (mx_cv G (mx_fv I k ci refs j)) := by
  simp [mx_fs, List.getElem?_map, List.getElem?_range hj]
theorem mx_fs_len (G : mx_G) (I : mx_I) (k ci : Nat) (refs : List (Option Nat)) : (mx_fs G I k ci refs).length = mx_N ci := by simp [mx_fs]
theorem mx_ws_fld {G : mx_G} {sk : mx_Sk} {I : mx_I} {k ci : Nat} {refs : List (Option Nat)} (hk : sk[k]? = some (.inr (ci, refs))) {j : Nat} (hj : j < mx_N ci) (hr : mx_isR ci j = false) (x : Int32) :
    mx_ws G (sk, mx_set I k j x) = (mx_ws G (sk, I)).set k (G.2.2.1 + k, .inr (ci, (mx_fs G I k ci refs).set j (.int x))) := by
  apply List.ext_getElem?
  intro i
  have hl : k < (mx_ws G (sk, I)).length := by simp [mx_ws]; exact (List.getElem?_eq_some_iff.mp hk).1
  by_cases hi : i = k
  · subst hi
    rw [List.getElem?_set_self hl]
    rw [mx_ws_get (h := (sk, mx_set I i j x)) hk]
    simp only [mx_cell]
    congr 4
    apply List.ext_getElem?
    intro q
    by_cases hq : q = j
    · subst hq
      rw [mx_fs_get hj, List.getElem?_set_self (by rw [mx_fs_len]; exact hj)]
      simp [mx_fv, hr, mx_set, mx_row_self, upd, mx_cv]
    · rw [List.getElem?_set_ne (Ne.symm hq)]
      by_cases hn : q < mx_N ci
      · rw [mx_fs_get hn, mx_fs_get hn]
        simp [mx_fv, mx_set, mx_row_self, upd, hq]
      · rw [List.getElem?_eq_none (by rw [mx_fs_len]; omega), List.getElem?_eq_none (by rw [mx_fs_len]; omega)]
  · rw [List.getElem?_set_ne (Ne.symm hi)]
    simp only [mx_ws, List.getElem?_mapIdx]
    cases sk[i]? with
    | none => rfl
    | some c => simp [mx_set, mx_cell_ne hi]
theorem mx_ws_ref {G : mx_G} {sk : mx_Sk} {I : mx_I} {k ci : Nat} {refs : List (Option Nat)} (hk : sk[k]? = some (.inr (ci, refs))) {j : Nat} (hj : j < mx_N ci) (hr : mx_isR ci j = true) (hl0 : j < refs.length) (r : Nat) :
    mx_ws G (sk.set k (.inr (ci, refs.set j (some r))), I) = (mx_ws G (sk, I)).set k (G.2.2.1 + k, .inr (ci, (mx_fs G I k ci refs).set j (.ref (mx_ad G r)))) := by
  apply List.ext_getElem?
  intro i
  have hlk : k < sk.length := (List.getElem?_eq_some_iff.mp hk).1
  have hl : k < (mx_ws G (sk, I)).length := by simp [mx_ws]; exact hlk
  by_cases hi : i = k
  · subst hi
    rw [List.getElem?_set_self hl]
    rw [mx_ws_get (h := (sk.set i (.inr (ci, refs.set j (some r))), I)) (c := .inr (ci, refs.set j (some r))) (by simp [List.getElem?_set_self hlk])]
    simp only [mx_cell]
    congr 4
    apply List.ext_getElem?
    intro q
    by_cases hq : q = j
    · subst hq
      rw [mx_fs_get hj, List.getElem?_set_self (by rw [mx_fs_len]; exact hj)]
      simp [mx_fv, hr, mx_rv, mx_cv, List.getElem?_set_self hl0]
    · rw [List.getElem?_set_ne (Ne.symm hq)]
      by_cases hn : q < mx_N ci
      · rw [mx_fs_get hn, mx_fs_get hn]
        simp [mx_fv, List.getElem?_set_ne (Ne.symm hq)]
      · rw [List.getElem?_eq_none (by rw [mx_fs_len]; omega), List.getElem?_eq_none (by rw [mx_fs_len]; omega)]
  · rw [List.getElem?_set_ne (Ne.symm hi)]
    simp only [mx_ws, List.getElem?_mapIdx, List.getElem?_set_ne (Ne.symm hi)]
/-! what the tables and the read-only cells give -/
def mx_strs : List (String × Nat × String) := [("TakeOver$Reader", 159, "take"), ("TakeOver$Reader", 161, "leave"), ("TakeOver$Reader", 163, "when"), ("TakeOver$Reader", 165, "or"), ("TakeOver$Reader", 167, "and"), ("TakeOver$Reader", 169, "not"), ("TakeOver$Reader", 171, "weight"), ("TakeOver$Reader", 173, "room"), ("TakeOver$Reader", 175, "since"), ("TakeOver$Reader", 177, "heap"), ("TakeOver$Reader", 179, "own"), ("TakeOver$Reader", 181, "hour"), ("TakeOver$Reader", 183, "trips"), ("TakeOver$Reader", 185, ""), ("TakeOverModel", 120, "when"), ("TakeOverModel", 122, "or"), ("TakeOverModel", 124, "and"), ("TakeOverModel", 126, "not"), ("TakeOverModel", 128, "take"), ("TakeOverModel", 130, "leave"), ("TakeOverModel", 103, "weight"), ("TakeOverModel", 109, "room"), ("TakeOverModel", 111, "since"), ("TakeOverModel", 113, "heap"), ("TakeOverModel", 114, "own"), ("TakeOverModel", 116, "hour"), ("TakeOverModel", 118, "trips")]
def mx_slen : List Nat := [4, 5, 4, 2, 3, 3, 6, 4, 5, 4, 3, 4, 5, 0, 4, 2, 3, 3, 4, 5, 6, 4, 5, 4, 3, 4, 5]
def mx_sbyt : List (List Int32) := [[116, 97, 107, 101], [108, 101, 97, 118, 101], [119, 104, 101, 110], [111, 114], [97, 110, 100], [110, 111, 116], [119, 101, 105, 103, 104, 116], [114, 111, 111, 109], [115, 105, 110, 99, 101], [104, 101, 97, 112], [111, 119, 110], [104, 111, 117, 114], [116, 114, 105, 112, 115], [], [119, 104, 101, 110], [111, 114], [97, 110, 100], [110, 111, 116], [116, 97, 107, 101], [108, 101, 97, 118, 101], [119, 101, 105, 103, 104, 116], [114, 111, 111, 109], [115, 105, 110, 99, 101], [104, 101, 97, 112], [111, 119, 110], [104, 111, 117, 114], [116, 114, 105, 112, 115]]
def mx_nest : List (String × Nat × MethodName) := [("TakeOver", 11, ⟨"TakeOver$Told", "<init>", "()V"⟩), ("TakeOver$Told", 11, ⟨"TakeOver$Loads", "<init>", "()V"⟩), ("TakeOver$Told", 20, ⟨"TakeOver$Crossers", "<init>", "()V"⟩), ("TakeOver$Told", 27, ⟨"TakeOver$Offers", "<init>", "()V"⟩), ("TakeOver$Told", 34, ⟨"TakeOver$Lists", "<init>", "()V"⟩), ("TakeOver$Told", 41, ⟨"TakeOver$Law", "<init>", "()V"⟩), ("TakeOver", 25, ⟨"TakeOver$Book", "<init>", "()V"⟩), ("TakeOver", 32, ⟨"TakeOver$Reader", "<init>", "()V"⟩), ("TakeOver$Reader", 17, ⟨"TakeOver$Law", "<init>", "()V"⟩), ("TakeOver$Course", 11, ⟨"TakeOver$Plan", "<init>", "()V"⟩)]
def mx_nestW (e : String × Nat × MethodName) : Cond := .methodLinkNest e.1 e.2.1 e.2.2 "TakeOver"
def mx_K (G : mx_G) (U : State) : Prop :=
  va_K G.1 vwCl [(G.2.1, .int)] U ∧ va_X (G.2.2.2.1 1000) G.2.2.2.2.1 G.2.2.2.2.2 U U.heap ∧ G.2.2.2.1 1000 < G.2.2.1 ∧ G.2.2.1 ≤ U.heap.size ∧
  (∀ i : Nat, i < 27 → vk_S 1 [mx_slen.getD i 0] [mx_sbyt.getD i []] (fun _ => G.2.2.2.1 (1001 + i)) (fun _ => G.2.2.2.1 (2001 + i)) (mx_A G) U U.heap) ∧
  (∀ (i : Nat) (e : String × Nat × String), mx_strs[i]? = some e → vk_R e.1 e.2.1 e.2.2 (G.2.2.2.1 (1001 + i)) U) ∧
  (∀ e ∈ mx_nest, va_Nw (mx_nestW e) U) ∧ va_Z "java/lang/String" "COMPACT_STRINGS" "Z" (.int 1) (mx_A G) U U.heap
theorem mx_K.to {G : mx_G} {s U : State} (h : mx_K G s) (hW : s.WarmedH U.vm) (hz : s.heap.size ≤ U.heap.size) (hq : ∀ a : Nat, a < s.heap.size → ¬ mx_A G a → U.heap[a]? = s.heap[a]?) : mx_K G U := by
  obtain ⟨h1, h2, h3, h4, h5, h6, h7, h8⟩ := h
  refine ⟨va_K.moved hW.alike h1, va_X.kept (va_X.moved hW.alike h2) ?_, h3, Nat.le_trans h4 hz, fun i hi => vk_S.kept (vk_S.moved hW.alike (h5 i hi)) hq, fun i e he => vk_R.warm hW (h6 i e he), fun e he => va_Nw.warmM hW (h7 e he), va_Z.kept (va_Z.moved hW.alike h8) hq⟩
  exact hq _ (Nat.lt_of_lt_of_le h3 h4) (fun (z : G.2.2.1 ≤ _) => Nat.not_lt.mpr z h3)
def mx_g : List Cond := lw_tbl.filter goodWord
theorem mx_in {w : Cond} (i : Nat) (h : lw_tbl[i]? = some w) (hg : goodWord w = true) : w ∈ mx_g := List.mem_filter.mpr ⟨List.mem_of_getElem? h, hg⟩
theorem mx_g_good {w : Cond} (h : w ∈ mx_g) : (w.onTables && w.keeps) = true ∨ ∃ ty, w = .arrayClass ty := good_of_word (List.mem_filter.mp h).2
def mx_wsM (M : mx_M) : List Cond := Cond.code M.1 M.2.1 M.2.2.1 M.2.2.2 :: mx_g
def mx_rm (d nc ns : Nat) : Room := { frames := d + 2, cells := nc, slots := ns, locals := 64 * d + 200 }
def mx_Pc (G : mx_G) (As : List Value) (h : mx_H) : Array Value → State → Prop := fun v U => v = (As.map (mx_cv G)).toArray ∧ mx_K G U ∧ mx_W G h U.heap ∧ U.heap.size = G.2.2.1 + h.1.length
def mx_Qc (G : mx_G) (Q : Option Value → mx_H → Prop) (nc : Nat) : Array Value → State → Outcome → State → Prop := fun _ st oc t =>
  (∃ (r : Option Value) (h' : mx_H), oc = .returned (r.map (mx_cv G)) ∧ Q r h' ∧ mx_W G h' t.heap ∧ st.heap.size + nc = G.2.2.1 + h'.1.length) ∧ va_F (mx_A G) st t
def mx_Spec (l : Launch) (M : mx_M) (d nc ns : Nat) (As : List Value) (h : mx_H) (Q : Option Value → mx_H → Prop) : Prop :=
  ∀ G : mx_G, Met l M.1 (mx_wsM M) (mx_rm d nc ns) (mx_Pc G As h) (mx_Qc G Q nc) nc ns (mx_A G)
def mx_C (M : mx_M) (G : mx_G) (p : Program) (s : State) (m : MethodId) (args : Array Value) (meth : Method) (c : Code) : Prop :=
  p.tables.exec = Jvm.exec ∧ c.code = M.2.1 ∧ c.maxLocals = M.2.2.1 ∧ meth.sig.returnType = M.2.2.2 ∧ meth.locks = false ∧ meth.name = M.1.name ∧ s.vm.findClass M.1.cls = some m.cls ∧ (∀ w ∈ mx_g, w.before args s = true) ∧ mx_K G s
/-! locals by their places; retAddr 0 stands where nothing is known -/
def mx_la (L : List Value) : List (Nat × Value) := (L.zipIdx.filter (fun q => q.1 != .retAddr 0)).map (fun q => (q.2, q.1))
theorem mx_la_mem {L : List Value} {i : Nat} {v : Value} : (i, v) ∈ mx_la L ↔ L[i]? = some v ∧ v ≠ .retAddr 0 := by
  simp only [mx_la, List.mem_map, List.mem_filter, Prod.exists, Prod.mk.injEq, bne_iff_ne]
  constructor
  · rintro ⟨a, b, ⟨h1, h2⟩, rfl, rfl⟩
    exact ⟨List.mk_mem_zipIdx_iff_getElem?.mp h1, h2⟩
  · rintro ⟨h1, h2⟩
    exact ⟨v, i, ⟨List.mk_mem_zipIdx_iff_getElem?.mpr h1, h2⟩, rfl, rfl⟩
theorem mx_la_at {ls : Array Slot} {n : Nat} {L : List Value} (h : lv_has ls n (mx_la L)) {i : Nat} {v : Value} (hi : L[i]? = some v) (hv : v ≠ .retAddr 0) : ls[i]? = some (.val v) := h.2.2 (i, v) (mx_la_mem.mpr ⟨hi, hv⟩)
theorem mx_lv_mono {ls : Array Slot} {n : Nat} {l l' : List (Nat × Value)} (h : lv_has ls n l) (hs : ∀ q ∈ l', q ∈ l) : lv_has ls n l' := ⟨h.1, h.2.1, fun q hq => h.2.2 q (hs q hq)⟩
def mx_nl (L : List Value) (i : Nat) : Bool := match i with
  | 0 => true
  | j + 1 => match L[j]? with
    | some w => w.category != 2
    | none => true
theorem mx_nl_cv (G : mx_G) (L : List Value) (i : Nat) : mx_nl (L.map (mx_cv G)) i = mx_nl L i := by
  cases i with
  | zero => rfl
  | succ j =>
    simp only [mx_nl, List.getElem?_map]
    cases L[j]? with
    | none => rfl
    | some w => simp [mx_cv_cat]
theorem mx_st1 {ls : Array Slot} {n : Nat} {L : List Value} {i : Nat} {v : Value} (hn : mx_nl L i = true)
    (h : lv_has ls n ((i, v) :: (mx_la L).filter (fun q => !(q.1 == i) && !(q.1 + 1 == i && q.2.category == 2)))) : lv_has ls n (mx_la (L.set i v)) := by
  refine mx_lv_mono h fun q hq => ?_
  obtain ⟨j, w⟩ := q
  obtain ⟨h1, h2⟩ := mx_la_mem.mp hq
  by_cases hj : j = i
  · subst hj
    have hl : j < L.length := by
      have := (List.getElem?_eq_some_iff.mp h1).1
      simpa using this
    rw [List.getElem?_set_self hl] at h1
    cases h1
    exact List.mem_cons_self
  · rw [List.getElem?_set_ne (Ne.symm hj)] at h1
    refine List.mem_cons_of_mem _ (List.mem_filter.mpr ⟨mx_la_mem.mpr ⟨h1, h2⟩, ?_⟩)
    by_cases hji : j + 1 = i
    · subst hji
      simp only [mx_nl, h1] at hn
      simp [hj]
      simpa using hn
    · simp [hj, hji]
theorem mx_st2 {ls : Array Slot} {n : Nat} {L : List Value} {i : Nat} {v : Value} (hn : mx_nl L i = true)
    (h : lv_has ls n ((i, v) :: (mx_la L).filter (fun q => !(q.1 == i) && (!(q.1 == i + 1) && !(q.1 + 1 == i && q.2.category == 2))))) : lv_has ls n (mx_la ((L.set i v).set (i + 1) (.retAddr 0))) := by
  refine mx_lv_mono h fun q hq => ?_
  obtain ⟨j, w⟩ := q
  obtain ⟨h1, h2⟩ := mx_la_mem.mp hq
  by_cases hj2 : j = i + 1
  · subst hj2
    have hl : i + 1 < (L.set i v).length := by
      have := (List.getElem?_eq_some_iff.mp h1).1
      simpa using this
    rw [List.getElem?_set_self hl] at h1
    cases h1
    exact absurd rfl h2
  · rw [List.getElem?_set_ne (Ne.symm hj2)] at h1
    by_cases hj : j = i
    · subst hj
      have hl : j < L.length := by
        have := (List.getElem?_eq_some_iff.mp h1).1
        simpa using this
      rw [List.getElem?_set_self hl] at h1
      cases h1
      exact List.mem_cons_self
    · rw [List.getElem?_set_ne (Ne.symm hj)] at h1
      refine List.mem_cons_of_mem _ (List.mem_filter.mpr ⟨mx_la_mem.mpr ⟨h1, h2⟩, ?_⟩)
      by_cases hji : j + 1 = i
      · subst hji
        simp only [mx_nl, h1] at hn
        simp [hj, hj2]
        simpa using hn
      · simp [hj, hji, hj2]
/-- the walk: from this place of method M the machine comes to an end as Z says -/
def mx_Go (l : Launch) (R : Room) (M : mx_M) (Z : mx_G → List Frame → Array Value → State → State → Prop) (uc us pc : Nat) (L st : List Value) (h : mx_H) : Prop :=
  ∀ (G : mx_G) (p : Program) (e : Env) (s : State) (m : MethodId) (args : Array Value) (below : List Frame) (meth : Method) (c : Code) (H : Heap) (locs : List Loc) (ls : Array Slot),
    mx_C M G p s m args meth c → s.heap.size + uc = G.2.2.1 + h.1.length → mx_W G h H → va_S (mx_A G) s.heap H locs → lv_has ls M.2.2.1 (mx_la (L.map (mx_cv G))) →
    W p l e R s m args below meth c H locs uc us (Z G below args s) (F0 m pc ls (st.map (mx_cv G)))
def mx_Z (Q : Option Value → mx_H → Prop) (nc ns : Nat) : mx_G → List Frame → Array Value → State → State → Prop := fun G below args s => MQ below (mx_Qc G Q nc) args s nc ns (mx_A G)
theorem mx_size {p : Program} {l : Launch} {e : Env} {R : Room} {s : State} {m : MethodId} {args : Array Value} {below : List Frame} {meth : Method} {c : Code} {T : State} {locs : List Loc} {uc us : Nat} {G : mx_G} {h : mx_H} {H : Heap}
    (X : Stand p l e R s m args below meth c T locs uc us) (hT : T.heap = H) (hb : G.2.2.1 ≤ s.heap.size) (hz : s.heap.size + uc = G.2.2.1 + h.1.length) (hW : mx_W G h H) (hS : s.heap.size ≤ H.size) : H.size = G.2.2.1 + h.1.length := by
  have h1 : T.heap.size ≤ s.heap.size + uc := X.same.2.2.1
  rw [hT] at h1
  rcases Nat.eq_zero_or_pos h.1.length with h0 | h0
  · omega
  · obtain ⟨c0, hc0⟩ : ∃ c0, h.1[h.1.length - 1]? = some c0 := ⟨_, List.getElem?_eq_getElem (by omega)⟩
    have h2 := (hW.2 _ _ (mx_ws_get (G := G) hc0)).lt
    simp only at h2
    omega
end
section
section RULES
variable {l : Launch} {R : Room} {M : mx_M} {Z : mx_G → List Frame → Array Value → State → State → Prop} {uc us pc : Nat} {L st : List Value} {h : mx_H}
theorem g_iconst {n : Int} {v : Int32} (hd : decode M.2.1 pc = .ok (.iconst n, 1)) (hv : Int32.ofInt n = v)
    (k : mx_Go l R M Z uc us (pc + 1) L (.int v :: st) h) : mx_Go l R M Z uc us pc L (st) h := by
  intro G p e s m args below meth c H locs ls C hz hW hS hl
  exact lv_iconst C.1 C.2.1 hd hv (k G p e s m args below meth c H locs ls C hz hW hS hl)
theorem g_bipush {n : Int} {v : Int32} (hd : decode M.2.1 pc = .ok (.bipush n, 2)) (hv : (Int8.ofInt n).toInt32 = v)
    (k : mx_Go l R M Z uc us (pc + 2) L (.int v :: st) h) : mx_Go l R M Z uc us pc L (st) h := by
  intro G p e s m args below meth c H locs ls C hz hW hS hl
  exact lv_bipush C.1 C.2.1 hd hv (k G p e s m args below meth c H locs ls C hz hW hS hl)
theorem g_sipush {n : Int} {v : Int32} (hd : decode M.2.1 pc = .ok (.sipush n, 3)) (hv : (Int16.ofInt n).toInt32 = v)
    (k : mx_Go l R M Z uc us (pc + 3) L (.int v :: st) h) : mx_Go l R M Z uc us pc L (st) h := by
  intro G p e s m args below meth c H locs ls C hz hW hS hl
  exact lv_sipush C.1 C.2.1 hd hv (k G p e s m args below meth c H locs ls C hz hW hS hl)
theorem g_lconst {n : Fin 2} {v : Int64} (hd : decode M.2.1 pc = .ok (.lconst n, 1)) (hv : Int64.ofNat (n : Nat) = v)
    (k : mx_Go l R M Z uc us (pc + 1) L (.long v :: st) h) : mx_Go l R M Z uc us pc L (st) h := by
  intro G p e s m args below meth c H locs ls C hz hW hS hl
  exact lv_lconst C.1 C.2.1 hd hv (k G p e s m args below meth c H locs ls C hz hW hS hl)
theorem g_iadd {x y : Int32} (hd : decode M.2.1 pc = .ok (.iadd, 1)) 
    (k : mx_Go l R M Z uc us (pc + 1) L (.int (x + y) :: st) h) : mx_Go l R M Z uc us pc L (.int y :: .int x :: st) h := by
  intro G p e s m args below meth c H locs ls C hz hW hS hl
  exact lv_iadd C.1 C.2.1 hd  (k G p e s m args below meth c H locs ls C hz hW hS hl)
theorem g_isub {x y : Int32} (hd : decode M.2.1 pc = .ok (.isub, 1)) 
    (k : mx_Go l R M Z uc us (pc + 1) L (.int (x - y) :: st) h) : mx_Go l R M Z uc us pc L (.int y :: .int x :: st) h := by
  intro G p e s m args below meth c H locs ls C hz hW hS hl
  exact lv_isub C.1 C.2.1 hd  (k G p e s m args below meth c H locs ls C hz hW hS hl)
theorem g_imul {x y : Int32} (hd : decode M.2.1 pc = .ok (.imul, 1)) 
    (k : mx_Go l R M Z uc us (pc + 1) L (.int (x * y) :: st) h) : mx_Go l R M Z uc us pc L (.int y :: .int x :: st) h := by
  intro G p e s m args below meth c H locs ls C hz hW hS hl
  exact lv_imul C.1 C.2.1 hd  (k G p e s m args below meth c H locs ls C hz hW hS hl)
theorem g_iand {x y : Int32} (hd : decode M.2.1 pc = .ok (.iand, 1)) 
    (k : mx_Go l R M Z uc us (pc + 1) L (.int (x &&& y) :: st) h) : mx_Go l R M Z uc us pc L (.int y :: .int x :: st) h := by
  intro G p e s m args below meth c H locs ls C hz hW hS hl
  exact lv_iand C.1 C.2.1 hd  (k G p e s m args below meth c H locs ls C hz hW hS hl)
theorem g_ior {x y : Int32} (hd : decode M.2.1 pc = .ok (.ior, 1)) 
    (k : mx_Go l R M Z uc us (pc + 1) L (.int (x ||| y) :: st) h) : mx_Go l R M Z uc us pc L (.int y :: .int x :: st) h := by
  intro G p e s m args below meth c H locs ls C hz hW hS hl
  exact lv_ior C.1 C.2.1 hd  (k G p e s m args below meth c H locs ls C hz hW hS hl)
theorem g_ixor {x y : Int32} (hd : decode M.2.1 pc = .ok (.ixor, 1)) 
    (k : mx_Go l R M Z uc us (pc + 1) L (.int (x ^^^ y) :: st) h) : mx_Go l R M Z uc us pc L (.int y :: .int x :: st) h := by
  intro G p e s m args below meth c H locs ls C hz hW hS hl
  exact lv_ixor C.1 C.2.1 hd  (k G p e s m args below meth c H locs ls C hz hW hS hl)
theorem g_ishl {x y : Int32} (hd : decode M.2.1 pc = .ok (.ishl, 1)) 
    (k : mx_Go l R M Z uc us (pc + 1) L (.int (x <<< (y &&& 31)) :: st) h) : mx_Go l R M Z uc us pc L (.int y :: .int x :: st) h := by
  intro G p e s m args below meth c H locs ls C hz hW hS hl
  exact lv_ishl C.1 C.2.1 hd  (k G p e s m args below meth c H locs ls C hz hW hS hl)
theorem g_ishr {x y : Int32} (hd : decode M.2.1 pc = .ok (.ishr, 1)) 
    (k : mx_Go l R M Z uc us (pc + 1) L (.int (x >>> (y &&& 31)) :: st) h) : mx_Go l R M Z uc us pc L (.int y :: .int x :: st) h := by
  intro G p e s m args below meth c H locs ls C hz hW hS hl
  exact lv_ishr C.1 C.2.1 hd  (k G p e s m args below meth c H locs ls C hz hW hS hl)
theorem g_iushr {x y : Int32} (hd : decode M.2.1 pc = .ok (.iushr, 1)) 
    (k : mx_Go l R M Z uc us (pc + 1) L (.int ((x.toUInt32 >>> (y.toUInt32 &&& Int32.toUInt32 31)).toInt32) :: st) h) : mx_Go l R M Z uc us pc L (.int y :: .int x :: st) h := by
  intro G p e s m args below meth c H locs ls C hz hW hS hl
  exact lv_iushr C.1 C.2.1 hd rfl (k G p e s m args below meth c H locs ls C hz hW hS hl)
theorem g_idiv {x y : Int32} (hd : decode M.2.1 pc = .ok (.idiv, 1)) (hne : ¬ y = 0)
    (k : mx_Go l R M Z uc us (pc + 1) L (.int (x / y) :: st) h) : mx_Go l R M Z uc us pc L (.int y :: .int x :: st) h := by
  intro G p e s m args below meth c H locs ls C hz hW hS hl
  exact lv_idiv C.1 C.2.1 hd hne (k G p e s m args below meth c H locs ls C hz hW hS hl)
theorem g_irem {x y : Int32} (hd : decode M.2.1 pc = .ok (.irem, 1)) (hne : ¬ y = 0)
    (k : mx_Go l R M Z uc us (pc + 1) L (.int (x - x / y * y) :: st) h) : mx_Go l R M Z uc us pc L (.int y :: .int x :: st) h := by
  intro G p e s m args below meth c H locs ls C hz hW hS hl
  exact lv_irem C.1 C.2.1 hd hne (k G p e s m args below meth c H locs ls C hz hW hS hl)
theorem g_ineg {x : Int32} (hd : decode M.2.1 pc = .ok (.ineg, 1)) 
    (k : mx_Go l R M Z uc us (pc + 1) L (.int (-x) :: st) h) : mx_Go l R M Z uc us pc L (.int x :: st) h := by
  intro G p e s m args below meth c H locs ls C hz hW hS hl
  exact lv_ineg C.1 C.2.1 hd  (k G p e s m args below meth c H locs ls C hz hW hS hl)
theorem g_ladd {x y : Int64} (hd : decode M.2.1 pc = .ok (.ladd, 1)) 
    (k : mx_Go l R M Z uc us (pc + 1) L (.long (x + y) :: st) h) : mx_Go l R M Z uc us pc L (.long y :: .long x :: st) h := by
  intro G p e s m args below meth c H locs ls C hz hW hS hl
  exact lv_ladd C.1 C.2.1 hd  (k G p e s m args below meth c H locs ls C hz hW hS hl)
theorem g_lsub {x y : Int64} (hd : decode M.2.1 pc = .ok (.lsub, 1)) 
    (k : mx_Go l R M Z uc us (pc + 1) L (.long (x - y) :: st) h) : mx_Go l R M Z uc us pc L (.long y :: .long x :: st) h := by
  intro G p e s m args below meth c H locs ls C hz hW hS hl
  exact lv_lsub C.1 C.2.1 hd  (k G p e s m args below meth c H locs ls C hz hW hS hl)
theorem g_lmul {x y : Int64} (hd : decode M.2.1 pc = .ok (.lmul, 1)) 
    (k : mx_Go l R M Z uc us (pc + 1) L (.long (x * y) :: st) h) : mx_Go l R M Z uc us pc L (.long y :: .long x :: st) h := by
  intro G p e s m args below meth c H locs ls C hz hW hS hl
  exact lv_lmul C.1 C.2.1 hd  (k G p e s m args below meth c H locs ls C hz hW hS hl)
theorem g_lcmp {x y : Int64} (hd : decode M.2.1 pc = .ok (.lcmp, 1)) 
    (k : mx_Go l R M Z uc us (pc + 1) L (.int (lg_cmp x y) :: st) h) : mx_Go l R M Z uc us pc L (.long y :: .long x :: st) h := by
  intro G p e s m args below meth c H locs ls C hz hW hS hl
  exact W.lcmp C.1 C.2.1 hd  (k G p e s m args below meth c H locs ls C hz hW hS hl)
theorem g_i2l {x : Int32} (hd : decode M.2.1 pc = .ok (.i2l, 1)) 
    (k : mx_Go l R M Z uc us (pc + 1) L (.long x.toInt64 :: st) h) : mx_Go l R M Z uc us pc L (.int x :: st) h := by
  intro G p e s m args below meth c H locs ls C hz hW hS hl
  exact lv_i2l C.1 C.2.1 hd rfl (k G p e s m args below meth c H locs ls C hz hW hS hl)
theorem g_i2c {x : Int32} (hd : decode M.2.1 pc = .ok (.i2c, 1)) 
    (k : mx_Go l R M Z uc us (pc + 1) L (.int ((x.toUInt32 % 65536).toInt32) :: st) h) : mx_Go l R M Z uc us pc L (.int x :: st) h := by
  intro G p e s m args below meth c H locs ls C hz hW hS hl
  exact lv_i2c C.1 C.2.1 hd rfl (k G p e s m args below meth c H locs ls C hz hW hS hl)
theorem g_iload {i : Nat} {x : Int32} (hd : decode M.2.1 pc = .ok (.iload i, 2)) (hL : L[i]? = some (.int x))
    (k : mx_Go l R M Z uc us (pc + 2) L (.int x :: st) h) : mx_Go l R M Z uc us pc L st h := by
  intro G p e s m args below meth c H locs ls C hz hW hS hl
  exact lv_iload C.1 C.2.1 hd (mx_la_at hl (v := mx_cv G (.int x)) (by rw [List.getElem?_map, hL]; rfl) (by intro hh; cases hh)) (k G p e s m args below meth c H locs ls C hz hW hS hl)
theorem g_iload_n {k0 : Fin 4} {i : Nat} {x : Int32} (hd : decode M.2.1 pc = .ok (.iload_n k0, 1)) (hi : (k0 : Nat) = i) (hL : L[i]? = some (.int x))
    (k : mx_Go l R M Z uc us (pc + 1) L (.int x :: st) h) : mx_Go l R M Z uc us pc L st h := by
  intro G p e s m args below meth c H locs ls C hz hW hS hl
  exact lv_iload_n C.1 C.2.1 hd hi (mx_la_at hl (v := mx_cv G (.int x)) (by rw [List.getElem?_map, hL]; rfl) (by intro hh; cases hh)) (k G p e s m args below meth c H locs ls C hz hW hS hl)
theorem g_lload {i : Nat} {x : Int64} (hd : decode M.2.1 pc = .ok (.lload i, 2)) (hL : L[i]? = some (.long x))
    (k : mx_Go l R M Z uc us (pc + 2) L (.long x :: st) h) : mx_Go l R M Z uc us pc L st h := by
  intro G p e s m args below meth c H locs ls C hz hW hS hl
  exact lv_lload C.1 C.2.1 hd (mx_la_at hl (v := mx_cv G (.long x)) (by rw [List.getElem?_map, hL]; rfl) (by intro hh; cases hh)) (k G p e s m args below meth c H locs ls C hz hW hS hl)
theorem g_lload_n {k0 : Fin 4} {i : Nat} {x : Int64} (hd : decode M.2.1 pc = .ok (.lload_n k0, 1)) (hi : (k0 : Nat) = i) (hL : L[i]? = some (.long x))
    (k : mx_Go l R M Z uc us (pc + 1) L (.long x :: st) h) : mx_Go l R M Z uc us pc L st h := by
  intro G p e s m args below meth c H locs ls C hz hW hS hl
  exact lv_lload_n C.1 C.2.1 hd hi (mx_la_at hl (v := mx_cv G (.long x)) (by rw [List.getElem?_map, hL]; rfl) (by intro hh; cases hh)) (k G p e s m args below meth c H locs ls C hz hW hS hl)
theorem g_aload {i : Nat} {x : Nat} (hd : decode M.2.1 pc = .ok (.aload i, 2)) (hL : L[i]? = some (.ref x))
    (k : mx_Go l R M Z uc us (pc + 2) L (.ref x :: st) h) : mx_Go l R M Z uc us pc L st h := by
  intro G p e s m args below meth c H locs ls C hz hW hS hl
  exact lv_aload C.1 C.2.1 hd (mx_la_at hl (v := mx_cv G (.ref x)) (by rw [List.getElem?_map, hL]; rfl) (by intro hh; cases hh)) (k G p e s m args below meth c H locs ls C hz hW hS hl)
theorem g_aload_n {k0 : Fin 4} {i : Nat} {x : Nat} (hd : decode M.2.1 pc = .ok (.aload_n k0, 1)) (hi : (k0 : Nat) = i) (hL : L[i]? = some (.ref x))
    (k : mx_Go l R M Z uc us (pc + 1) L (.ref x :: st) h) : mx_Go l R M Z uc us pc L st h := by
  intro G p e s m args below meth c H locs ls C hz hW hS hl
  exact lv_aload_n C.1 C.2.1 hd hi (mx_la_at hl (v := mx_cv G (.ref x)) (by rw [List.getElem?_map, hL]; rfl) (by intro hh; cases hh)) (k G p e s m args below meth c H locs ls C hz hW hS hl)
theorem g_istore {i : Nat} {x : Int32} (hd : decode M.2.1 pc = .ok (.istore i, 2)) (hn : i < M.2.2.1) (hp : mx_nl L i = true)
    (k : mx_Go l R M Z uc us (pc + 2) (L.set i (.int x)) st h) : mx_Go l R M Z uc us pc L (.int x :: st) h := by
  intro G p e s m args below meth c H locs ls C hz hW hS hl
  refine lv_istore (nL := M.2.2.1) C.1 C.2.1 hd hl hn rfl (fun ls' hl' => ?_)
  refine k G p e s m args below meth c H locs ls' C hz hW hS ?_
  have h9 := mx_st1 (by rw [mx_nl_cv]; exact hp) hl'
  simpa [List.map_set, mx_cv] using h9
theorem g_istore_n {k0 : Fin 4} {i : Nat} {x : Int32} (hd : decode M.2.1 pc = .ok (.istore_n k0, 1)) (hi : (k0 : Nat) = i) (hn : i < M.2.2.1) (hp : mx_nl L i = true)
    (k : mx_Go l R M Z uc us (pc + 1) (L.set i (.int x)) st h) : mx_Go l R M Z uc us pc L (.int x :: st) h := by
  intro G p e s m args below meth c H locs ls C hz hW hS hl
  refine lv_istore_n (nL := M.2.2.1) C.1 C.2.1 hd hi hl hn rfl (fun ls' hl' => ?_)
  refine k G p e s m args below meth c H locs ls' C hz hW hS ?_
  have h9 := mx_st1 (by rw [mx_nl_cv]; exact hp) hl'
  simpa [List.map_set, mx_cv] using h9
theorem g_lstore {i : Nat} {x : Int64} (hd : decode M.2.1 pc = .ok (.lstore i, 2)) (hn : i + 1 < M.2.2.1) (hp : mx_nl L i = true)
    (k : mx_Go l R M Z uc us (pc + 2) ((L.set i (.long x)).set (i + 1) (.retAddr 0)) st h) : mx_Go l R M Z uc us pc L (.long x :: st) h := by
  intro G p e s m args below meth c H locs ls C hz hW hS hl
  refine lv_lstore (nL := M.2.2.1) C.1 C.2.1 hd hl hn rfl (fun ls' hl' => ?_)
  refine k G p e s m args below meth c H locs ls' C hz hW hS ?_
  have h9 := mx_st2 (by rw [mx_nl_cv]; exact hp) hl'
  simpa [List.map_set, mx_cv] using h9
theorem g_lstore_n {k0 : Fin 4} {i : Nat} {x : Int64} (hd : decode M.2.1 pc = .ok (.lstore_n k0, 1)) (hi : (k0 : Nat) = i) (hn : i + 1 < M.2.2.1) (hp : mx_nl L i = true)
    (k : mx_Go l R M Z uc us (pc + 1) ((L.set i (.long x)).set (i + 1) (.retAddr 0)) st h) : mx_Go l R M Z uc us pc L (.long x :: st) h := by
  intro G p e s m args below meth c H locs ls C hz hW hS hl
  refine lv_lstore_n (nL := M.2.2.1) C.1 C.2.1 hd hi hl hn rfl (fun ls' hl' => ?_)
  refine k G p e s m args below meth c H locs ls' C hz hW hS ?_
  have h9 := mx_st2 (by rw [mx_nl_cv]; exact hp) hl'
  simpa [List.map_set, mx_cv] using h9
theorem g_astore {i : Nat} {x : Nat} (hd : decode M.2.1 pc = .ok (.astore i, 2)) (hn : i < M.2.2.1) (hp : mx_nl L i = true)
    (k : mx_Go l R M Z uc us (pc + 2) (L.set i (.ref x)) st h) : mx_Go l R M Z uc us pc L (.ref x :: st) h := by
  intro G p e s m args below meth c H locs ls C hz hW hS hl
  refine lv_astore (nL := M.2.2.1) C.1 C.2.1 hd hl hn rfl (fun ls' hl' => ?_)
  refine k G p e s m args below meth c H locs ls' C hz hW hS ?_
  have h9 := mx_st1 (by rw [mx_nl_cv]; exact hp) hl'
  simpa [List.map_set, mx_cv] using h9
theorem g_astore_n {k0 : Fin 4} {i : Nat} {x : Nat} (hd : decode M.2.1 pc = .ok (.astore_n k0, 1)) (hi : (k0 : Nat) = i) (hn : i < M.2.2.1) (hp : mx_nl L i = true)
    (k : mx_Go l R M Z uc us (pc + 1) (L.set i (.ref x)) st h) : mx_Go l R M Z uc us pc L (.ref x :: st) h := by
  intro G p e s m args below meth c H locs ls C hz hW hS hl
  refine lv_astore_n (nL := M.2.2.1) C.1 C.2.1 hd hi hl hn rfl (fun ls' hl' => ?_)
  refine k G p e s m args below meth c H locs ls' C hz hW hS ?_
  have h9 := mx_st1 (by rw [mx_nl_cv]; exact hp) hl'
  simpa [List.map_set, mx_cv] using h9
theorem g_iinc {i : Nat} {n : Int} {x : Int32} (hd : decode M.2.1 pc = .ok (.iinc i n, 3)) (hL : L[i]? = some (.int x)) (hn : i < M.2.2.1) (hp : mx_nl L i = true)
    (k : mx_Go l R M Z uc us (pc + 3) (L.set i (.int (x + Int32.ofInt n))) st h) : mx_Go l R M Z uc us pc L st h := by
  intro G p e s m args below meth c H locs ls C hz hW hS hl
  obtain ⟨q, hq⟩ := List.getElem?_of_mem (mx_la_mem.mpr ⟨show (L.map (mx_cv G))[i]? = some (.int x) by rw [List.getElem?_map, hL]; rfl, by intro hh; cases hh⟩)
  refine lv_iinc (nL := M.2.2.1) (k := q) C.1 C.2.1 hd hl hq rfl hn rfl (fun ls' hl' => ?_)
  refine k G p e s m args below meth c H locs ls' C hz hW hS ?_
  have h9 := mx_st1 (by rw [mx_nl_cv]; exact hp) hl'
  simpa [List.map_set, mx_cv] using h9
theorem g_dup {v : Value} (hd : decode M.2.1 pc = .ok (.dup, 1)) (hv : v.category = 1)
    (k : mx_Go l R M Z uc us (pc + 1) L (v :: v :: st) h) : mx_Go l R M Z uc us pc L (v :: st) h := by
  intro G p e s m args below meth c H locs ls C hz hW hS hl
  exact lv_dup C.1 C.2.1 hd ((mx_cv_cat G v).trans hv) (k G p e s m args below meth c H locs ls C hz hW hS hl)
theorem g_dup2 {v w : Value} (hd : decode M.2.1 pc = .ok (.dup2, 1)) (hv : v.category = 1) (hw : w.category = 1)
    (k : mx_Go l R M Z uc us (pc + 1) L (v :: w :: v :: w :: st) h) : mx_Go l R M Z uc us pc L (v :: w :: st) h := by
  intro G p e s m args below meth c H locs ls C hz hW hS hl
  exact lv_dup2_11 C.1 C.2.1 hd ((mx_cv_cat G v).trans hv) ((mx_cv_cat G w).trans hw) (k G p e s m args below meth c H locs ls C hz hW hS hl)
theorem g_pop {v : Value} (hd : decode M.2.1 pc = .ok (.pop, 1)) (hv : v.category = 1)
    (k : mx_Go l R M Z uc us (pc + 1) L st h) : mx_Go l R M Z uc us pc L (v :: st) h := by
  intro G p e s m args below meth c H locs ls C hz hW hS hl
  exact lv_pop C.1 C.2.1 hd ((mx_cv_cat G v).trans hv) (k G p e s m args below meth c H locs ls C hz hW hS hl)
theorem g_if_eq {x : Int32} {off : Int} {tgt : Nat} (hd : decode M.2.1 pc = .ok (.ifCond .eq off, 3)) (ht : (pc : Int) + off = (tgt : Int))
    (kt : x = 0 → mx_Go l R M Z uc us tgt L st h) (kf : ¬ x = 0 → mx_Go l R M Z uc us (pc + 3) L st h) : mx_Go l R M Z uc us pc L (.int x :: st) h := by
  intro G p e s m args below meth c H locs ls C hz hW hS hl
  exact lv_if_eq C.1 C.2.1 hd ht (fun q => kt q G p e s m args below meth c H locs ls C hz hW hS hl) (fun q => kf q G p e s m args below meth c H locs ls C hz hW hS hl)
theorem g_if_ne {x : Int32} {off : Int} {tgt : Nat} (hd : decode M.2.1 pc = .ok (.ifCond .ne off, 3)) (ht : (pc : Int) + off = (tgt : Int))
    (kt : ¬ x = 0 → mx_Go l R M Z uc us tgt L st h) (kf : x = 0 → mx_Go l R M Z uc us (pc + 3) L st h) : mx_Go l R M Z uc us pc L (.int x :: st) h := by
  intro G p e s m args below meth c H locs ls C hz hW hS hl
  exact lv_if_ne C.1 C.2.1 hd ht (fun q => kt q G p e s m args below meth c H locs ls C hz hW hS hl) (fun q => kf q G p e s m args below meth c H locs ls C hz hW hS hl)
theorem g_if_lt {x : Int32} {off : Int} {tgt : Nat} (hd : decode M.2.1 pc = .ok (.ifCond .lt off, 3)) (ht : (pc : Int) + off = (tgt : Int))
    (kt : x < 0 → mx_Go l R M Z uc us tgt L st h) (kf : ¬ x < 0 → mx_Go l R M Z uc us (pc + 3) L st h) : mx_Go l R M Z uc us pc L (.int x :: st) h := by
  intro G p e s m args below meth c H locs ls C hz hW hS hl
  exact lv_if_lt C.1 C.2.1 hd ht (fun q => kt q G p e s m args below meth c H locs ls C hz hW hS hl) (fun q => kf q G p e s m args below meth c H locs ls C hz hW hS hl)
theorem g_if_ge {x : Int32} {off : Int} {tgt : Nat} (hd : decode M.2.1 pc = .ok (.ifCond .ge off, 3)) (ht : (pc : Int) + off = (tgt : Int))
    (kt : 0 ≤ x → mx_Go l R M Z uc us tgt L st h) (kf : ¬ 0 ≤ x → mx_Go l R M Z uc us (pc + 3) L st h) : mx_Go l R M Z uc us pc L (.int x :: st) h := by
  intro G p e s m args below meth c H locs ls C hz hW hS hl
  exact lv_if_ge C.1 C.2.1 hd ht (fun q => kt q G p e s m args below meth c H locs ls C hz hW hS hl) (fun q => kf q G p e s m args below meth c H locs ls C hz hW hS hl)
theorem g_if_gt {x : Int32} {off : Int} {tgt : Nat} (hd : decode M.2.1 pc = .ok (.ifCond .gt off, 3)) (ht : (pc : Int) + off = (tgt : Int))
    (kt : 0 < x → mx_Go l R M Z uc us tgt L st h) (kf : ¬ 0 < x → mx_Go l R M Z uc us (pc + 3) L st h) : mx_Go l R M Z uc us pc L (.int x :: st) h := by
  intro G p e s m args below meth c H locs ls C hz hW hS hl
  exact lv_if_gt C.1 C.2.1 hd ht (fun q => kt q G p e s m args below meth c H locs ls C hz hW hS hl) (fun q => kf q G p e s m args below meth c H locs ls C hz hW hS hl)
theorem g_if_le {x : Int32} {off : Int} {tgt : Nat} (hd : decode M.2.1 pc = .ok (.ifCond .le off, 3)) (ht : (pc : Int) + off = (tgt : Int))
    (kt : x ≤ 0 → mx_Go l R M Z uc us tgt L st h) (kf : ¬ x ≤ 0 → mx_Go l R M Z uc us (pc + 3) L st h) : mx_Go l R M Z uc us pc L (.int x :: st) h := by
  intro G p e s m args below meth c H locs ls C hz hW hS hl
  exact lv_if_le C.1 C.2.1 hd ht (fun q => kt q G p e s m args below meth c H locs ls C hz hW hS hl) (fun q => kf q G p e s m args below meth c H locs ls C hz hW hS hl)
theorem g_icmp_eq {x y : Int32} {off : Int} {tgt : Nat} (hd : decode M.2.1 pc = .ok (.if_icmp .eq off, 3)) (ht : (pc : Int) + off = (tgt : Int))
    (kt : x = y → mx_Go l R M Z uc us tgt L st h) (kf : ¬ x = y → mx_Go l R M Z uc us (pc + 3) L st h) : mx_Go l R M Z uc us pc L (.int y :: .int x :: st) h := by
  intro G p e s m args below meth c H locs ls C hz hW hS hl
  exact lv_icmp_eq C.1 C.2.1 hd ht (fun q => kt q G p e s m args below meth c H locs ls C hz hW hS hl) (fun q => kf q G p e s m args below meth c H locs ls C hz hW hS hl)
theorem g_icmp_ne {x y : Int32} {off : Int} {tgt : Nat} (hd : decode M.2.1 pc = .ok (.if_icmp .ne off, 3)) (ht : (pc : Int) + off = (tgt : Int))
    (kt : ¬ x = y → mx_Go l R M Z uc us tgt L st h) (kf : x = y → mx_Go l R M Z uc us (pc + 3) L st h) : mx_Go l R M Z uc us pc L (.int y :: .int x :: st) h := by
  intro G p e s m args below meth c H locs ls C hz hW hS hl
  exact lv_icmp_ne C.1 C.2.1 hd ht (fun q => kt q G p e s m args below meth c H locs ls C hz hW hS hl) (fun q => kf q G p e s m args below meth c H locs ls C hz hW hS hl)
theorem g_icmp_lt {x y : Int32} {off : Int} {tgt : Nat} (hd : decode M.2.1 pc = .ok (.if_icmp .lt off, 3)) (ht : (pc : Int) + off = (tgt : Int))
    (kt : x < y → mx_Go l R M Z uc us tgt L st h) (kf : ¬ x < y → mx_Go l R M Z uc us (pc + 3) L st h) : mx_Go l R M Z uc us pc L (.int y :: .int x :: st) h := by
  intro G p e s m args below meth c H locs ls C hz hW hS hl
  exact lv_icmp_lt C.1 C.2.1 hd ht (fun q => kt q G p e s m args below meth c H locs ls C hz hW hS hl) (fun q => kf q G p e s m args below meth c H locs ls C hz hW hS hl)
theorem g_icmp_ge {x y : Int32} {off : Int} {tgt : Nat} (hd : decode M.2.1 pc = .ok (.if_icmp .ge off, 3)) (ht : (pc : Int) + off = (tgt : Int))
    (kt : y ≤ x → mx_Go l R M Z uc us tgt L st h) (kf : ¬ y ≤ x → mx_Go l R M Z uc us (pc + 3) L st h) : mx_Go l R M Z uc us pc L (.int y :: .int x :: st) h := by
  intro G p e s m args below meth c H locs ls C hz hW hS hl
  exact lv_icmp_ge C.1 C.2.1 hd ht (fun q => kt q G p e s m args below meth c H locs ls C hz hW hS hl) (fun q => kf q G p e s m args below meth c H locs ls C hz hW hS hl)
theorem g_icmp_gt {x y : Int32} {off : Int} {tgt : Nat} (hd : decode M.2.1 pc = .ok (.if_icmp .gt off, 3)) (ht : (pc : Int) + off = (tgt : Int))
    (kt : y < x → mx_Go l R M Z uc us tgt L st h) (kf : ¬ y < x → mx_Go l R M Z uc us (pc + 3) L st h) : mx_Go l R M Z uc us pc L (.int y :: .int x :: st) h := by
  intro G p e s m args below meth c H locs ls C hz hW hS hl
  exact lv_icmp_gt C.1 C.2.1 hd ht (fun q => kt q G p e s m args below meth c H locs ls C hz hW hS hl) (fun q => kf q G p e s m args below meth c H locs ls C hz hW hS hl)
theorem g_icmp_le {x y : Int32} {off : Int} {tgt : Nat} (hd : decode M.2.1 pc = .ok (.if_icmp .le off, 3)) (ht : (pc : Int) + off = (tgt : Int))
    (kt : x ≤ y → mx_Go l R M Z uc us tgt L st h) (kf : ¬ x ≤ y → mx_Go l R M Z uc us (pc + 3) L st h) : mx_Go l R M Z uc us pc L (.int y :: .int x :: st) h := by
  intro G p e s m args below meth c H locs ls C hz hW hS hl
  exact lv_icmp_le C.1 C.2.1 hd ht (fun q => kt q G p e s m args below meth c H locs ls C hz hW hS hl) (fun q => kf q G p e s m args below meth c H locs ls C hz hW hS hl)
theorem g_goto {off : Int} {tgt : Nat} (hd : decode M.2.1 pc = .ok (.goto off, 3)) (ht : (pc : Int) + off = (tgt : Int))
    (k : mx_Go l R M Z uc us tgt L st h) : mx_Go l R M Z uc us pc L st h := by
  intro G p e s m args below meth c H locs ls C hz hW hS hl
  exact lv_goto C.1 C.2.1 hd ht (k G p e s m args below meth c H locs ls C hz hW hS hl)
theorem g_tableOut {dflt lo hi : Int} {offs : Array Int} {len : Nat} {x : Int32} {tgt : Nat} (hd : decode M.2.1 pc = .ok (.tableswitch dflt lo hi offs, len)) (hx : x.toInt < lo ∨ hi < x.toInt) (ht : (pc : Int) + dflt = (tgt : Int))
    (k : mx_Go l R M Z uc us tgt L st h) : mx_Go l R M Z uc us pc L (.int x :: st) h := by
  intro G p e s m args below meth c H locs ls C hz hW hS hl
  exact lv_tableOut C.1 C.2.1 hd hx ht (k G p e s m args below meth c H locs ls C hz hW hS hl)
theorem g_tableIn {dflt lo hi : Int} {offs : Array Int} {len : Nat} {x : Int32} {off : Int} {tgt : Nat} (hd : decode M.2.1 pc = .ok (.tableswitch dflt lo hi offs, len)) (h1 : ¬ x.toInt < lo) (h2 : ¬ hi < x.toInt) (ho : offs[(x.toInt - lo).toNat]? = some off) (ht : (pc : Int) + off = (tgt : Int))
    (k : mx_Go l R M Z uc us tgt L st h) : mx_Go l R M Z uc us pc L (.int x :: st) h := by
  intro G p e s m args below meth c H locs ls C hz hW hS hl
  exact lv_tableIn C.1 C.2.1 hd h1 h2 ho ht (k G p e s m args below meth c H locs ls C hz hW hS hl)
theorem g_lookup {dflt : Int} {ps : Array (Int × Int)} {len : Nat} {x : Int32} {off : Int} {tgt : Nat} (hd : decode M.2.1 pc = .ok (.lookupswitch dflt ps, len)) (hp : (ps.toList.zip (ps.toList.drop 1)).all (fun (a, next) => a.1 < next.1) = true) (ho : Op.lookupswitch.offset ps.toList dflt x.toInt = off) (ht : (pc : Int) + off = (tgt : Int))
    (k : mx_Go l R M Z uc us tgt L st h) : mx_Go l R M Z uc us pc L (.int x :: st) h := by
  intro G p e s m args below meth c H locs ls C hz hW hS hl
  exact lv_lookup C.1 C.2.1 hd hp ho ht (k G p e s m args below meth c H locs ls C hz hW hS hl)
theorem g_ldc {index : Nat} {v : Int32} (hd : decode M.2.1 pc = .ok (.ldc index, 2)) (hw : Cond.constant M.1.cls index v ∈ mx_g)
    (k : mx_Go l R M Z uc us (pc + 2) L (.int v :: st) h) : mx_Go l R M Z uc us pc L st h := by
  intro G p e s m args below meth c H locs ls C hz hW hS hl
  exact lv_ldc C.1 C.2.1 C.2.2.2.2.2.2.1 (C.2.2.2.2.2.2.2.1 _ hw) hd (k G p e s m args below meth c H locs ls C hz hW hS hl)
theorem g_ldc2 {index : Nat} {v : Int64} (hd : decode M.2.1 pc = .ok (.ldc2_w index, 3)) (hw : Cond.constantLong M.1.cls index v ∈ mx_g)
    (k : mx_Go l R M Z uc us (pc + 3) L (.long v :: st) h) : mx_Go l R M Z uc us pc L st h := by
  intro G p e s m args below meth c H locs ls C hz hW hS hl
  exact lv_ldc2 C.1 C.2.1 C.2.2.2.2.2.2.1 (C.2.2.2.2.2.2.2.1 _ hw) hd (k G p e s m args below meth c H locs ls C hz hW hS hl)
theorem g_ldcS {index i : Nat} {tx : String} (hd : decode M.2.1 pc = .ok (.ldc index, 2)) (hi : mx_strs[i]? = some (M.1.cls, index, tx))
    (k : mx_Go l R M Z uc us (pc + 2) L (.ref (1001 + i) :: st) h) : mx_Go l R M Z uc us pc L st h := by
  intro G p e s m args below meth c H locs ls C hz hW hS hl
  have h9 := C.2.2.2.2.2.2.2.2.2.2.2.2.2.1 i _ hi
  have e9 : mx_ad G (1001 + i) = G.2.2.2.1 (1001 + i) := by unfold mx_ad; rw [if_neg (by omega)]
  refine va_ldcS C.1 C.2.1 C.2.2.2.2.2.2.1 h9 hd ?_
  have k9 := k G p e s m args below meth c H locs ls C hz hW hS hl
  rw [← e9]
  exact k9
end RULES
end
section
/-! fields, arrays, calls, the end of a method, its entry -/
section HEAPRULES
variable {l : Launch} {R : Room} {M : mx_M} {Z : mx_G → List Frame → Array Value → State → State → Prop} {uc us pc : Nat} {L st : List Value} {h : mx_H}
theorem mx_C.K {G : mx_G} {p : Program} {s : State} {m : MethodId} {args : Array Value} {meth : Method} {c : Code} (C : mx_C M G p s m args meth c) : mx_K G s := C.2.2.2.2.2.2.2.2
theorem mx_C.own {G : mx_G} {p : Program} {s : State} {m : MethodId} {args : Array Value} {meth : Method} {c : Code} (C : mx_C M G p s m args meth c) : s.vm.findClass M.1.cls = some m.cls := C.2.2.2.2.2.2.1
theorem mx_C.wd {G : mx_G} {p : Program} {s : State} {m : MethodId} {args : Array Value} {meth : Method} {c : Code} (C : mx_C M G p s m args meth c) : ∀ w ∈ mx_g, w.before args s = true := C.2.2.2.2.2.2.2.1
theorem mx_k1000 {G : mx_G} {H : Heap} {k : Nat} {c : Nat ⊕ (Nat × List (Option Nat))} (hW : mx_W G h H) (hk : h.1[k]? = some c) : mx_ad G k = G.2.2.1 + k := mx_ad_lt (Nat.lt_of_lt_of_le (List.getElem?_eq_some_iff.mp hk).1 hW.1)
theorem g_getf {idx k ci j : Nat} {refs : List (Option Nat)} {C0 : String} {T : u_T} {N : Nat} {v : Value} (hcl : vwCl[ci]? = some (C0, T, N)) (hin : ∀ w ∈ u_ws C0 T N, w ∈ mx_g) (hN : mx_N ci = N) (hj : j < N)
    (hd : decode M.2.1 pc = .ok (.getfield idx, 3)) (hw : Cond.fieldLink M.1.cls idx (T j).1 (T j).2.1 (T j).2.2.1 ∈ mx_g) (hk : h.1[k]? = some (.inr (ci, refs))) (hv : mx_fv h.2 k ci refs j = v)
    (kk : mx_Go l R M Z uc us (pc + 3) L (v :: st) h) : mx_Go l R M Z uc us pc L (.ref k :: st) h := by
  intro G p e s m args below meth c H locs ls C hz hW hS hl
  have e9 := mx_k1000 hW hk
  have k9 := kk G p e s m args below meth c H locs ls C hz hW hS hl
  subst hv
  show W p l e R s m args below meth c H locs uc us (Z G below args s) (F0 m pc ls (.ref (mx_ad G k) :: st.map (mx_cv G)))
  rw [e9]
  exact va_get (D := G.1) (ci := ci) C.1 C.2.1 C.wd hin C.own C.K.1 hW.2 k (mx_ws_get hk) hcl j hj (C.wd _ hw) (fun _ q => q) (mx_fs_get (by rw [hN]; exact hj)) hd k9
theorem g_putf {idx k ci j : Nat} {refs : List (Option Nat)} {C0 : String} {T : u_T} {N : Nat} {x : Int32} {ty0 : Nat → FieldType} (hcl : vwCl[ci]? = some (C0, T, N)) (hin : ∀ w ∈ u_ws C0 T N, w ∈ mx_g) (hty : ∀ k, k < N → parseFieldDescriptor (T k).2.2.1 = some (ty0 k)) (hnm : ∀ a, a < N → ∀ b, b < N → a ≠ b → (T a).2.1 ≠ (T b).2.1)
    (hN : mx_N ci = N) (hj : j < N) (hr : mx_isR ci j = false) (hf : (T j).2.2.2 = false) (hn : narrow (ty0 j) (.int x) = .int x) (hfit : fits (ty0 j) (.int x) = true)
    (hd : decode M.2.1 pc = .ok (.putfield idx, 3)) (hw : Cond.fieldLink M.1.cls idx (T j).1 (T j).2.1 (T j).2.2.1 ∈ mx_g) (hk : h.1[k]? = some (.inr (ci, refs)))
    (kk : mx_Go l R M Z uc us (pc + 3) L st (h.1, mx_set h.2 k j x)) : mx_Go l R M Z uc us pc L (.int x :: .ref k :: st) h := by
  intro G p e s m args below meth c H locs ls C hz hW hS hl
  have e9 := mx_k1000 hW hk
  show W p l e R s m args below meth c H locs uc us (Z G below args s) (F0 m pc ls (.int x :: .ref (mx_ad G k) :: st.map (mx_cv G)))
  rw [e9]
  refine va_put (D := G.1) (ci := ci) (v := .int x) (ty := ty0 j) C.1 C.2.1 C.wd hin ty0 hty hnm C.own C.K.1 hW.2 (mx_D G h) hS k (mx_ws_get hk) hcl j hj (C.wd _ hw) (fun _ q => q) hf (hty j hj) hn hfit (by rw [mx_fs_len, hN]; exact hj) hd (fun H1 locs1 hP1 _ hS1 => ?_)
  exact kk G p e s m args below meth c H1 locs1 ls C hz ⟨hW.1, by rw [mx_ws_fld (sk := h.1) (I := h.2) hk (by rw [hN]; exact hj) hr]; exact hP1⟩ hS1 hl
theorem g_putr {idx k ci j r : Nat} {refs : List (Option Nat)} {C0 : String} {T : u_T} {N : Nat} {ty0 : Nat → FieldType} (hcl : vwCl[ci]? = some (C0, T, N)) (hin : ∀ w ∈ u_ws C0 T N, w ∈ mx_g) (hty : ∀ k, k < N → parseFieldDescriptor (T k).2.2.1 = some (ty0 k)) (hnm : ∀ a, a < N → ∀ b, b < N → a ≠ b → (T a).2.1 ≠ (T b).2.1)
    (hN : mx_N ci = N) (hj : j < N) (hr : mx_isR ci j = true) (hf : (T j).2.2.2 = false) (hn : ∀ q, narrow (ty0 j) (.ref q) = .ref q) (hfit : ∀ q, fits (ty0 j) (.ref q) = true)
    (hd : decode M.2.1 pc = .ok (.putfield idx, 3)) (hw : Cond.fieldLink M.1.cls idx (T j).1 (T j).2.1 (T j).2.2.1 ∈ mx_g) (hk : h.1[k]? = some (.inr (ci, refs))) (hl0 : j < refs.length)
    (kk : mx_Go l R M Z uc us (pc + 3) L st (h.1.set k (.inr (ci, refs.set j (some r))), h.2)) : mx_Go l R M Z uc us pc L (.ref r :: .ref k :: st) h := by
  intro G p e s m args below meth c H locs ls C hz hW hS hl
  have e9 := mx_k1000 hW hk
  show W p l e R s m args below meth c H locs uc us (Z G below args s) (F0 m pc ls (.ref (mx_ad G r) :: .ref (mx_ad G k) :: st.map (mx_cv G)))
  rw [e9]
  refine va_put (D := G.1) (ci := ci) (v := .ref (mx_ad G r)) (ty := ty0 j) C.1 C.2.1 C.wd hin ty0 hty hnm C.own C.K.1 hW.2 (mx_D G h) hS k (mx_ws_get hk) hcl j hj (C.wd _ hw) (fun _ q => q) hf (hty j hj) (hn _) (hfit _) (by rw [mx_fs_len, hN]; exact hj) hd (fun H1 locs1 hP1 _ hS1 => ?_)
  exact kk G p e s m args below meth c H1 locs1 ls C (by simpa using hz) ⟨by simpa using hW.1, by rw [mx_ws_ref (sk := h.1) (I := h.2) hk (by rw [hN]; exact hj) hr hl0]; exact hP1⟩ hS1 hl
theorem g_putrF {idx k ci j r : Nat} {refs : List (Option Nat)} {C0 : String} {T : u_T} {N : Nat} {ty0 : Nat → FieldType} (hcl : vwCl[ci]? = some (C0, T, N)) (hin : ∀ w ∈ u_ws C0 T N, w ∈ mx_g) (hty : ∀ k, k < N → parseFieldDescriptor (T k).2.2.1 = some (ty0 k)) (hnm : ∀ a, a < N → ∀ b, b < N → a ≠ b → (T a).2.1 ≠ (T b).2.1)
    (hN : mx_N ci = N) (hj : j < N) (hr : mx_isR ci j = true) (hf : (T j).2.2.2 = true) (hn : ∀ q, narrow (ty0 j) (.ref q) = .ref q) (hfit : ∀ q, fits (ty0 j) (.ref q) = true) (hin2 : M.1.name = "<init>") (hdecl : (T j).1 = M.1.cls)
    (hd : decode M.2.1 pc = .ok (.putfield idx, 3)) (hw : Cond.fieldLink M.1.cls idx (T j).1 (T j).2.1 (T j).2.2.1 ∈ mx_g) (hk : h.1[k]? = some (.inr (ci, refs))) (hl0 : j < refs.length)
    (kk : mx_Go l R M Z uc us (pc + 3) L st (h.1.set k (.inr (ci, refs.set j (some r))), h.2)) : mx_Go l R M Z uc us pc L (.ref r :: .ref k :: st) h := by
  intro G p e s m args below meth c H locs ls C hz hW hS hl
  have e9 := mx_k1000 hW hk
  show W p l e R s m args below meth c H locs uc us (Z G below args s) (F0 m pc ls (.ref (mx_ad G r) :: .ref (mx_ad G k) :: st.map (mx_cv G)))
  rw [e9]
  refine va_putF (D := G.1) (ci := ci) (v := .ref (mx_ad G r)) (ty := ty0 j) C.1 C.2.1 C.wd hin ty0 hty hnm C.own C.K.1 hW.2 (mx_D G h) hS k (mx_ws_get hk) hcl j hj (C.wd _ hw) (fun _ q => q) hf (C.2.2.2.2.2.1.trans hin2) hdecl (hty j hj) (hn _) (hfit _) (by rw [mx_fs_len, hN]; exact hj) hd (fun H1 locs1 hP1 _ hS1 => ?_)
  exact kk G p e s m args below meth c H1 locs1 ls C (by simpa using hz) ⟨by simpa using hW.1, by rw [mx_ws_ref (sk := h.1) (I := h.2) hk (by rw [hN]; exact hj) hr hl0]; exact hP1⟩ hS1 hl
theorem g_iald {k n : Nat} {i : Int32} (hd : decode M.2.1 pc = .ok (.iaload, 1)) (hk : h.1[k]? = some (.inl n)) (hi : vp_in i n)
    (kk : mx_Go l R M Z uc us (pc + 1) L (.int (h.2 k i.toNatClampNeg) :: st) h) : mx_Go l R M Z uc us pc L (.int i :: .ref k :: st) h := by
  intro G p e s m args below meth c H locs ls C hz hW hS hl
  have e9 := mx_k1000 hW hk
  have k9 := kk G p e s m args below meth c H locs ls C hz hW hS hl
  show W p l e R s m args below meth c H locs uc us (Z G below args s) (F0 m pc ls (.int i :: .ref (mx_ad G k) :: st.map (mx_cv G)))
  rw [e9]
  exact va_iald C.1 C.2.1 C.K.1 hW.2 k 0 (mx_ws_get hk) rfl hi hd k9
theorem g_iast {k n : Nat} {i x : Int32} (hd : decode M.2.1 pc = .ok (.iastore, 1)) (hk : h.1[k]? = some (.inl n)) (hi : vp_in i n)
    (kk : mx_Go l R M Z uc us (pc + 1) L st (h.1, mx_set h.2 k i.toNatClampNeg x)) : mx_Go l R M Z uc us pc L (.int x :: .int i :: .ref k :: st) h := by
  intro G p e s m args below meth c H locs ls C hz hW hS hl
  have e9 := mx_k1000 hW hk
  show W p l e R s m args below meth c H locs uc us (Z G below args s) (F0 m pc ls (.int x :: .int i :: .ref (mx_ad G k) :: st.map (mx_cv G)))
  rw [e9]
  refine va_iast C.1 C.2.1 C.K.1 hW.2 (mx_D G h) hS k 0 (mx_ws_get hk) rfl hi hd (fun H1 locs1 hP1 _ hS1 => ?_)
  exact kk G p e s m args below meth c H1 locs1 ls C hz ⟨hW.1, by unfold mx_set; rw [mx_ws_row (sk := h.1) (I := h.2) hk]; exact hP1⟩ hS1 hl
theorem g_alen {k n : Nat} {v : Int32} (hd : decode M.2.1 pc = .ok (.arraylength, 1)) (hk : h.1[k]? = some (.inl n)) (hv : Int32.ofNat n = v)
    (kk : mx_Go l R M Z uc us (pc + 1) L (.int v :: st) h) : mx_Go l R M Z uc us pc L (.ref k :: st) h := by
  intro G p e s m args below meth c H locs ls C hz hW hS hl
  have e9 := mx_k1000 hW hk
  have k9 := kk G p e s m args below meth c H locs ls C hz hW hS hl
  show W p l e R s m args below meth c H locs uc us (Z G below args s) (F0 m pc ls (.ref (mx_ad G k) :: st.map (mx_cv G)))
  rw [e9]
  exact va_alen (x := (n, .inl (h.2 k))) C.1 C.2.1 C.K.1 hW.2 k 0 (mx_ws_get hk) rfl hv hd k9
theorem g_objInit {idx k : Nat} (hd : decode M.2.1 pc = .ok (.invokespecial idx, 3)) (hw1 : Cond.methodLink M.1.cls idx Lib.objectInit ∈ mx_g) (hw2 : Cond.instanceMethod Lib.objectInit ∈ mx_g) (hw3 : Cond.code Lib.objectInit ⟨#[0xb1]⟩ 1 none ∈ mx_g)
    (hst : (st.map fun v => v.category).sum ≤ 8) (hfr : 1 ≤ R.frames) (hlo : 20 ≤ R.locals)
    (kk : mx_Go l R M Z uc us (pc + 3) L st h) : mx_Go l R M Z uc us pc L (.ref k :: st) h := by
  intro G p e s m args below meth c H locs ls C hz hW hS hl
  have k9 := kk G p e s m args below meth c H locs ls C hz hW hS hl
  have hs9 : ((st.map (mx_cv G)).map fun v => v.category).sum ≤ 8 := by
    rw [List.map_map]
    have : ((fun v : Value => v.category) ∘ mx_cv G) = fun v => v.category := by funext v; exact mx_cv_cat G v
    rw [this]
    exact hst
  have hr9 := lv_room (m := m) (pc := pc) (ls := ls) (rest := (Value.ref (mx_ad G k)) :: st.map (mx_cv G)) hs9
  exact W.objInit C.1 C.2.1 C.own (C.wd _ hw1) (C.wd _ hw2) (C.wd _ hw3) rfl (by rw [C.2.2.1]; exact hl.1) rfl hd hfr (Nat.le_trans (Nat.add_le_add_right hr9 12) hlo) k9
theorem mx_cats (G : mx_G) (st : List Value) : ((st.map (mx_cv G)).map fun v => v.category).sum = (st.map fun v => v.category).sum := by
  rw [List.map_map]
  have : ((fun v : Value => v.category) ∘ mx_cv G) = fun v => v.category := by funext v; exact mx_cv_cat G v
  rw [this]
theorem g_copy {idx k0 k1 n0 n1 : Nat} {sp dp n : Int32} (hd : decode M.2.1 pc = .ok (.invokestatic idx, 3)) (hw1 : Cond.methodLink M.1.cls idx arraycopyName ∈ mx_g) (hw2 : Cond.native arraycopyName ∈ mx_g) (hw3 : Cond.static arraycopyName ∈ mx_g) (hw4 : Cond.initialized "java/lang/System" ∈ mx_g)
    (hk0 : h.1[k0]? = some (.inl n0)) (hk1 : h.1[k1]? = some (.inl n1)) (h1 : ¬ sp < 0) (h2 : ¬ dp < 0) (h3 : ¬ n < 0) (h4 : sp.toNatClampNeg + n.toNatClampNeg ≤ n0) (h5 : dp.toNatClampNeg + n.toNatClampNeg ≤ n1)
    (hst : (st.map fun v => v.category).sum ≤ 8) (hfr : 1 ≤ R.frames) (hlo : 8 + (nativeFrameWords "java/lang/System" "arraycopy" 5 + 11) ≤ R.locals)
    (kk : mx_Go l R M Z uc us (pc + 3) L st (h.1, mx_row h.2 k1 (va_cpy (h.2 k0) (h.2 k1) sp.toNatClampNeg dp.toNatClampNeg n.toNatClampNeg))) : mx_Go l R M Z uc us pc L (.int n :: .int dp :: .ref k1 :: .int sp :: .ref k0 :: st) h := by
  intro G p e s m args below meth c H locs ls C hz hW hS hl
  have e0 := mx_k1000 hW hk0
  have e1 := mx_k1000 hW hk1
  show W p l e R s m args below meth c H locs uc us (Z G below args s) (F0 m pc ls (.int n :: .int dp :: .ref (mx_ad G k1) :: .int sp :: .ref (mx_ad G k0) :: st.map (mx_cv G)))
  rw [e0, e1]
  refine va_copyi C.1 C.2.1 (by rw [C.2.2.1]; exact hl.1.symm) C.own (C.wd _ hw1) (C.wd _ hw2) (C.wd _ hw3) (C.wd _ hw4) C.K.1 hW.2 (mx_D G h) hS k0 k1 0 0 (ty := .int) (mx_ws_get hk0) (mx_ws_get hk1) rfl rfl rfl h1 h2 h3 h4 h5 (fun _ _ => rfl) hfr (by rw [mx_cats]; omega) hd (fun H1 locs1 hP1 _ hS1 => ?_)
  exact kk G p e s m args below meth c H1 locs1 ls C hz ⟨hW.1, by rw [mx_ws_row (sk := h.1) (I := h.2) hk1]; exact hP1⟩ hS1 hl
end HEAPRULES
section CALLRULES
variable {l : Launch} {R : Room} {M : mx_M} {Z : mx_G → List Frame → Array Value → State → State → Prop} {uc us pc : Nat} {L st : List Value} {h : mx_H}
theorem mx_blind (G : mx_G) (As : List Value) (h : mx_H) : FrameBlind (mx_Pc G As h) := by
  intro a U g mk q
  obtain ⟨q1, q2, q3, q4⟩ := q
  exact ⟨q1, mx_K.to (s := U) (U := U.calling g mk a) q2 (State.WarmedH.refl U) (Nat.le_refl _) (fun _ _ _ => rfl), q3, q4⟩
theorem mx_goodIn {ws : List Cond} (h : ∀ w ∈ ws, w ∈ mx_g) : GoodIn mx_g ws := fun w hw => ⟨h w hw, mx_g_good (h w hw)⟩
/-- what a method that is called gives of the tables -/
def mx_ok (M : mx_M) (n : Nat) : Prop := Cond.code M.1 M.2.1 M.2.2.1 M.2.2.2 ∈ mx_g ∧ Cond.initialized M.1.cls ∈ mx_g ∧ (M.1.cls ≠ "java/lang/invoke/MethodHandle" ∧ M.1.cls ≠ "java/lang/invoke/VarHandle" ∧ (parseMethodDescriptor M.1.desc).map (fun d => d.parameters.length) = some n)
def mx_okV (M : mx_M) (n : Nat) : Prop := mx_ok M n ∧ Cond.instanceMethod M.1 ∈ mx_g ∧ Cond.selects M.1.cls M.1 M.1 ∈ mx_g
theorem mx_wsM_in {M' : mx_M} {n : Nat} (hM : mx_ok M' n) : ∀ w ∈ mx_wsM M', w ∈ mx_g := by
  intro w hw
  rcases List.mem_cons.mp hw with rfl | hw
  · exact hM.1
  · exact hw
/-- behind a call -/
theorem mx_after {G : mx_G} {p : Program} {e : Env} {s : State} {m : MethodId} {args : Array Value} {below : List Frame} {meth : Method} {c : Code} {H : Heap} {locs : List Loc} {ls : Array Slot} {nc' ns' : Nat} {st0 : List Value} {Q' : Option Value → mx_H → Prop} {a : Array Value}
    (C : mx_C M G p s m args meth c) (hz : s.heap.size + uc = G.2.2.1 + h.1.length) (hW : mx_W G h H) (hS : va_S (mx_A G) s.heap H locs) (hl : lv_has ls M.2.2.1 (mx_la (L.map (mx_cv G))))
    (hr : s.heap.size ≤ H.size → H.size = G.2.2.1 + h.1.length → va_Run p l e R s m args below meth c H locs uc us nc' ns' (F0 m pc ls st0) (st.map (mx_cv G)) (mx_Qc G Q' nc' a) (mx_A G))
    (kk : ∀ r h', Q' r h' → mx_Go l R M Z (uc + nc') (us + ns') (pc + 3) L (r.toList ++ st) h') :
    W p l e R s m args below meth c H locs uc us (Z G below args s) (F0 m pc ls st0) := by
  intro T hT X
  have hsz := mx_size X hT C.K.2.2.2.1 hz hW hS.1
  obtain ⟨v, st₀, t, T', L', h0, X', hL, e1, e2, ⟨⟨r, h', hv, hq, hW', hz'⟩, hF⟩, go⟩ := hr hS.1 hsz T hT X
  have hv' : v = r.map (mx_cv G) := by injection hv
  subst hv'
  have hF1 := hF.1
  have hF2 := hF.2
  rw [h0] at hz' hF1 hF2
  have hS' : va_S (mx_A G) s.heap T'.heap (locs ++ L') := ⟨Nat.le_trans hS.1 (by rw [e1]; exact hF1), fun q q1 q2 => by rw [e1, hF2 q (Nat.lt_of_lt_of_le q1 hS.1) q2]; exact hS.2.1 q q1 q2, fun q hq => by
      rcases List.mem_append.mp hq with g1 | g1
      · exact hS.2.2 q g1
      · exact hL q g1⟩
  obtain ⟨t2, a1, b1⟩ := kk r h' hq G p e s m args below meth c T'.heap (locs ++ L') ls C (by omega) (by rw [e1]; exact hW') hS' hl T' rfl X'
  refine ⟨t2, go t2 ?_, b1⟩
  have e3 : (r.map (mx_cv G)).toList ++ st.map (mx_cv G) = (r.toList ++ st).map (mx_cv G) := by cases r <;> rfl
  show Steps p.tables e below (T'.setTop (F0 m (pc + 3) ls ((r.map (mx_cv G)).toList ++ st.map (mx_cv G)))) t2
  rw [e3]
  exact a1
theorem mx_pre {G : mx_G} {p : Program} {s : State} {m : MethodId} {args : Array Value} {meth : Method} {c : Code} {H : Heap} {locs : List Loc} (C : mx_C M G p s m args meth c) (hW : mx_W G h H) (hS : va_S (mx_A G) s.heap H locs) (hsz : H.size = G.2.2.1 + h.1.length) (As : List Value) :
    ∀ U : State, U.heap = H → s.WarmedH U.vm → mx_Pc G As h (As.map (mx_cv G)).toArray U := by
  intro U hU hW9
  exact ⟨rfl, mx_K.to C.K hW9 (by rw [hU]; exact hS.1) (fun a q1 q2 => by rw [hU]; exact hS.2.1 a q1 q2), by rw [hU]; exact hW, by rw [hU]; exact hsz⟩
theorem g_callV {M' : mx_M} {idx k ci d nc' ns' : Nat} {refs : List (Option Nat)} {q : vw_C} {As : List Value} {Q' : Option Value → mx_H → Prop} (S : mx_Spec l M' d nc' ns' (.ref k :: As) h Q') (hd : decode M.2.1 pc = .ok (.invokevirtual idx, 3)) (hw : Cond.methodLink M.1.cls idx M'.1 ∈ mx_g) (hM : mx_okV M' As.length) (hk : h.1[k]? = some (.inr (ci, refs))) (hcl : vwCl[ci]? = some q) (hq : M'.1.cls = q.1)
    (hst : (st.map fun v => v.category).sum ≤ 8) (hfr : d + 3 ≤ R.frames) (hlo : 8 + (M'.2.2.1 + 11) + (64 * d + 200) ≤ R.locals) (hce : uc + nc' ≤ R.cells) (hsl : us + ns' ≤ R.slots)
    (kk : ∀ r h', Q' r h' → mx_Go l R M Z (uc + nc') (us + ns') (pc + 3) L (r.toList ++ st) h') : mx_Go l R M Z uc us pc L (As.reverse ++ .ref k :: st) h := by
  intro G p e s m args below meth c H locs ls C hz hW hS hl
  have e9 := mx_k1000 hW hk
  have es : (As.reverse ++ .ref k :: st).map (mx_cv G) = (As.map (mx_cv G)).reverse ++ .ref (G.2.2.1 + k) :: st.map (mx_cv G) := by
    simp [mx_cv, e9]
  rw [es]
  refine mx_after (a := (Value.ref (G.2.2.1 + k) :: As.map (mx_cv G)).toArray) C hz hW hS hl (fun _ hsz => ?_) kk
  refine va_runV (C := q.1) (bytes := M'.2.1) (maxL := M'.2.2.1) (ret := M'.2.2.2) (n := As.length) (Ts := mx_g) (own := M.1.cls) (nL := M.2.2.1) (As := As.map (mx_cv G)) (rest := st.map (mx_cv G)) (b := G.2.2.1 + k) ⟨C.1, C.2.1, C.2.2.1, C.own, C.wd⟩ (S G) (cwV As.length C.wd (mx_goodIn ?_) rfl rfl rfl ⟨hq, hM.1.2.2⟩ ⟨hfr, hlo⟩) ⟨mx_blind _ _ _, ?_, ?_⟩ rfl (by simp) hl.1 rfl (lv_room (by rw [mx_cats]; exact hst)) hd ⟨hce, hsl⟩
  · intro w hw9
    unfold wsV at hw9
    rcases List.mem_append.mp hw9 with h9 | h9
    · simp only [List.mem_cons, List.not_mem_nil, or_false] at h9
      rcases h9 with rfl | rfl | rfl | rfl
      · exact hw
      · exact hM.2.1
      · rw [← hq]; exact hM.2.2
      · rw [← hq]; exact hM.1.2.1
    · exact mx_wsM_in hM.1 w h9
  · exact va_recv C.K.1 hW.2 hcl (mx_ws_get hk)
  · intro U hU hW9
    have h9 := mx_pre (M := M) C hW hS hsz (.ref k :: As) U hU hW9
    simpa [mx_cv, e9] using h9
theorem g_callS {M' : mx_M} {idx d nc' ns' : Nat} {As : List Value} {Q' : Option Value → mx_H → Prop} (S : mx_Spec l M' d nc' ns' As h Q') (hd : decode M.2.1 pc = .ok (.invokestatic idx, 3)) (hw : Cond.methodLink M.1.cls idx M'.1 ∈ mx_g) (hM : mx_ok M' As.length) (hM2 : Cond.static M'.1 ∈ mx_g)
    (hst : (st.map fun v => v.category).sum ≤ 8) (hfr : d + 3 ≤ R.frames) (hlo : 8 + (M'.2.2.1 + 11) + (64 * d + 200) ≤ R.locals) (hce : uc + nc' ≤ R.cells) (hsl : us + ns' ≤ R.slots)
    (kk : ∀ r h', Q' r h' → mx_Go l R M Z (uc + nc') (us + ns') (pc + 3) L (r.toList ++ st) h') : mx_Go l R M Z uc us pc L (As.reverse ++ st) h := by
  intro G p e s m args below meth c H locs ls C hz hW hS hl
  have es : (As.reverse ++ st).map (mx_cv G) = (As.map (mx_cv G)).reverse ++ st.map (mx_cv G) := by simp
  rw [es]
  refine mx_after (a := (As.map (mx_cv G)).toArray) C hz hW hS hl (fun _ hsz => ?_) kk
  refine va_runS (bytes := M'.2.1) (maxL := M'.2.2.1) (ret := M'.2.2.2) (n := As.length) (Ts := mx_g) (own := M.1.cls) (nL := M.2.2.1) (As := As.map (mx_cv G)) (rest := st.map (mx_cv G)) ⟨C.1, C.2.1, C.2.2.1, C.own, C.wd⟩ (S G) (va_cwS As.length C.wd (mx_goodIn ?_) rfl rfl rfl hM.2.2 ⟨hfr, hlo⟩) ⟨mx_blind _ _ _, mx_pre (M := M) C hW hS hsz As⟩ rfl (by simp) hl.1 rfl (lv_room (by rw [mx_cats]; exact hst)) hd ⟨hce, hsl⟩
  intro w hw9
  unfold va_wsS at hw9
  rcases List.mem_append.mp hw9 with h9 | h9
  · simp only [List.mem_cons, List.not_mem_nil, or_false] at h9
    rcases h9 with rfl | rfl | rfl
    · exact hw
    · exact hM2
    · exact hM.2.1
  · exact mx_wsM_in hM w h9
end CALLRULES
section ENDS
variable {l : Launch} {R : Room} {M : mx_M} {uc us pc nc ns : Nat} {L : List Value} {h : mx_H} {Q : Option Value → mx_H → Prop}
theorem g_iret {v : Int32} (hr : M.2.2.2 = some .int) (hd : decode M.2.1 pc = .ok (.ireturn, 1)) (huc : uc = nc) (hus : us ≤ ns) (q : Q (some (.int v)) h) : mx_Go l R M (mx_Z Q nc ns) uc us pc L [.int v] h := by
  intro G p e s m args below meth c H locs ls C hz hW hS hl
  subst huc
  refine W.widen (Nat.le_refl uc) hus ?_
  exact W.iret C.1 C.2.1 (C.2.2.2.1.trans hr) (fun t ht hW9 => ⟨⟨some (.int v), h, rfl, q, by rw [ht]; exact hW, hz⟩, hS.F ht⟩) hS.2.2 hd C.2.2.2.2.1
theorem g_zret {v : Int32} {ty : FieldType} (hr : M.2.2.2 = some ty) (hn : narrow ty (.int v) = .int v) (hd : decode M.2.1 pc = .ok (.ireturn, 1)) (huc : uc = nc) (hus : us ≤ ns) (q : Q (some (.int v)) h) : mx_Go l R M (mx_Z Q nc ns) uc us pc L [.int v] h := by
  intro G p e s m args below meth c H locs ls C hz hW hS hl
  subst huc
  refine W.widen (Nat.le_refl uc) hus ?_
  exact W.zret C.1 C.2.1 (C.2.2.2.1.trans hr) hn (fun t ht hW9 => ⟨⟨some (.int v), h, rfl, q, by rw [ht]; exact hW, hz⟩, hS.F ht⟩) hS.2.2 hd C.2.2.2.2.1
theorem g_lret {v : Int64} (hr : M.2.2.2 = some .long) (hd : decode M.2.1 pc = .ok (.lreturn, 1)) (huc : uc = nc) (hus : us ≤ ns) (q : Q (some (.long v)) h) : mx_Go l R M (mx_Z Q nc ns) uc us pc L [.long v] h := by
  intro G p e s m args below meth c H locs ls C hz hW hS hl
  subst huc
  refine W.widen (Nat.le_refl uc) hus ?_
  exact W.lret C.1 C.2.1 (C.2.2.2.1.trans hr) (fun t ht hW9 => ⟨⟨some (.long v), h, rfl, q, by rw [ht]; exact hW, hz⟩, hS.F ht⟩) hS.2.2 hd C.2.2.2.2.1
theorem g_vret (hr : M.2.2.2 = none) (hd : decode M.2.1 pc = .ok (.return_, 1)) (huc : uc = nc) (hus : us ≤ ns) (q : Q none h) : mx_Go l R M (mx_Z Q nc ns) uc us pc L [] h := by
  intro G p e s m args below meth c H locs ls C hz hW hS hl
  subst huc
  refine W.widen (Nat.le_refl uc) hus ?_
  exact W.vret C.1 C.2.1 (C.2.2.2.1.trans hr) (fun t ht hW9 => ⟨⟨none, h, rfl, q, by rw [ht]; exact hW, hz⟩, hS.F ht⟩) hS.2.2 hd C.2.2.2.2.1
theorem g_aret {k : Nat} {rt : FieldType} (hr : M.2.2.2 = some rt) (hrt : (∃ n, rt = .object n) ∨ ∃ t, rt = .array t) (hd : decode M.2.1 pc = .ok (.areturn, 1)) (huc : uc = nc) (hus : us ≤ ns) (q : Q (some (.ref k)) h) : mx_Go l R M (mx_Z Q nc ns) uc us pc L [.ref k] h := by
  intro G p e s m args below meth c H locs ls C hz hW hS hl
  subst huc
  refine W.widen (Nat.le_refl uc) hus ?_
  exact W.aret (v := .ref (mx_ad G k)) C.1 C.2.1 (C.2.2.2.1.trans hr) hrt (Or.inr ⟨_, rfl⟩) (fun t ht hW9 => ⟨⟨some (.ref k), h, rfl, q, by rw [ht]; exact hW, hz⟩, hS.F ht⟩) hS.2.2 hd C.2.2.2.2.1
end ENDS
theorem mx_args {As : List Value} (h : ∀ v ∈ As, v.category = 1) : ∀ i : Nat, lv_args i As = (As.zipIdx i).map (fun q => (q.2, q.1)) := by
  induction As with
  | nil => intro i; rfl
  | cons v vs ih =>
    intro i
    have h1 : v.category = 1 := h v List.mem_cons_self
    simp only [lv_args, h1, List.zipIdx_cons, List.map_cons]
    rw [if_neg (by decide), ih (fun w hw => h w (List.mem_cons_of_mem _ hw)) (i + 1)]
theorem mx_sl {As : List Value} (h : ∀ v ∈ As, v.category = 1) : (lg_sl As).length = As.length := by
  induction As with
  | nil => rfl
  | cons v vs ih =>
    have h1 : v.category = 1 := h v List.mem_cons_self
    have h2 := ih (fun w hw => h w (List.mem_cons_of_mem _ hw))
    show ((if v.category = 2 then [Slot.val v, Slot.second] else [Slot.val v]) ++ lg_sl vs).length = _
    rw [List.length_append, h2, h1]
    simp [Nat.add_comm]
/-- a method's contract out of the walk of its body -/
theorem mx_enter {l : Launch} {M : mx_M} {d nc ns : Nat} {As : List Value} {h : mx_H} {Q : Option Value → mx_H → Prop} (hp : plainName M.1.cls = true) (hc : ∀ v ∈ As, v.category = 1) (hn : As.length ≤ M.2.2.1)
    (k : mx_Go l (mx_rm d nc ns) M (mx_Z Q nc ns) 0 0 0 (As ++ List.replicate (M.2.2.1 - As.length) (.retAddr 0)) [] h) : mx_Spec l M d nc ns As h Q := by
  intro G
  refine Met.ofW (cc := M.2.1) (maxL := M.2.2.1) (ret := M.2.2.2) hp rfl ?_
  intro p e s m args below meth c s₁ B hml hv
  obtain ⟨rfl, hK, hW, hsz⟩ := hv
  have hcm : ∀ v ∈ As.map (mx_cv G), v.category = 1 := by
    intro v hv
    obtain ⟨w, hw, rfl⟩ := List.mem_map.mp hv
    rw [mx_cv_cat]
    exact hc w hw
  have hl := lv_entry (As.map (mx_cv G)) (n := M.2.2.1) (by rw [mx_sl hcm]; simpa using hn)
  rw [lg_entry_eq]
  generalize (lg_sl (As.map (mx_cv G)) ++ List.replicate (M.2.2.1 - (lg_sl (As.map (mx_cv G))).length) Slot.unset).toArray = ls at hl ⊢
  have hts := atoms_spec (ws := mx_wsM M) B.pre
  refine k G p e s m _ below meth c s.heap [] ls ⟨B.exec, B.bytes, hml, B.returns, B.notSynchronized, (name_of_methodNamed B.named B.method).1, findClass_of_methodNamed B.named, fun w hw => hts w (List.mem_cons_of_mem _ hw), hK⟩ hsz hW va_S.rf ?_
  refine mx_lv_mono hl fun q hq => ?_
  obtain ⟨j, w⟩ := q
  obtain ⟨h1, h2⟩ := mx_la_mem.mp hq
  rw [mx_args hcm]
  refine List.mem_map.mpr ⟨(w, j), List.mk_mem_zipIdx_iff_getElem?.mpr ?_, rfl⟩
  rw [List.map_append] at h1
  by_cases hj : j < (As.map (mx_cv G)).length
  · rw [List.getElem?_append_left hj] at h1
    exact h1
  · rw [List.getElem?_append_right (by omega)] at h1
    simp only [List.map_replicate] at h1
    have h3 := List.mem_of_getElem? h1
    have h4 := List.eq_of_mem_replicate h3
    exact absurd h4 h2
end
