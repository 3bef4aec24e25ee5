-- ===== PART A: goes FIRST, ahead of the names: the tables' words, and 'selects' of the private methods out of them =====
/-- a private method of a class that the tables say can be made, by its rows of tables_1 -/
def lw_okq (q : MethodName × Nat) : Prop := (q.1.cls ≠ "java/lang/invoke/MethodHandle" ∧ q.1.cls ≠ "java/lang/invoke/VarHandle") ∧ Cond.instantiable q.1.cls q.2 ∈ tables_1 ∧ Cond.privateMethod q.1 ∈ tables_1 ∧ Cond.instanceMethod q.1 ∈ tables_1
theorem lw_p0 : lw_okq (⟨"FreckleChart", "settle", "(I)Z"⟩, 17) := ⟨⟨by decide +kernel, by decide +kernel⟩, List.mem_of_getElem? (i := 20) (by decide +kernel), List.mem_of_getElem? (i := 452) (by decide +kernel), List.mem_of_getElem? (i := 453) (by decide +kernel)⟩
theorem lw_p1 : lw_okq (⟨"FreckleChart", "tapeInt", "(I)V"⟩, 17) := ⟨⟨by decide +kernel, by decide +kernel⟩, List.mem_of_getElem? (i := 20) (by decide +kernel), List.mem_of_getElem? (i := 496) (by decide +kernel), List.mem_of_getElem? (i := 497) (by decide +kernel)⟩
theorem lw_p2 : lw_okq (⟨"FreckleChart", "refuse", "(I)I"⟩, 17) := ⟨⟨by decide +kernel, by decide +kernel⟩, List.mem_of_getElem? (i := 20) (by decide +kernel), List.mem_of_getElem? (i := 504) (by decide +kernel), List.mem_of_getElem? (i := 505) (by decide +kernel)⟩
theorem lw_p3 : lw_okq (⟨"FreckleChart$Reader", "readWord", "()V"⟩, 10) := ⟨⟨by decide +kernel, by decide +kernel⟩, List.mem_of_getElem? (i := 73) (by decide +kernel), List.mem_of_getElem? (i := 527) (by decide +kernel), List.mem_of_getElem? (i := 528) (by decide +kernel)⟩
theorem lw_p4 : lw_okq (⟨"FreckleChart$Reader", "readNumber", "()V"⟩, 10) := ⟨⟨by decide +kernel, by decide +kernel⟩, List.mem_of_getElem? (i := 73) (by decide +kernel), List.mem_of_getElem? (i := 531) (by decide +kernel), List.mem_of_getElem? (i := 532) (by decide +kernel)⟩
theorem lw_p5 : lw_okq (⟨"FreckleChart$Reader", "readSign", "()V"⟩, 10) := ⟨⟨by decide +kernel, by decide +kernel⟩, List.mem_of_getElem? (i := 73) (by decide +kernel), List.mem_of_getElem? (i := 535) (by decide +kernel), List.mem_of_getElem? (i := 536) (by decide +kernel)⟩
theorem lw_p6 : lw_okq (⟨"FreckleChart$CoastText", "takeSize", "(LFreckleChart$Coast;)Z"⟩, 3) := ⟨⟨by decide +kernel, by decide +kernel⟩, List.mem_of_getElem? (i := 67) (by decide +kernel), List.mem_of_getElem? (i := 593) (by decide +kernel), List.mem_of_getElem? (i := 594) (by decide +kernel)⟩
theorem lw_p7 : lw_okq (⟨"FreckleChart$CoastText", "takeOdds", "(LFreckleChart$Coast;)Z"⟩, 3) := ⟨⟨by decide +kernel, by decide +kernel⟩, List.mem_of_getElem? (i := 67) (by decide +kernel), List.mem_of_getElem? (i := 622) (by decide +kernel), List.mem_of_getElem? (i := 623) (by decide +kernel)⟩
theorem lw_p8 : lw_okq (⟨"FreckleChart$CoastText", "takeRock", "(LFreckleChart$Coast;)Z"⟩, 3) := ⟨⟨by decide +kernel, by decide +kernel⟩, List.mem_of_getElem? (i := 67) (by decide +kernel), List.mem_of_getElem? (i := 627) (by decide +kernel), List.mem_of_getElem? (i := 628) (by decide +kernel)⟩
theorem lw_p9 : lw_okq (⟨"FreckleChart$CoastText", "takeCousin", "(LFreckleChart$Coast;)Z"⟩, 3) := ⟨⟨by decide +kernel, by decide +kernel⟩, List.mem_of_getElem? (i := 67) (by decide +kernel), List.mem_of_getElem? (i := 641) (by decide +kernel), List.mem_of_getElem? (i := 642) (by decide +kernel)⟩
theorem lw_p10 : lw_okq (⟨"FreckleChart$CoastText", "takePatch", "(LFreckleChart$Coast;J)Z"⟩, 3) := ⟨⟨by decide +kernel, by decide +kernel⟩, List.mem_of_getElem? (i := 67) (by decide +kernel), List.mem_of_getElem? (i := 658) (by decide +kernel), List.mem_of_getElem? (i := 659) (by decide +kernel)⟩
theorem lw_p11 : lw_okq (⟨"FreckleChart$Coast", "patchFrom", "(III)I"⟩, 19) := ⟨⟨by decide +kernel, by decide +kernel⟩, List.mem_of_getElem? (i := 219) (by decide +kernel), List.mem_of_getElem? (i := 677) (by decide +kernel), List.mem_of_getElem? (i := 678) (by decide +kernel)⟩
theorem lw_p12 : lw_okq (⟨"FreckleChart$CoastText", "takeLooks", "(LFreckleChart$Coast;I)Z"⟩, 3) := ⟨⟨by decide +kernel, by decide +kernel⟩, List.mem_of_getElem? (i := 67) (by decide +kernel), List.mem_of_getElem? (i := 681) (by decide +kernel), List.mem_of_getElem? (i := 682) (by decide +kernel)⟩
theorem lw_p13 : lw_okq (⟨"FreckleChart$CoastText", "takeInk", "(LFreckleChart$Coast;I)Z"⟩, 3) := ⟨⟨by decide +kernel, by decide +kernel⟩, List.mem_of_getElem? (i := 67) (by decide +kernel), List.mem_of_getElem? (i := 701) (by decide +kernel), List.mem_of_getElem? (i := 702) (by decide +kernel)⟩
theorem lw_p14 : lw_okq (⟨"FreckleChart", "endText", "(LFreckleChart$Reader;)V"⟩, 17) := ⟨⟨by decide +kernel, by decide +kernel⟩, List.mem_of_getElem? (i := 20) (by decide +kernel), List.mem_of_getElem? (i := 721) (by decide +kernel), List.mem_of_getElem? (i := 722) (by decide +kernel)⟩
theorem lw_p15 : lw_okq (⟨"FreckleChart", "tell", "(I)I"⟩, 17) := ⟨⟨by decide +kernel, by decide +kernel⟩, List.mem_of_getElem? (i := 20) (by decide +kernel), List.mem_of_getElem? (i := 739) (by decide +kernel), List.mem_of_getElem? (i := 740) (by decide +kernel)⟩
def lw_privs_1 : List (MethodName × Nat) := [(⟨"FreckleChart", "settle", "(I)Z"⟩, 17), (⟨"FreckleChart", "tapeInt", "(I)V"⟩, 17), (⟨"FreckleChart", "refuse", "(I)I"⟩, 17), (⟨"FreckleChart$Reader", "readWord", "()V"⟩, 10), (⟨"FreckleChart$Reader", "readNumber", "()V"⟩, 10), (⟨"FreckleChart$Reader", "readSign", "()V"⟩, 10), (⟨"FreckleChart$CoastText", "takeSize", "(LFreckleChart$Coast;)Z"⟩, 3), (⟨"FreckleChart$CoastText", "takeOdds", "(LFreckleChart$Coast;)Z"⟩, 3), (⟨"FreckleChart$CoastText", "takeRock", "(LFreckleChart$Coast;)Z"⟩, 3), (⟨"FreckleChart$CoastText", "takeCousin", "(LFreckleChart$Coast;)Z"⟩, 3), (⟨"FreckleChart$CoastText", "takePatch", "(LFreckleChart$Coast;J)Z"⟩, 3), (⟨"FreckleChart$Coast", "patchFrom", "(III)I"⟩, 19), (⟨"FreckleChart$CoastText", "takeLooks", "(LFreckleChart$Coast;I)Z"⟩, 3), (⟨"FreckleChart$CoastText", "takeInk", "(LFreckleChart$Coast;I)Z"⟩, 3), (⟨"FreckleChart", "endText", "(LFreckleChart$Reader;)V"⟩, 17), (⟨"FreckleChart", "tell", "(I)I"⟩, 17)]
theorem lw_r1 : ∀ q ∈ lw_privs_1, lw_okq q := List.forall_mem_cons.mpr ⟨lw_p0, List.forall_mem_cons.mpr ⟨lw_p1, List.forall_mem_cons.mpr ⟨lw_p2, List.forall_mem_cons.mpr ⟨lw_p3, List.forall_mem_cons.mpr ⟨lw_p4, List.forall_mem_cons.mpr ⟨lw_p5, List.forall_mem_cons.mpr ⟨lw_p6, List.forall_mem_cons.mpr ⟨lw_p7, List.forall_mem_cons.mpr ⟨lw_p8, List.forall_mem_cons.mpr ⟨lw_p9, List.forall_mem_cons.mpr ⟨lw_p10, List.forall_mem_cons.mpr ⟨lw_p11, List.forall_mem_cons.mpr ⟨lw_p12, List.forall_mem_cons.mpr ⟨lw_p13, List.forall_mem_cons.mpr ⟨lw_p14, List.forall_mem_cons.mpr ⟨lw_p15, fun _ h => absurd h List.not_mem_nil⟩⟩⟩⟩⟩⟩⟩⟩⟩⟩⟩⟩⟩⟩⟩⟩
theorem lw_p16 : lw_okq (⟨"FreckleChart$YearsText", "takeEnd", "(LFreckleChart$Years;)Z"⟩, 3) := ⟨⟨by decide +kernel, by decide +kernel⟩, List.mem_of_getElem? (i := 131) (by decide +kernel), List.mem_of_getElem? (i := 755) (by decide +kernel), List.mem_of_getElem? (i := 756) (by decide +kernel)⟩
theorem lw_p17 : lw_okq (⟨"FreckleChart$YearsText", "kindOfStep", "()I"⟩, 3) := ⟨⟨by decide +kernel, by decide +kernel⟩, List.mem_of_getElem? (i := 131) (by decide +kernel), List.mem_of_getElem? (i := 773) (by decide +kernel), List.mem_of_getElem? (i := 774) (by decide +kernel)⟩
theorem lw_p18 : lw_okq (⟨"FreckleChart$YearsText", "lineForStep", "(LFreckleChart$Years;I)I"⟩, 3) := ⟨⟨by decide +kernel, by decide +kernel⟩, List.mem_of_getElem? (i := 131) (by decide +kernel), List.mem_of_getElem? (i := 788) (by decide +kernel), List.mem_of_getElem? (i := 789) (by decide +kernel)⟩
theorem lw_p19 : lw_okq (⟨"FreckleChart$YearsText", "takeTest", "(LFreckleChart$Coast;LFreckleChart$Years;I)Z"⟩, 3) := ⟨⟨by decide +kernel, by decide +kernel⟩, List.mem_of_getElem? (i := 131) (by decide +kernel), List.mem_of_getElem? (i := 793) (by decide +kernel), List.mem_of_getElem? (i := 794) (by decide +kernel)⟩
theorem lw_p20 : lw_okq (⟨"FreckleChart$YearsText", "takeCousin", "(LFreckleChart$Coast;LFreckleChart$Years;I)Z"⟩, 3) := ⟨⟨by decide +kernel, by decide +kernel⟩, List.mem_of_getElem? (i := 131) (by decide +kernel), List.mem_of_getElem? (i := 799) (by decide +kernel), List.mem_of_getElem? (i := 800) (by decide +kernel)⟩
theorem lw_p21 : lw_okq (⟨"FreckleChart$YearsText", "takeNumber", "([IIII)Z"⟩, 3) := ⟨⟨by decide +kernel, by decide +kernel⟩, List.mem_of_getElem? (i := 131) (by decide +kernel), List.mem_of_getElem? (i := 805) (by decide +kernel), List.mem_of_getElem? (i := 806) (by decide +kernel)⟩
theorem lw_p22 : lw_okq (⟨"FreckleChart$YearsText", "takeCompares", "(LFreckleChart$Years;I)Z"⟩, 3) := ⟨⟨by decide +kernel, by decide +kernel⟩, List.mem_of_getElem? (i := 131) (by decide +kernel), List.mem_of_getElem? (i := 811) (by decide +kernel), List.mem_of_getElem? (i := 812) (by decide +kernel)⟩
theorem lw_p23 : lw_okq (⟨"FreckleChart$YearsText", "takeNumbers", "(LFreckleChart$Coast;LFreckleChart$Years;I)Z"⟩, 3) := ⟨⟨by decide +kernel, by decide +kernel⟩, List.mem_of_getElem? (i := 131) (by decide +kernel), List.mem_of_getElem? (i := 816) (by decide +kernel), List.mem_of_getElem? (i := 817) (by decide +kernel)⟩
theorem lw_p24 : lw_okq (⟨"FreckleChart", "lookForWay", "(IIII)I"⟩, 17) := ⟨⟨by decide +kernel, by decide +kernel⟩, List.mem_of_getElem? (i := 20) (by decide +kernel), List.mem_of_getElem? (i := 915) (by decide +kernel), List.mem_of_getElem? (i := 916) (by decide +kernel)⟩
theorem lw_p25 : lw_okq (⟨"FreckleChart", "lookAtVoyage", "(IIII)I"⟩, 17) := ⟨⟨by decide +kernel, by decide +kernel⟩, List.mem_of_getElem? (i := 20) (by decide +kernel), List.mem_of_getElem? (i := 919) (by decide +kernel), List.mem_of_getElem? (i := 920) (by decide +kernel)⟩
theorem lw_p26 : lw_okq (⟨"FreckleChart$Pilot", "lookAtEdges", "(LFreckleChart$Coast;)V"⟩, 6) := ⟨⟨by decide +kernel, by decide +kernel⟩, List.mem_of_getElem? (i := 150) (by decide +kernel), List.mem_of_getElem? (i := 949) (by decide +kernel), List.mem_of_getElem? (i := 950) (by decide +kernel)⟩
theorem lw_p27 : lw_okq (⟨"FreckleChart$Pilot", "spreadRings", "(III)I"⟩, 6) := ⟨⟨by decide +kernel, by decide +kernel⟩, List.mem_of_getElem? (i := 150) (by decide +kernel), List.mem_of_getElem? (i := 953) (by decide +kernel), List.mem_of_getElem? (i := 954) (by decide +kernel)⟩
theorem lw_p28 : lw_okq (⟨"FreckleChart$Pilot", "beside", "(I)I"⟩, 6) := ⟨⟨by decide +kernel, by decide +kernel⟩, List.mem_of_getElem? (i := 150) (by decide +kernel), List.mem_of_getElem? (i := 957) (by decide +kernel), List.mem_of_getElem? (i := 958) (by decide +kernel)⟩
theorem lw_p29 : lw_okq (⟨"FreckleChart$Pilot", "goAlong", "(II)V"⟩, 6) := ⟨⟨by decide +kernel, by decide +kernel⟩, List.mem_of_getElem? (i := 150) (by decide +kernel), List.mem_of_getElem? (i := 961) (by decide +kernel), List.mem_of_getElem? (i := 962) (by decide +kernel)⟩
theorem lw_p30 : lw_okq (⟨"FreckleChart", "findFewest", "(III)I"⟩, 17) := ⟨⟨by decide +kernel, by decide +kernel⟩, List.mem_of_getElem? (i := 20) (by decide +kernel), List.mem_of_getElem? (i := 1019) (by decide +kernel), List.mem_of_getElem? (i := 1020) (by decide +kernel)⟩
theorem lw_p31 : lw_okq (⟨"FreckleChart", "findCover", "()I"⟩, 17) := ⟨⟨by decide +kernel, by decide +kernel⟩, List.mem_of_getElem? (i := 20) (by decide +kernel), List.mem_of_getElem? (i := 1055) (by decide +kernel), List.mem_of_getElem? (i := 1056) (by decide +kernel)⟩
def lw_privs_2 : List (MethodName × Nat) := [(⟨"FreckleChart$YearsText", "takeEnd", "(LFreckleChart$Years;)Z"⟩, 3), (⟨"FreckleChart$YearsText", "kindOfStep", "()I"⟩, 3), (⟨"FreckleChart$YearsText", "lineForStep", "(LFreckleChart$Years;I)I"⟩, 3), (⟨"FreckleChart$YearsText", "takeTest", "(LFreckleChart$Coast;LFreckleChart$Years;I)Z"⟩, 3), (⟨"FreckleChart$YearsText", "takeCousin", "(LFreckleChart$Coast;LFreckleChart$Years;I)Z"⟩, 3), (⟨"FreckleChart$YearsText", "takeNumber", "([IIII)Z"⟩, 3), (⟨"FreckleChart$YearsText", "takeCompares", "(LFreckleChart$Years;I)Z"⟩, 3), (⟨"FreckleChart$YearsText", "takeNumbers", "(LFreckleChart$Coast;LFreckleChart$Years;I)Z"⟩, 3), (⟨"FreckleChart", "lookForWay", "(IIII)I"⟩, 17), (⟨"FreckleChart", "lookAtVoyage", "(IIII)I"⟩, 17), (⟨"FreckleChart$Pilot", "lookAtEdges", "(LFreckleChart$Coast;)V"⟩, 6), (⟨"FreckleChart$Pilot", "spreadRings", "(III)I"⟩, 6), (⟨"FreckleChart$Pilot", "beside", "(I)I"⟩, 6), (⟨"FreckleChart$Pilot", "goAlong", "(II)V"⟩, 6), (⟨"FreckleChart", "findFewest", "(III)I"⟩, 17), (⟨"FreckleChart", "findCover", "()I"⟩, 17)]
theorem lw_r2 : ∀ q ∈ lw_privs_2, lw_okq q := List.forall_mem_cons.mpr ⟨lw_p16, List.forall_mem_cons.mpr ⟨lw_p17, List.forall_mem_cons.mpr ⟨lw_p18, List.forall_mem_cons.mpr ⟨lw_p19, List.forall_mem_cons.mpr ⟨lw_p20, List.forall_mem_cons.mpr ⟨lw_p21, List.forall_mem_cons.mpr ⟨lw_p22, List.forall_mem_cons.mpr ⟨lw_p23, List.forall_mem_cons.mpr ⟨lw_p24, List.forall_mem_cons.mpr ⟨lw_p25, List.forall_mem_cons.mpr ⟨lw_p26, List.forall_mem_cons.mpr ⟨lw_p27, List.forall_mem_cons.mpr ⟨lw_p28, List.forall_mem_cons.mpr ⟨lw_p29, List.forall_mem_cons.mpr ⟨lw_p30, List.forall_mem_cons.mpr ⟨lw_p31, fun _ h => absurd h List.not_mem_nil⟩⟩⟩⟩⟩⟩⟩⟩⟩⟩⟩⟩⟩⟩⟩⟩
theorem lw_p32 : lw_okq (⟨"FreckleChart", "lookAtSeen", "(IIII)I"⟩, 17) := ⟨⟨by decide +kernel, by decide +kernel⟩, List.mem_of_getElem? (i := 20) (by decide +kernel), List.mem_of_getElem? (i := 1068) (by decide +kernel), List.mem_of_getElem? (i := 1069) (by decide +kernel)⟩
theorem lw_p33 : lw_okq (⟨"FreckleChart$Fraction", "countWays", "(II)V"⟩, 3) := ⟨⟨by decide +kernel, by decide +kernel⟩, List.mem_of_getElem? (i := 28) (by decide +kernel), List.mem_of_getElem? (i := 1131) (by decide +kernel), List.mem_of_getElem? (i := 1132) (by decide +kernel)⟩
theorem lw_p34 : lw_okq (⟨"FreckleChart$Living", "lineBehindEnd", "(LFreckleChart$Years;I)I"⟩, 9) := ⟨⟨by decide +kernel, by decide +kernel⟩, List.mem_of_getElem? (i := 177) (by decide +kernel), List.mem_of_getElem? (i := 1162) (by decide +kernel), List.mem_of_getElem? (i := 1163) (by decide +kernel)⟩
theorem lw_p35 : lw_okq (⟨"FreckleChart$Living", "isDone", "(LFreckleChart$Coast;I)Z"⟩, 9) := ⟨⟨by decide +kernel, by decide +kernel⟩, List.mem_of_getElem? (i := 177) (by decide +kernel), List.mem_of_getElem? (i := 1166) (by decide +kernel), List.mem_of_getElem? (i := 1167) (by decide +kernel)⟩
theorem lw_p36 : lw_okq (⟨"FreckleChart$Living", "isDarkened", "(LFreckleChart$Coast;II)Z"⟩, 9) := ⟨⟨by decide +kernel, by decide +kernel⟩, List.mem_of_getElem? (i := 177) (by decide +kernel), List.mem_of_getElem? (i := 1170) (by decide +kernel), List.mem_of_getElem? (i := 1171) (by decide +kernel)⟩
theorem lw_p37 : lw_okq (⟨"FreckleChart$Living", "isSailed", "(LFreckleChart$Coast;I)Z"⟩, 9) := ⟨⟨by decide +kernel, by decide +kernel⟩, List.mem_of_getElem? (i := 177) (by decide +kernel), List.mem_of_getElem? (i := 1179) (by decide +kernel), List.mem_of_getElem? (i := 1180) (by decide +kernel)⟩
theorem lw_p38 : lw_okq (⟨"FreckleChart$Living", "isDrawnAndDone", "(LFreckleChart$Coast;)Z"⟩, 9) := ⟨⟨by decide +kernel, by decide +kernel⟩, List.mem_of_getElem? (i := 177) (by decide +kernel), List.mem_of_getElem? (i := 1187) (by decide +kernel), List.mem_of_getElem? (i := 1188) (by decide +kernel)⟩
theorem lw_p39 : lw_okq (⟨"FreckleChart$Living", "draw", "(I)I"⟩, 9) := ⟨⟨by decide +kernel, by decide +kernel⟩, List.mem_of_getElem? (i := 177) (by decide +kernel), List.mem_of_getElem? (i := 1191) (by decide +kernel), List.mem_of_getElem? (i := 1192) (by decide +kernel)⟩
theorem lw_p40 : lw_okq (⟨"FreckleChart$Living", "lineBehindStep", "(LFreckleChart$Coast;I)I"⟩, 9) := ⟨⟨by decide +kernel, by decide +kernel⟩, List.mem_of_getElem? (i := 177) (by decide +kernel), List.mem_of_getElem? (i := 1197) (by decide +kernel), List.mem_of_getElem? (i := 1198) (by decide +kernel)⟩
theorem lw_p41 : lw_okq (⟨"FreckleChartModel", "empties", "(I)V"⟩, 41) := ⟨⟨by decide +kernel, by decide +kernel⟩, List.mem_of_getElem? (i := 1228) (by decide +kernel), List.mem_of_getElem? (i := 1234) (by decide +kernel), List.mem_of_getElem? (i := 1235) (by decide +kernel)⟩
theorem lw_p42 : lw_okq (⟨"FreckleChartModel", "no", "(I)Z"⟩, 41) := ⟨⟨by decide +kernel, by decide +kernel⟩, List.mem_of_getElem? (i := 1228) (by decide +kernel), List.mem_of_getElem? (i := 1378) (by decide +kernel), List.mem_of_getElem? (i := 1379) (by decide +kernel)⟩
theorem lw_p43 : lw_okq (⟨"FreckleChartModel", "placed", "(II)I"⟩, 41) := ⟨⟨by decide +kernel, by decide +kernel⟩, List.mem_of_getElem? (i := 1228) (by decide +kernel), List.mem_of_getElem? (i := 1386) (by decide +kernel), List.mem_of_getElem? (i := 1387) (by decide +kernel)⟩
theorem lw_p44 : lw_okq (⟨"FreckleChartModel", "trayed", "(I)I"⟩, 41) := ⟨⟨by decide +kernel, by decide +kernel⟩, List.mem_of_getElem? (i := 1228) (by decide +kernel), List.mem_of_getElem? (i := 1390) (by decide +kernel), List.mem_of_getElem? (i := 1391) (by decide +kernel)⟩
theorem lw_p45 : lw_okq (⟨"FreckleChartModel", "lay", "(I)V"⟩, 41) := ⟨⟨by decide +kernel, by decide +kernel⟩, List.mem_of_getElem? (i := 1228) (by decide +kernel), List.mem_of_getElem? (i := 1410) (by decide +kernel), List.mem_of_getElem? (i := 1411) (by decide +kernel)⟩
theorem lw_p46 : lw_okq (⟨"FreckleChartModel", "starts", "(II)Z"⟩, 41) := ⟨⟨by decide +kernel, by decide +kernel⟩, List.mem_of_getElem? (i := 1228) (by decide +kernel), List.mem_of_getElem? (i := 1422) (by decide +kernel), List.mem_of_getElem? (i := 1423) (by decide +kernel)⟩
theorem lw_p47 : lw_okq (⟨"FreckleChartModel", "advance", "()V"⟩, 41) := ⟨⟨by decide +kernel, by decide +kernel⟩, List.mem_of_getElem? (i := 1228) (by decide +kernel), List.mem_of_getElem? (i := 1426) (by decide +kernel), List.mem_of_getElem? (i := 1427) (by decide +kernel)⟩
def lw_privs_3 : List (MethodName × Nat) := [(⟨"FreckleChart", "lookAtSeen", "(IIII)I"⟩, 17), (⟨"FreckleChart$Fraction", "countWays", "(II)V"⟩, 3), (⟨"FreckleChart$Living", "lineBehindEnd", "(LFreckleChart$Years;I)I"⟩, 9), (⟨"FreckleChart$Living", "isDone", "(LFreckleChart$Coast;I)Z"⟩, 9), (⟨"FreckleChart$Living", "isDarkened", "(LFreckleChart$Coast;II)Z"⟩, 9), (⟨"FreckleChart$Living", "isSailed", "(LFreckleChart$Coast;I)Z"⟩, 9), (⟨"FreckleChart$Living", "isDrawnAndDone", "(LFreckleChart$Coast;)Z"⟩, 9), (⟨"FreckleChart$Living", "draw", "(I)I"⟩, 9), (⟨"FreckleChart$Living", "lineBehindStep", "(LFreckleChart$Coast;I)I"⟩, 9), (⟨"FreckleChartModel", "empties", "(I)V"⟩, 41), (⟨"FreckleChartModel", "no", "(I)Z"⟩, 41), (⟨"FreckleChartModel", "placed", "(II)I"⟩, 41), (⟨"FreckleChartModel", "trayed", "(I)I"⟩, 41), (⟨"FreckleChartModel", "lay", "(I)V"⟩, 41), (⟨"FreckleChartModel", "starts", "(II)Z"⟩, 41), (⟨"FreckleChartModel", "advance", "()V"⟩, 41)]
theorem lw_r3 : ∀ q ∈ lw_privs_3, lw_okq q := List.forall_mem_cons.mpr ⟨lw_p32, List.forall_mem_cons.mpr ⟨lw_p33, List.forall_mem_cons.mpr ⟨lw_p34, List.forall_mem_cons.mpr ⟨lw_p35, List.forall_mem_cons.mpr ⟨lw_p36, List.forall_mem_cons.mpr ⟨lw_p37, List.forall_mem_cons.mpr ⟨lw_p38, List.forall_mem_cons.mpr ⟨lw_p39, List.forall_mem_cons.mpr ⟨lw_p40, List.forall_mem_cons.mpr ⟨lw_p41, List.forall_mem_cons.mpr ⟨lw_p42, List.forall_mem_cons.mpr ⟨lw_p43, List.forall_mem_cons.mpr ⟨lw_p44, List.forall_mem_cons.mpr ⟨lw_p45, List.forall_mem_cons.mpr ⟨lw_p46, List.forall_mem_cons.mpr ⟨lw_p47, fun _ h => absurd h List.not_mem_nil⟩⟩⟩⟩⟩⟩⟩⟩⟩⟩⟩⟩⟩⟩⟩⟩
theorem lw_p48 : lw_okq (⟨"FreckleChartModel", "look2", "(I)I"⟩, 41) := ⟨⟨by decide +kernel, by decide +kernel⟩, List.mem_of_getElem? (i := 1228) (by decide +kernel), List.mem_of_getElem? (i := 1430) (by decide +kernel), List.mem_of_getElem? (i := 1431) (by decide +kernel)⟩
theorem lw_p49 : lw_okq (⟨"FreckleChartModel", "isSignByte", "(I)Z"⟩, 41) := ⟨⟨by decide +kernel, by decide +kernel⟩, List.mem_of_getElem? (i := 1228) (by decide +kernel), List.mem_of_getElem? (i := 1442) (by decide +kernel), List.mem_of_getElem? (i := 1443) (by decide +kernel)⟩
theorem lw_p50 : lw_okq (⟨"FreckleChartModel", "readPart", "()V"⟩, 41) := ⟨⟨by decide +kernel, by decide +kernel⟩, List.mem_of_getElem? (i := 1228) (by decide +kernel), List.mem_of_getElem? (i := 1446) (by decide +kernel), List.mem_of_getElem? (i := 1447) (by decide +kernel)⟩
theorem lw_p51 : lw_okq (⟨"FreckleChartModel", "isCoast", "()Z"⟩, 41) := ⟨⟨by decide +kernel, by decide +kernel⟩, List.mem_of_getElem? (i := 1228) (by decide +kernel), List.mem_of_getElem? (i := 1450) (by decide +kernel), List.mem_of_getElem? (i := 1451) (by decide +kernel)⟩
theorem lw_p52 : lw_okq (⟨"FreckleChartModel", "isWord", "(J)Z"⟩, 41) := ⟨⟨by decide +kernel, by decide +kernel⟩, List.mem_of_getElem? (i := 1228) (by decide +kernel), List.mem_of_getElem? (i := 1457) (by decide +kernel), List.mem_of_getElem? (i := 1458) (by decide +kernel)⟩
theorem lw_p53 : lw_okq (⟨"FreckleChartModel", "readCoast", "()V"⟩, 41) := ⟨⟨by decide +kernel, by decide +kernel⟩, List.mem_of_getElem? (i := 1228) (by decide +kernel), List.mem_of_getElem? (i := 1461) (by decide +kernel), List.mem_of_getElem? (i := 1462) (by decide +kernel)⟩
theorem lw_p54 : lw_okq (⟨"FreckleChartModel", "fail", "(II)V"⟩, 41) := ⟨⟨by decide +kernel, by decide +kernel⟩, List.mem_of_getElem? (i := 1228) (by decide +kernel), List.mem_of_getElem? (i := 1465) (by decide +kernel), List.mem_of_getElem? (i := 1466) (by decide +kernel)⟩
theorem lw_p55 : lw_okq (⟨"FreckleChartModel", "count", "(II)I"⟩, 41) := ⟨⟨by decide +kernel, by decide +kernel⟩, List.mem_of_getElem? (i := 1228) (by decide +kernel), List.mem_of_getElem? (i := 1469) (by decide +kernel), List.mem_of_getElem? (i := 1470) (by decide +kernel)⟩
theorem lw_p56 : lw_okq (⟨"FreckleChartModel", "stands", "(II)I"⟩, 41) := ⟨⟨by decide +kernel, by decide +kernel⟩, List.mem_of_getElem? (i := 1228) (by decide +kernel), List.mem_of_getElem? (i := 1473) (by decide +kernel), List.mem_of_getElem? (i := 1474) (by decide +kernel)⟩
theorem lw_p57 : lw_okq (⟨"FreckleChartModel", "amiss", "()V"⟩, 41) := ⟨⟨by decide +kernel, by decide +kernel⟩, List.mem_of_getElem? (i := 1228) (by decide +kernel), List.mem_of_getElem? (i := 1477) (by decide +kernel), List.mem_of_getElem? (i := 1478) (by decide +kernel)⟩
theorem lw_p58 : lw_okq (⟨"FreckleChartModel", "must", "(Z)V"⟩, 41) := ⟨⟨by decide +kernel, by decide +kernel⟩, List.mem_of_getElem? (i := 1228) (by decide +kernel), List.mem_of_getElem? (i := 1484) (by decide +kernel), List.mem_of_getElem? (i := 1485) (by decide +kernel)⟩
theorem lw_p59 : lw_okq (⟨"FreckleChartModel", "isBy", "()Z"⟩, 41) := ⟨⟨by decide +kernel, by decide +kernel⟩, List.mem_of_getElem? (i := 1228) (by decide +kernel), List.mem_of_getElem? (i := 1488) (by decide +kernel), List.mem_of_getElem? (i := 1489) (by decide +kernel)⟩
theorem lw_p60 : lw_okq (⟨"FreckleChartModel", "behindWord", "(ZII)I"⟩, 41) := ⟨⟨by decide +kernel, by decide +kernel⟩, List.mem_of_getElem? (i := 1228) (by decide +kernel), List.mem_of_getElem? (i := 1492) (by decide +kernel), List.mem_of_getElem? (i := 1493) (by decide +kernel)⟩
theorem lw_p61 : lw_okq (⟨"FreckleChartModel", "isOdds", "()Z"⟩, 41) := ⟨⟨by decide +kernel, by decide +kernel⟩, List.mem_of_getElem? (i := 1228) (by decide +kernel), List.mem_of_getElem? (i := 1496) (by decide +kernel), List.mem_of_getElem? (i := 1497) (by decide +kernel)⟩
theorem lw_p62 : lw_okq (⟨"FreckleChartModel", "readOdds", "()V"⟩, 41) := ⟨⟨by decide +kernel, by decide +kernel⟩, List.mem_of_getElem? (i := 1228) (by decide +kernel), List.mem_of_getElem? (i := 1500) (by decide +kernel), List.mem_of_getElem? (i := 1501) (by decide +kernel)⟩
theorem lw_p63 : lw_okq (⟨"FreckleChartModel", "isRock", "()Z"⟩, 41) := ⟨⟨by decide +kernel, by decide +kernel⟩, List.mem_of_getElem? (i := 1228) (by decide +kernel), List.mem_of_getElem? (i := 1504) (by decide +kernel), List.mem_of_getElem? (i := 1505) (by decide +kernel)⟩
def lw_privs_4 : List (MethodName × Nat) := [(⟨"FreckleChartModel", "look2", "(I)I"⟩, 41), (⟨"FreckleChartModel", "isSignByte", "(I)Z"⟩, 41), (⟨"FreckleChartModel", "readPart", "()V"⟩, 41), (⟨"FreckleChartModel", "isCoast", "()Z"⟩, 41), (⟨"FreckleChartModel", "isWord", "(J)Z"⟩, 41), (⟨"FreckleChartModel", "readCoast", "()V"⟩, 41), (⟨"FreckleChartModel", "fail", "(II)V"⟩, 41), (⟨"FreckleChartModel", "count", "(II)I"⟩, 41), (⟨"FreckleChartModel", "stands", "(II)I"⟩, 41), (⟨"FreckleChartModel", "amiss", "()V"⟩, 41), (⟨"FreckleChartModel", "must", "(Z)V"⟩, 41), (⟨"FreckleChartModel", "isBy", "()Z"⟩, 41), (⟨"FreckleChartModel", "behindWord", "(ZII)I"⟩, 41), (⟨"FreckleChartModel", "isOdds", "()Z"⟩, 41), (⟨"FreckleChartModel", "readOdds", "()V"⟩, 41), (⟨"FreckleChartModel", "isRock", "()Z"⟩, 41)]
theorem lw_r4 : ∀ q ∈ lw_privs_4, lw_okq q := List.forall_mem_cons.mpr ⟨lw_p48, List.forall_mem_cons.mpr ⟨lw_p49, List.forall_mem_cons.mpr ⟨lw_p50, List.forall_mem_cons.mpr ⟨lw_p51, List.forall_mem_cons.mpr ⟨lw_p52, List.forall_mem_cons.mpr ⟨lw_p53, List.forall_mem_cons.mpr ⟨lw_p54, List.forall_mem_cons.mpr ⟨lw_p55, List.forall_mem_cons.mpr ⟨lw_p56, List.forall_mem_cons.mpr ⟨lw_p57, List.forall_mem_cons.mpr ⟨lw_p58, List.forall_mem_cons.mpr ⟨lw_p59, List.forall_mem_cons.mpr ⟨lw_p60, List.forall_mem_cons.mpr ⟨lw_p61, List.forall_mem_cons.mpr ⟨lw_p62, List.forall_mem_cons.mpr ⟨lw_p63, fun _ h => absurd h List.not_mem_nil⟩⟩⟩⟩⟩⟩⟩⟩⟩⟩⟩⟩⟩⟩⟩⟩
theorem lw_p64 : lw_okq (⟨"FreckleChartModel", "readRock", "()V"⟩, 41) := ⟨⟨by decide +kernel, by decide +kernel⟩, List.mem_of_getElem? (i := 1228) (by decide +kernel), List.mem_of_getElem? (i := 1508) (by decide +kernel), List.mem_of_getElem? (i := 1509) (by decide +kernel)⟩
theorem lw_p65 : lw_okq (⟨"FreckleChartModel", "rockIn", "(II)I"⟩, 41) := ⟨⟨by decide +kernel, by decide +kernel⟩, List.mem_of_getElem? (i := 1228) (by decide +kernel), List.mem_of_getElem? (i := 1512) (by decide +kernel), List.mem_of_getElem? (i := 1513) (by decide +kernel)⟩
theorem lw_p66 : lw_okq (⟨"FreckleChartModel", "isDeep", "()Z"⟩, 41) := ⟨⟨by decide +kernel, by decide +kernel⟩, List.mem_of_getElem? (i := 1228) (by decide +kernel), List.mem_of_getElem? (i := 1516) (by decide +kernel), List.mem_of_getElem? (i := 1517) (by decide +kernel)⟩
theorem lw_p67 : lw_okq (⟨"FreckleChartModel", "wrecks", "(III)V"⟩, 41) := ⟨⟨by decide +kernel, by decide +kernel⟩, List.mem_of_getElem? (i := 1228) (by decide +kernel), List.mem_of_getElem? (i := 1520) (by decide +kernel), List.mem_of_getElem? (i := 1521) (by decide +kernel)⟩
theorem lw_p68 : lw_okq (⟨"FreckleChartModel", "isCousin", "()Z"⟩, 41) := ⟨⟨by decide +kernel, by decide +kernel⟩, List.mem_of_getElem? (i := 1228) (by decide +kernel), List.mem_of_getElem? (i := 1524) (by decide +kernel), List.mem_of_getElem? (i := 1525) (by decide +kernel)⟩
theorem lw_p69 : lw_okq (⟨"FreckleChartModel", "readCousin", "()V"⟩, 41) := ⟨⟨by decide +kernel, by decide +kernel⟩, List.mem_of_getElem? (i := 1228) (by decide +kernel), List.mem_of_getElem? (i := 1528) (by decide +kernel), List.mem_of_getElem? (i := 1529) (by decide +kernel)⟩
theorem lw_p70 : lw_okq (⟨"FreckleChartModel", "isName", "()Z"⟩, 41) := ⟨⟨by decide +kernel, by decide +kernel⟩, List.mem_of_getElem? (i := 1228) (by decide +kernel), List.mem_of_getElem? (i := 1532) (by decide +kernel), List.mem_of_getElem? (i := 1533) (by decide +kernel)⟩
theorem lw_p71 : lw_okq (⟨"FreckleChartModel", "isKept", "()Z"⟩, 41) := ⟨⟨by decide +kernel, by decide +kernel⟩, List.mem_of_getElem? (i := 1228) (by decide +kernel), List.mem_of_getElem? (i := 1536) (by decide +kernel), List.mem_of_getElem? (i := 1537) (by decide +kernel)⟩
theorem lw_p72 : lw_okq (⟨"FreckleChartModel", "isAt", "()Z"⟩, 41) := ⟨⟨by decide +kernel, by decide +kernel⟩, List.mem_of_getElem? (i := 1228) (by decide +kernel), List.mem_of_getElem? (i := 1540) (by decide +kernel), List.mem_of_getElem? (i := 1541) (by decide +kernel)⟩
theorem lw_p73 : lw_okq (⟨"FreckleChartModel", "isWide", "()Z"⟩, 41) := ⟨⟨by decide +kernel, by decide +kernel⟩, List.mem_of_getElem? (i := 1228) (by decide +kernel), List.mem_of_getElem? (i := 1544) (by decide +kernel), List.mem_of_getElem? (i := 1545) (by decide +kernel)⟩
theorem lw_p74 : lw_okq (⟨"FreckleChartModel", "isHigh", "()Z"⟩, 41) := ⟨⟨by decide +kernel, by decide +kernel⟩, List.mem_of_getElem? (i := 1228) (by decide +kernel), List.mem_of_getElem? (i := 1548) (by decide +kernel), List.mem_of_getElem? (i := 1549) (by decide +kernel)⟩
theorem lw_p75 : lw_okq (⟨"FreckleChartModel", "isInked", "()Z"⟩, 41) := ⟨⟨by decide +kernel, by decide +kernel⟩, List.mem_of_getElem? (i := 1228) (by decide +kernel), List.mem_of_getElem? (i := 1552) (by decide +kernel), List.mem_of_getElem? (i := 1553) (by decide +kernel)⟩
theorem lw_p76 : lw_okq (⟨"FreckleChartModel", "stepWord", "()I"⟩, 41) := ⟨⟨by decide +kernel, by decide +kernel⟩, List.mem_of_getElem? (i := 1228) (by decide +kernel), List.mem_of_getElem? (i := 1556) (by decide +kernel), List.mem_of_getElem? (i := 1557) (by decide +kernel)⟩
theorem lw_p77 : lw_okq (⟨"FreckleChartModel", "testWord", "()I"⟩, 41) := ⟨⟨by decide +kernel, by decide +kernel⟩, List.mem_of_getElem? (i := 1228) (by decide +kernel), List.mem_of_getElem? (i := 1560) (by decide +kernel), List.mem_of_getElem? (i := 1561) (by decide +kernel)⟩
theorem lw_p78 : lw_okq (⟨"FreckleChartModel", "isTan", "()Z"⟩, 41) := ⟨⟨by decide +kernel, by decide +kernel⟩, List.mem_of_getElem? (i := 1228) (by decide +kernel), List.mem_of_getElem? (i := 1564) (by decide +kernel), List.mem_of_getElem? (i := 1565) (by decide +kernel)⟩
theorem lw_p79 : lw_okq (⟨"FreckleChartModel", "isVeiled", "()Z"⟩, 41) := ⟨⟨by decide +kernel, by decide +kernel⟩, List.mem_of_getElem? (i := 1228) (by decide +kernel), List.mem_of_getElem? (i := 1568) (by decide +kernel), List.mem_of_getElem? (i := 1569) (by decide +kernel)⟩
def lw_privs_5 : List (MethodName × Nat) := [(⟨"FreckleChartModel", "readRock", "()V"⟩, 41), (⟨"FreckleChartModel", "rockIn", "(II)I"⟩, 41), (⟨"FreckleChartModel", "isDeep", "()Z"⟩, 41), (⟨"FreckleChartModel", "wrecks", "(III)V"⟩, 41), (⟨"FreckleChartModel", "isCousin", "()Z"⟩, 41), (⟨"FreckleChartModel", "readCousin", "()V"⟩, 41), (⟨"FreckleChartModel", "isName", "()Z"⟩, 41), (⟨"FreckleChartModel", "isKept", "()Z"⟩, 41), (⟨"FreckleChartModel", "isAt", "()Z"⟩, 41), (⟨"FreckleChartModel", "isWide", "()Z"⟩, 41), (⟨"FreckleChartModel", "isHigh", "()Z"⟩, 41), (⟨"FreckleChartModel", "isInked", "()Z"⟩, 41), (⟨"FreckleChartModel", "stepWord", "()I"⟩, 41), (⟨"FreckleChartModel", "testWord", "()I"⟩, 41), (⟨"FreckleChartModel", "isTan", "()Z"⟩, 41), (⟨"FreckleChartModel", "isVeiled", "()Z"⟩, 41)]
theorem lw_r5 : ∀ q ∈ lw_privs_5, lw_okq q := List.forall_mem_cons.mpr ⟨lw_p64, List.forall_mem_cons.mpr ⟨lw_p65, List.forall_mem_cons.mpr ⟨lw_p66, List.forall_mem_cons.mpr ⟨lw_p67, List.forall_mem_cons.mpr ⟨lw_p68, List.forall_mem_cons.mpr ⟨lw_p69, List.forall_mem_cons.mpr ⟨lw_p70, List.forall_mem_cons.mpr ⟨lw_p71, List.forall_mem_cons.mpr ⟨lw_p72, List.forall_mem_cons.mpr ⟨lw_p73, List.forall_mem_cons.mpr ⟨lw_p74, List.forall_mem_cons.mpr ⟨lw_p75, List.forall_mem_cons.mpr ⟨lw_p76, List.forall_mem_cons.mpr ⟨lw_p77, List.forall_mem_cons.mpr ⟨lw_p78, List.forall_mem_cons.mpr ⟨lw_p79, fun _ h => absurd h List.not_mem_nil⟩⟩⟩⟩⟩⟩⟩⟩⟩⟩⟩⟩⟩⟩⟩⟩
theorem lw_p80 : lw_okq (⟨"FreckleChartModel", "isEnd", "()Z"⟩, 41) := ⟨⟨by decide +kernel, by decide +kernel⟩, List.mem_of_getElem? (i := 1228) (by decide +kernel), List.mem_of_getElem? (i := 1572) (by decide +kernel), List.mem_of_getElem? (i := 1573) (by decide +kernel)⟩
theorem lw_p81 : lw_okq (⟨"FreckleChartModel", "named", "(I)I"⟩, 41) := ⟨⟨by decide +kernel, by decide +kernel⟩, List.mem_of_getElem? (i := 1228) (by decide +kernel), List.mem_of_getElem? (i := 1576) (by decide +kernel), List.mem_of_getElem? (i := 1577) (by decide +kernel)⟩
theorem lw_p82 : lw_okq (⟨"FreckleChartModel", "comes", "(IIII)V"⟩, 41) := ⟨⟨by decide +kernel, by decide +kernel⟩, List.mem_of_getElem? (i := 1228) (by decide +kernel), List.mem_of_getElem? (i := 1580) (by decide +kernel), List.mem_of_getElem? (i := 1581) (by decide +kernel)⟩
theorem lw_p83 : lw_okq (⟨"FreckleChartModel", "perhaps", "(Z)Z"⟩, 41) := ⟨⟨by decide +kernel, by decide +kernel⟩, List.mem_of_getElem? (i := 1228) (by decide +kernel), List.mem_of_getElem? (i := 1584) (by decide +kernel), List.mem_of_getElem? (i := 1585) (by decide +kernel)⟩
theorem lw_p84 : lw_okq (⟨"FreckleChartModel", "readInked", "(I)V"⟩, 41) := ⟨⟨by decide +kernel, by decide +kernel⟩, List.mem_of_getElem? (i := 1228) (by decide +kernel), List.mem_of_getElem? (i := 1588) (by decide +kernel), List.mem_of_getElem? (i := 1589) (by decide +kernel)⟩
theorem lw_p85 : lw_okq (⟨"FreckleChartModel", "isOfPatch", "(III)Z"⟩, 41) := ⟨⟨by decide +kernel, by decide +kernel⟩, List.mem_of_getElem? (i := 1228) (by decide +kernel), List.mem_of_getElem? (i := 1592) (by decide +kernel), List.mem_of_getElem? (i := 1593) (by decide +kernel)⟩
theorem lw_p86 : lw_okq (⟨"FreckleChartModel", "isSign", "(I)Z"⟩, 41) := ⟨⟨by decide +kernel, by decide +kernel⟩, List.mem_of_getElem? (i := 1228) (by decide +kernel), List.mem_of_getElem? (i := 1599) (by decide +kernel), List.mem_of_getElem? (i := 1600) (by decide +kernel)⟩
theorem lw_p87 : lw_okq (⟨"FreckleChartModel", "isWell", "()Z"⟩, 41) := ⟨⟨by decide +kernel, by decide +kernel⟩, List.mem_of_getElem? (i := 1228) (by decide +kernel), List.mem_of_getElem? (i := 1603) (by decide +kernel), List.mem_of_getElem? (i := 1604) (by decide +kernel)⟩
theorem lw_p88 : lw_okq (⟨"FreckleChartModel", "copy", "(II)V"⟩, 41) := ⟨⟨by decide +kernel, by decide +kernel⟩, List.mem_of_getElem? (i := 1228) (by decide +kernel), List.mem_of_getElem? (i := 1607) (by decide +kernel), List.mem_of_getElem? (i := 1608) (by decide +kernel)⟩
theorem lw_p89 : lw_okq (⟨"FreckleChartModel", "readStep", "(I)V"⟩, 41) := ⟨⟨by decide +kernel, by decide +kernel⟩, List.mem_of_getElem? (i := 1228) (by decide +kernel), List.mem_of_getElem? (i := 1615) (by decide +kernel), List.mem_of_getElem? (i := 1616) (by decide +kernel)⟩
theorem lw_p90 : lw_okq (⟨"FreckleChartModel", "readRest", "(I)V"⟩, 41) := ⟨⟨by decide +kernel, by decide +kernel⟩, List.mem_of_getElem? (i := 1228) (by decide +kernel), List.mem_of_getElem? (i := 1619) (by decide +kernel), List.mem_of_getElem? (i := 1620) (by decide +kernel)⟩
theorem lw_p91 : lw_okq (⟨"FreckleChartModel", "readTest", "(I)V"⟩, 41) := ⟨⟨by decide +kernel, by decide +kernel⟩, List.mem_of_getElem? (i := 1228) (by decide +kernel), List.mem_of_getElem? (i := 1623) (by decide +kernel), List.mem_of_getElem? (i := 1624) (by decide +kernel)⟩
theorem lw_p92 : lw_okq (⟨"FreckleChartModel", "readTold", "()I"⟩, 41) := ⟨⟨by decide +kernel, by decide +kernel⟩, List.mem_of_getElem? (i := 1228) (by decide +kernel), List.mem_of_getElem? (i := 1627) (by decide +kernel), List.mem_of_getElem? (i := 1628) (by decide +kernel)⟩
theorem lw_p93 : lw_okq (⟨"FreckleChartModel", "cells", "()I"⟩, 41) := ⟨⟨by decide +kernel, by decide +kernel⟩, List.mem_of_getElem? (i := 1228) (by decide +kernel), List.mem_of_getElem? (i := 1632) (by decide +kernel), List.mem_of_getElem? (i := 1633) (by decide +kernel)⟩
theorem lw_p94 : lw_okq (⟨"FreckleChartModel", "refuse", "(I)I"⟩, 41) := ⟨⟨by decide +kernel, by decide +kernel⟩, List.mem_of_getElem? (i := 1228) (by decide +kernel), List.mem_of_getElem? (i := 1641) (by decide +kernel), List.mem_of_getElem? (i := 1642) (by decide +kernel)⟩
theorem lw_p95 : lw_okq (⟨"FreckleChartModel", "veiledSet", "()I"⟩, 41) := ⟨⟨by decide +kernel, by decide +kernel⟩, List.mem_of_getElem? (i := 1228) (by decide +kernel), List.mem_of_getElem? (i := 1645) (by decide +kernel), List.mem_of_getElem? (i := 1646) (by decide +kernel)⟩
def lw_privs_6 : List (MethodName × Nat) := [(⟨"FreckleChartModel", "isEnd", "()Z"⟩, 41), (⟨"FreckleChartModel", "named", "(I)I"⟩, 41), (⟨"FreckleChartModel", "comes", "(IIII)V"⟩, 41), (⟨"FreckleChartModel", "perhaps", "(Z)Z"⟩, 41), (⟨"FreckleChartModel", "readInked", "(I)V"⟩, 41), (⟨"FreckleChartModel", "isOfPatch", "(III)Z"⟩, 41), (⟨"FreckleChartModel", "isSign", "(I)Z"⟩, 41), (⟨"FreckleChartModel", "isWell", "()Z"⟩, 41), (⟨"FreckleChartModel", "copy", "(II)V"⟩, 41), (⟨"FreckleChartModel", "readStep", "(I)V"⟩, 41), (⟨"FreckleChartModel", "readRest", "(I)V"⟩, 41), (⟨"FreckleChartModel", "readTest", "(I)V"⟩, 41), (⟨"FreckleChartModel", "readTold", "()I"⟩, 41), (⟨"FreckleChartModel", "cells", "()I"⟩, 41), (⟨"FreckleChartModel", "refuse", "(I)I"⟩, 41), (⟨"FreckleChartModel", "veiledSet", "()I"⟩, 41)]
theorem lw_r6 : ∀ q ∈ lw_privs_6, lw_okq q := List.forall_mem_cons.mpr ⟨lw_p80, List.forall_mem_cons.mpr ⟨lw_p81, List.forall_mem_cons.mpr ⟨lw_p82, List.forall_mem_cons.mpr ⟨lw_p83, List.forall_mem_cons.mpr ⟨lw_p84, List.forall_mem_cons.mpr ⟨lw_p85, List.forall_mem_cons.mpr ⟨lw_p86, List.forall_mem_cons.mpr ⟨lw_p87, List.forall_mem_cons.mpr ⟨lw_p88, List.forall_mem_cons.mpr ⟨lw_p89, List.forall_mem_cons.mpr ⟨lw_p90, List.forall_mem_cons.mpr ⟨lw_p91, List.forall_mem_cons.mpr ⟨lw_p92, List.forall_mem_cons.mpr ⟨lw_p93, List.forall_mem_cons.mpr ⟨lw_p94, List.forall_mem_cons.mpr ⟨lw_p95, fun _ h => absurd h List.not_mem_nil⟩⟩⟩⟩⟩⟩⟩⟩⟩⟩⟩⟩⟩⟩⟩⟩
theorem lw_p96 : lw_okq (⟨"FreckleChartModel", "rockCells", "()I"⟩, 41) := ⟨⟨by decide +kernel, by decide +kernel⟩, List.mem_of_getElem? (i := 1228) (by decide +kernel), List.mem_of_getElem? (i := 1649) (by decide +kernel), List.mem_of_getElem? (i := 1650) (by decide +kernel)⟩
theorem lw_p97 : lw_okq (⟨"FreckleChartModel", "isRockAt", "(I)Z"⟩, 41) := ⟨⟨by decide +kernel, by decide +kernel⟩, List.mem_of_getElem? (i := 1228) (by decide +kernel), List.mem_of_getElem? (i := 1657) (by decide +kernel), List.mem_of_getElem? (i := 1658) (by decide +kernel)⟩
theorem lw_p98 : lw_okq (⟨"FreckleChartModel", "isCellAt", "(I)Z"⟩, 41) := ⟨⟨by decide +kernel, by decide +kernel⟩, List.mem_of_getElem? (i := 1228) (by decide +kernel), List.mem_of_getElem? (i := 1665) (by decide +kernel), List.mem_of_getElem? (i := 1666) (by decide +kernel)⟩
theorem lw_p99 : lw_okq (⟨"FreckleChartModel", "isCousinAt", "(I)Z"⟩, 41) := ⟨⟨by decide +kernel, by decide +kernel⟩, List.mem_of_getElem? (i := 1228) (by decide +kernel), List.mem_of_getElem? (i := 1673) (by decide +kernel), List.mem_of_getElem? (i := 1674) (by decide +kernel)⟩
theorem lw_p100 : lw_okq (⟨"FreckleChartModel", "patchOf", "(I)I"⟩, 41) := ⟨⟨by decide +kernel, by decide +kernel⟩, List.mem_of_getElem? (i := 1228) (by decide +kernel), List.mem_of_getElem? (i := 1678) (by decide +kernel), List.mem_of_getElem? (i := 1679) (by decide +kernel)⟩
theorem lw_p101 : lw_okq (⟨"FreckleChartModel", "shownOn", "(I)I"⟩, 41) := ⟨⟨by decide +kernel, by decide +kernel⟩, List.mem_of_getElem? (i := 1228) (by decide +kernel), List.mem_of_getElem? (i := 1686) (by decide +kernel), List.mem_of_getElem? (i := 1687) (by decide +kernel)⟩
theorem lw_p102 : lw_okq (⟨"FreckleChartModel", "isTray", "(I)Z"⟩, 41) := ⟨⟨by decide +kernel, by decide +kernel⟩, List.mem_of_getElem? (i := 1228) (by decide +kernel), List.mem_of_getElem? (i := 1694) (by decide +kernel), List.mem_of_getElem? (i := 1695) (by decide +kernel)⟩
theorem lw_p103 : lw_okq (⟨"FreckleChartModel", "tans", "(II)Z"⟩, 41) := ⟨⟨by decide +kernel, by decide +kernel⟩, List.mem_of_getElem? (i := 1228) (by decide +kernel), List.mem_of_getElem? (i := 1705) (by decide +kernel), List.mem_of_getElem? (i := 1706) (by decide +kernel)⟩
theorem lw_p104 : lw_okq (⟨"FreckleChartModel", "rains", "(I)I"⟩, 41) := ⟨⟨by decide +kernel, by decide +kernel⟩, List.mem_of_getElem? (i := 1228) (by decide +kernel), List.mem_of_getElem? (i := 1714) (by decide +kernel), List.mem_of_getElem? (i := 1715) (by decide +kernel)⟩
theorem lw_p105 : lw_okq (⟨"FreckleChartModel", "becomes", "(II)Z"⟩, 41) := ⟨⟨by decide +kernel, by decide +kernel⟩, List.mem_of_getElem? (i := 1228) (by decide +kernel), List.mem_of_getElem? (i := 1722) (by decide +kernel), List.mem_of_getElem? (i := 1723) (by decide +kernel)⟩
theorem lw_p106 : lw_okq (⟨"FreckleChartModel", "inks", "(II)Z"⟩, 41) := ⟨⟨by decide +kernel, by decide +kernel⟩, List.mem_of_getElem? (i := 1228) (by decide +kernel), List.mem_of_getElem? (i := 1733) (by decide +kernel), List.mem_of_getElem? (i := 1734) (by decide +kernel)⟩
theorem lw_p107 : lw_okq (⟨"FreckleChartModel", "whyNoSail", "(IIII)I"⟩, 41) := ⟨⟨by decide +kernel, by decide +kernel⟩, List.mem_of_getElem? (i := 1228) (by decide +kernel), List.mem_of_getElem? (i := 1758) (by decide +kernel), List.mem_of_getElem? (i := 1759) (by decide +kernel)⟩
theorem lw_p108 : lw_okq (⟨"FreckleChartModel", "whyNoWay", "(III)I"⟩, 41) := ⟨⟨by decide +kernel, by decide +kernel⟩, List.mem_of_getElem? (i := 1228) (by decide +kernel), List.mem_of_getElem? (i := 1762) (by decide +kernel), List.mem_of_getElem? (i := 1763) (by decide +kernel)⟩
theorem lw_p109 : lw_okq (⟨"FreckleChartModel", "areCousins", "(I)Z"⟩, 41) := ⟨⟨by decide +kernel, by decide +kernel⟩, List.mem_of_getElem? (i := 1228) (by decide +kernel), List.mem_of_getElem? (i := 1766) (by decide +kernel), List.mem_of_getElem? (i := 1767) (by decide +kernel)⟩
theorem lw_p110 : lw_okq (⟨"FreckleChartModel", "allCousins", "()I"⟩, 41) := ⟨⟨by decide +kernel, by decide +kernel⟩, List.mem_of_getElem? (i := 1228) (by decide +kernel), List.mem_of_getElem? (i := 1770) (by decide +kernel), List.mem_of_getElem? (i := 1771) (by decide +kernel)⟩
theorem lw_p111 : lw_okq (⟨"FreckleChartModel", "sails", "(IIII)I"⟩, 41) := ⟨⟨by decide +kernel, by decide +kernel⟩, List.mem_of_getElem? (i := 1228) (by decide +kernel), List.mem_of_getElem? (i := 1775) (by decide +kernel), List.mem_of_getElem? (i := 1776) (by decide +kernel)⟩
def lw_privs_7 : List (MethodName × Nat) := [(⟨"FreckleChartModel", "rockCells", "()I"⟩, 41), (⟨"FreckleChartModel", "isRockAt", "(I)Z"⟩, 41), (⟨"FreckleChartModel", "isCellAt", "(I)Z"⟩, 41), (⟨"FreckleChartModel", "isCousinAt", "(I)Z"⟩, 41), (⟨"FreckleChartModel", "patchOf", "(I)I"⟩, 41), (⟨"FreckleChartModel", "shownOn", "(I)I"⟩, 41), (⟨"FreckleChartModel", "isTray", "(I)Z"⟩, 41), (⟨"FreckleChartModel", "tans", "(II)Z"⟩, 41), (⟨"FreckleChartModel", "rains", "(I)I"⟩, 41), (⟨"FreckleChartModel", "becomes", "(II)Z"⟩, 41), (⟨"FreckleChartModel", "inks", "(II)Z"⟩, 41), (⟨"FreckleChartModel", "whyNoSail", "(IIII)I"⟩, 41), (⟨"FreckleChartModel", "whyNoWay", "(III)I"⟩, 41), (⟨"FreckleChartModel", "areCousins", "(I)Z"⟩, 41), (⟨"FreckleChartModel", "allCousins", "()I"⟩, 41), (⟨"FreckleChartModel", "sails", "(IIII)I"⟩, 41)]
theorem lw_r7 : ∀ q ∈ lw_privs_7, lw_okq q := List.forall_mem_cons.mpr ⟨lw_p96, List.forall_mem_cons.mpr ⟨lw_p97, List.forall_mem_cons.mpr ⟨lw_p98, List.forall_mem_cons.mpr ⟨lw_p99, List.forall_mem_cons.mpr ⟨lw_p100, List.forall_mem_cons.mpr ⟨lw_p101, List.forall_mem_cons.mpr ⟨lw_p102, List.forall_mem_cons.mpr ⟨lw_p103, List.forall_mem_cons.mpr ⟨lw_p104, List.forall_mem_cons.mpr ⟨lw_p105, List.forall_mem_cons.mpr ⟨lw_p106, List.forall_mem_cons.mpr ⟨lw_p107, List.forall_mem_cons.mpr ⟨lw_p108, List.forall_mem_cons.mpr ⟨lw_p109, List.forall_mem_cons.mpr ⟨lw_p110, List.forall_mem_cons.mpr ⟨lw_p111, fun _ h => absurd h List.not_mem_nil⟩⟩⟩⟩⟩⟩⟩⟩⟩⟩⟩⟩⟩⟩⟩⟩
theorem lw_p112 : lw_okq (⟨"FreckleChartModel", "laysWay", "(III)I"⟩, 41) := ⟨⟨by decide +kernel, by decide +kernel⟩, List.mem_of_getElem? (i := 1228) (by decide +kernel), List.mem_of_getElem? (i := 1779) (by decide +kernel), List.mem_of_getElem? (i := 1780) (by decide +kernel)⟩
theorem lw_p113 : lw_okq (⟨"FreckleChartModel", "openBy", "(I)I"⟩, 41) := ⟨⟨by decide +kernel, by decide +kernel⟩, List.mem_of_getElem? (i := 1228) (by decide +kernel), List.mem_of_getElem? (i := 1783) (by decide +kernel), List.mem_of_getElem? (i := 1784) (by decide +kernel)⟩
theorem lw_p114 : lw_okq (⟨"FreckleChartModel", "chartedBy", "(I)I"⟩, 41) := ⟨⟨by decide +kernel, by decide +kernel⟩, List.mem_of_getElem? (i := 1228) (by decide +kernel), List.mem_of_getElem? (i := 1787) (by decide +kernel), List.mem_of_getElem? (i := 1788) (by decide +kernel)⟩
theorem lw_p115 : lw_okq (⟨"FreckleChartModel", "isBeside", "(II)Z"⟩, 41) := ⟨⟨by decide +kernel, by decide +kernel⟩, List.mem_of_getElem? (i := 1228) (by decide +kernel), List.mem_of_getElem? (i := 1791) (by decide +kernel), List.mem_of_getElem? (i := 1792) (by decide +kernel)⟩
theorem lw_p116 : lw_okq (⟨"FreckleChartModel", "strikesOn", "(II)I"⟩, 41) := ⟨⟨by decide +kernel, by decide +kernel⟩, List.mem_of_getElem? (i := 1228) (by decide +kernel), List.mem_of_getElem? (i := 1798) (by decide +kernel), List.mem_of_getElem? (i := 1799) (by decide +kernel)⟩
theorem lw_p117 : lw_okq (⟨"FreckleChartModel", "isStruck", "(II)Z"⟩, 41) := ⟨⟨by decide +kernel, by decide +kernel⟩, List.mem_of_getElem? (i := 1228) (by decide +kernel), List.mem_of_getElem? (i := 1802) (by decide +kernel), List.mem_of_getElem? (i := 1803) (by decide +kernel)⟩
theorem lw_p118 : lw_okq (⟨"FreckleChartModel", "nextOn", "(I)I"⟩, 41) := ⟨⟨by decide +kernel, by decide +kernel⟩, List.mem_of_getElem? (i := 1228) (by decide +kernel), List.mem_of_getElem? (i := 1806) (by decide +kernel), List.mem_of_getElem? (i := 1807) (by decide +kernel)⟩
theorem lw_p119 : lw_okq (⟨"FreckleChartModel", "fewestOf", "(III)I"⟩, 41) := ⟨⟨by decide +kernel, by decide +kernel⟩, List.mem_of_getElem? (i := 1228) (by decide +kernel), List.mem_of_getElem? (i := 1834) (by decide +kernel), List.mem_of_getElem? (i := 1835) (by decide +kernel)⟩
theorem lw_p120 : lw_okq (⟨"FreckleChartModel", "isSafe", "(IIII)Z"⟩, 41) := ⟨⟨by decide +kernel, by decide +kernel⟩, List.mem_of_getElem? (i := 1228) (by decide +kernel), List.mem_of_getElem? (i := 1838) (by decide +kernel), List.mem_of_getElem? (i := 1839) (by decide +kernel)⟩
theorem lw_p121 : lw_okq (⟨"FreckleChartModel", "whyNotTwo", "(II)I"⟩, 41) := ⟨⟨by decide +kernel, by decide +kernel⟩, List.mem_of_getElem? (i := 1228) (by decide +kernel), List.mem_of_getElem? (i := 1862) (by decide +kernel), List.mem_of_getElem? (i := 1863) (by decide +kernel)⟩
theorem lw_p122 : lw_okq (⟨"FreckleChartModel", "covering", "()I"⟩, 41) := ⟨⟨by decide +kernel, by decide +kernel⟩, List.mem_of_getElem? (i := 1228) (by decide +kernel), List.mem_of_getElem? (i := 1870) (by decide +kernel), List.mem_of_getElem? (i := 1871) (by decide +kernel)⟩
theorem lw_p123 : lw_okq (⟨"FreckleChartModel", "whyNoFits", "(IIII)I"⟩, 41) := ⟨⟨by decide +kernel, by decide +kernel⟩, List.mem_of_getElem? (i := 1228) (by decide +kernel), List.mem_of_getElem? (i := 1882) (by decide +kernel), List.mem_of_getElem? (i := 1883) (by decide +kernel)⟩
theorem lw_p124 : lw_okq (⟨"FreckleChartModel", "numberOf", "(II)J"⟩, 41) := ⟨⟨by decide +kernel, by decide +kernel⟩, List.mem_of_getElem? (i := 1228) (by decide +kernel), List.mem_of_getElem? (i := 1888) (by decide +kernel), List.mem_of_getElem? (i := 1889) (by decide +kernel)⟩
theorem lw_p125 : lw_okq (⟨"FreckleChartModel", "placesTold", "(II)I"⟩, 41) := ⟨⟨by decide +kernel, by decide +kernel⟩, List.mem_of_getElem? (i := 1228) (by decide +kernel), List.mem_of_getElem? (i := 1892) (by decide +kernel), List.mem_of_getElem? (i := 1893) (by decide +kernel)⟩
theorem lw_p126 : lw_okq (⟨"FreckleChartModel", "fitting", "(IIII)I"⟩, 41) := ⟨⟨by decide +kernel, by decide +kernel⟩, List.mem_of_getElem? (i := 1228) (by decide +kernel), List.mem_of_getElem? (i := 1896) (by decide +kernel), List.mem_of_getElem? (i := 1897) (by decide +kernel)⟩
theorem lw_p127 : lw_okq (⟨"FreckleChartModel", "begins", "(III)Z"⟩, 41) := ⟨⟨by decide +kernel, by decide +kernel⟩, List.mem_of_getElem? (i := 1228) (by decide +kernel), List.mem_of_getElem? (i := 1900) (by decide +kernel), List.mem_of_getElem? (i := 1901) (by decide +kernel)⟩
def lw_privs_8 : List (MethodName × Nat) := [(⟨"FreckleChartModel", "laysWay", "(III)I"⟩, 41), (⟨"FreckleChartModel", "openBy", "(I)I"⟩, 41), (⟨"FreckleChartModel", "chartedBy", "(I)I"⟩, 41), (⟨"FreckleChartModel", "isBeside", "(II)Z"⟩, 41), (⟨"FreckleChartModel", "strikesOn", "(II)I"⟩, 41), (⟨"FreckleChartModel", "isStruck", "(II)Z"⟩, 41), (⟨"FreckleChartModel", "nextOn", "(I)I"⟩, 41), (⟨"FreckleChartModel", "fewestOf", "(III)I"⟩, 41), (⟨"FreckleChartModel", "isSafe", "(IIII)Z"⟩, 41), (⟨"FreckleChartModel", "whyNotTwo", "(II)I"⟩, 41), (⟨"FreckleChartModel", "covering", "()I"⟩, 41), (⟨"FreckleChartModel", "whyNoFits", "(IIII)I"⟩, 41), (⟨"FreckleChartModel", "numberOf", "(II)J"⟩, 41), (⟨"FreckleChartModel", "placesTold", "(II)I"⟩, 41), (⟨"FreckleChartModel", "fitting", "(IIII)I"⟩, 41), (⟨"FreckleChartModel", "begins", "(III)Z"⟩, 41)]
theorem lw_r8 : ∀ q ∈ lw_privs_8, lw_okq q := List.forall_mem_cons.mpr ⟨lw_p112, List.forall_mem_cons.mpr ⟨lw_p113, List.forall_mem_cons.mpr ⟨lw_p114, List.forall_mem_cons.mpr ⟨lw_p115, List.forall_mem_cons.mpr ⟨lw_p116, List.forall_mem_cons.mpr ⟨lw_p117, List.forall_mem_cons.mpr ⟨lw_p118, List.forall_mem_cons.mpr ⟨lw_p119, List.forall_mem_cons.mpr ⟨lw_p120, List.forall_mem_cons.mpr ⟨lw_p121, List.forall_mem_cons.mpr ⟨lw_p122, List.forall_mem_cons.mpr ⟨lw_p123, List.forall_mem_cons.mpr ⟨lw_p124, List.forall_mem_cons.mpr ⟨lw_p125, List.forall_mem_cons.mpr ⟨lw_p126, List.forall_mem_cons.mpr ⟨lw_p127, fun _ h => absurd h List.not_mem_nil⟩⟩⟩⟩⟩⟩⟩⟩⟩⟩⟩⟩⟩⟩⟩⟩
theorem lw_p128 : lw_okq (⟨"FreckleChartModel", "plays", "(II)I"⟩, 41) := ⟨⟨by decide +kernel, by decide +kernel⟩, List.mem_of_getElem? (i := 1228) (by decide +kernel), List.mem_of_getElem? (i := 1920) (by decide +kernel), List.mem_of_getElem? (i := 1921) (by decide +kernel)⟩
theorem lw_p129 : lw_okq (⟨"FreckleChartModel", "allShown", "()I"⟩, 41) := ⟨⟨by decide +kernel, by decide +kernel⟩, List.mem_of_getElem? (i := 1228) (by decide +kernel), List.mem_of_getElem? (i := 1924) (by decide +kernel), List.mem_of_getElem? (i := 1925) (by decide +kernel)⟩
theorem lw_p130 : lw_okq (⟨"FreckleChartModel", "odds", "(III)Z"⟩, 41) := ⟨⟨by decide +kernel, by decide +kernel⟩, List.mem_of_getElem? (i := 1228) (by decide +kernel), List.mem_of_getElem? (i := 1937) (by decide +kernel), List.mem_of_getElem? (i := 1938) (by decide +kernel)⟩
theorem lw_p131 : lw_okq (⟨"FreckleChartModel", "fraction", "(JJ)Z"⟩, 41) := ⟨⟨by decide +kernel, by decide +kernel⟩, List.mem_of_getElem? (i := 1228) (by decide +kernel), List.mem_of_getElem? (i := 1941) (by decide +kernel), List.mem_of_getElem? (i := 1942) (by decide +kernel)⟩
theorem lw_p132 : lw_okq (⟨"FreckleChartModel", "runsYears", "(I)V"⟩, 41) := ⟨⟨by decide +kernel, by decide +kernel⟩, List.mem_of_getElem? (i := 1228) (by decide +kernel), List.mem_of_getElem? (i := 1961) (by decide +kernel), List.mem_of_getElem? (i := 1962) (by decide +kernel)⟩
theorem lw_p133 : lw_okq (⟨"FreckleChartModel", "doAll", "(II)V"⟩, 41) := ⟨⟨by decide +kernel, by decide +kernel⟩, List.mem_of_getElem? (i := 1228) (by decide +kernel), List.mem_of_getElem? (i := 1965) (by decide +kernel), List.mem_of_getElem? (i := 1966) (by decide +kernel)⟩
theorem lw_p134 : lw_okq (⟨"FreckleChartModel", "doOne", "(I)V"⟩, 41) := ⟨⟨by decide +kernel, by decide +kernel⟩, List.mem_of_getElem? (i := 1228) (by decide +kernel), List.mem_of_getElem? (i := 1969) (by decide +kernel), List.mem_of_getElem? (i := 1970) (by decide +kernel)⟩
theorem lw_p135 : lw_okq (⟨"FreckleChartModel", "does", "(I)Z"⟩, 41) := ⟨⟨by decide +kernel, by decide +kernel⟩, List.mem_of_getElem? (i := 1228) (by decide +kernel), List.mem_of_getElem? (i := 1973) (by decide +kernel), List.mem_of_getElem? (i := 1974) (by decide +kernel)⟩
theorem lw_p136 : lw_okq (⟨"FreckleChartModel", "isTanned", "(II)Z"⟩, 41) := ⟨⟨by decide +kernel, by decide +kernel⟩, List.mem_of_getElem? (i := 1228) (by decide +kernel), List.mem_of_getElem? (i := 1977) (by decide +kernel), List.mem_of_getElem? (i := 1978) (by decide +kernel)⟩
theorem lw_p137 : lw_okq (⟨"FreckleChartModel", "isAny", "()Z"⟩, 41) := ⟨⟨by decide +kernel, by decide +kernel⟩, List.mem_of_getElem? (i := 1228) (by decide +kernel), List.mem_of_getElem? (i := 1981) (by decide +kernel), List.mem_of_getElem? (i := 1982) (by decide +kernel)⟩
theorem lw_p138 : lw_okq (⟨"FreckleChartModel", "draw", "(I)I"⟩, 41) := ⟨⟨by decide +kernel, by decide +kernel⟩, List.mem_of_getElem? (i := 1228) (by decide +kernel), List.mem_of_getElem? (i := 1985) (by decide +kernel), List.mem_of_getElem? (i := 1986) (by decide +kernel)⟩
theorem lw_p139 : lw_okq (⟨"FreckleChartModel", "isSo", "(I)Z"⟩, 41) := ⟨⟨by decide +kernel, by decide +kernel⟩, List.mem_of_getElem? (i := 1228) (by decide +kernel), List.mem_of_getElem? (i := 1990) (by decide +kernel), List.mem_of_getElem? (i := 1991) (by decide +kernel)⟩
def lw_privs_9 : List (MethodName × Nat) := [(⟨"FreckleChartModel", "plays", "(II)I"⟩, 41), (⟨"FreckleChartModel", "allShown", "()I"⟩, 41), (⟨"FreckleChartModel", "odds", "(III)Z"⟩, 41), (⟨"FreckleChartModel", "fraction", "(JJ)Z"⟩, 41), (⟨"FreckleChartModel", "runsYears", "(I)V"⟩, 41), (⟨"FreckleChartModel", "doAll", "(II)V"⟩, 41), (⟨"FreckleChartModel", "doOne", "(I)V"⟩, 41), (⟨"FreckleChartModel", "does", "(I)Z"⟩, 41), (⟨"FreckleChartModel", "isTanned", "(II)Z"⟩, 41), (⟨"FreckleChartModel", "isAny", "()Z"⟩, 41), (⟨"FreckleChartModel", "draw", "(I)I"⟩, 41), (⟨"FreckleChartModel", "isSo", "(I)Z"⟩, 41)]
theorem lw_r9 : ∀ q ∈ lw_privs_9, lw_okq q := List.forall_mem_cons.mpr ⟨lw_p128, List.forall_mem_cons.mpr ⟨lw_p129, List.forall_mem_cons.mpr ⟨lw_p130, List.forall_mem_cons.mpr ⟨lw_p131, List.forall_mem_cons.mpr ⟨lw_p132, List.forall_mem_cons.mpr ⟨lw_p133, List.forall_mem_cons.mpr ⟨lw_p134, List.forall_mem_cons.mpr ⟨lw_p135, List.forall_mem_cons.mpr ⟨lw_p136, List.forall_mem_cons.mpr ⟨lw_p137, List.forall_mem_cons.mpr ⟨lw_p138, List.forall_mem_cons.mpr ⟨lw_p139, fun _ h => absurd h List.not_mem_nil⟩⟩⟩⟩⟩⟩⟩⟩⟩⟩⟩⟩
def lw_privs : List (MethodName × Nat) := lw_privs_1 ++ (lw_privs_2 ++ (lw_privs_3 ++ (lw_privs_4 ++ (lw_privs_5 ++ (lw_privs_6 ++ (lw_privs_7 ++ (lw_privs_8 ++ (lw_privs_9))))))))
def lw_tbl : List Cond := k2_sels lw_privs ++ tables_1
theorem lw_privs_ok : ∀ q ∈ lw_privs, lw_okq q := by
  show ∀ q ∈ lw_privs_1 ++ (lw_privs_2 ++ (lw_privs_3 ++ (lw_privs_4 ++ (lw_privs_5 ++ (lw_privs_6 ++ (lw_privs_7 ++ (lw_privs_8 ++ (lw_privs_9)))))))), lw_okq q
  exact List.forall_mem_append.mpr ⟨lw_r1, List.forall_mem_append.mpr ⟨lw_r2, List.forall_mem_append.mpr ⟨lw_r3, List.forall_mem_append.mpr ⟨lw_r4, List.forall_mem_append.mpr ⟨lw_r5, List.forall_mem_append.mpr ⟨lw_r6, List.forall_mem_append.mpr ⟨lw_r7, List.forall_mem_append.mpr ⟨lw_r8, lw_r9⟩⟩⟩⟩⟩⟩⟩⟩
-- ===== end of PART A; then your names; then what follows =====
-- the words that can be handed on
def xW : List Cond := lw_tbl.filter goodWord
def xw (h : Nat) (w : Cond) : Bool := decide (lw_tbl[h]? = some w) && goodWord w
theorem xw_in {h : Nat} {w : Cond} (q : xw h w = true) : w ∈ xW := by
  unfold xw at q
  rw [Bool.and_eq_true] at q
  exact List.mem_filter.mpr ⟨List.mem_of_getElem? (of_decide_eq_true q.1), q.2⟩
def cR0 : String := "FreckleChart$Coast"
def cT0 : u_T := fun k => match k with
  | 0 => ("FreckleChart$Coast", "wide", "I", false)
  | 1 => ("FreckleChart$Coast", "high", "I", false)
  | 2 => ("FreckleChart$Coast", "odds", "I", false)
  | 3 => ("FreckleChart$Coast", "rocks", "I", false)
  | 4 => ("FreckleChart$Coast", "rockCells", "[I", true)
  | 5 => ("FreckleChart$Coast", "rockDepths", "[I", true)
  | 6 => ("FreckleChart$Coast", "shallow", "[I", true)
  | 7 => ("FreckleChart$Coast", "cousins", "I", false)
  | 8 => ("FreckleChart$Coast", "names", "[J", true)
  | 9 => ("FreckleChart$Coast", "firstCells", "[I", true)
  | 10 => ("FreckleChart$Coast", "patchWides", "[I", true)
  | 11 => ("FreckleChart$Coast", "patchHighs", "[I", true)
  | 12 => ("FreckleChart$Coast", "patches", "[I", true)
  | 13 => ("FreckleChart$Coast", "tans", "[I", true)
  | 14 => ("FreckleChart$Coast", "inked", "[I", true)
  | 15 => ("FreckleChart$Coast", "veiled", "I", false)
  | 16 => ("FreckleChart$Coast", "struck", "I", false)
  | 17 => ("FreckleChart$Coast", "cameIn", "I", false)
  | _ => ("FreckleChart$Coast", "years", "LFreckleChart$Years;", true)
def cR1 : String := "FreckleChart$CoastText"
def cT1 : u_T := fun k => match k with
  | 0 => ("FreckleChart$CoastText", "reader", "LFreckleChart$Reader;", true)
  | 1 => ("FreckleChart$CoastText", "sizeTold", "Z", false)
  | _ => ("FreckleChart$CoastText", "oddsTold", "Z", false)
def cR2 : String := "FreckleChart$Fraction"
def cT2 : u_T := fun k => match k with
  | 0 => ("FreckleChart$Fraction", "above", "J", false)
  | 1 => ("FreckleChart$Fraction", "below", "J", false)
  | _ => ("FreckleChart$Fraction", "ways", "[J", true)
def cR3 : String := "FreckleChart$Living"
def cT3 : u_T := fun k => match k with
  | 0 => ("FreckleChart$Living", "pilot", "LFreckleChart$Pilot;", true)
  | 1 => ("FreckleChart$Living", "roundsLeft", "[I", true)
  | 2 => ("FreckleChart$Living", "drawn", "I", false)
  | 3 => ("FreckleChart$Living", "steps", "I", false)
  | 4 => ("FreckleChart$Living", "missed", "I", false)
  | 5 => ("FreckleChart$Living", "struck", "I", false)
  | 6 => ("FreckleChart$Living", "cameIn", "I", false)
  | 7 => ("FreckleChart$Living", "darkened", "I", false)
  | _ => ("FreckleChart$Living", "isLeft", "Z", false)
def cR4 : String := "FreckleChart$Pilot"
def cT4 : u_T := fun k => match k with
  | 0 => ("FreckleChart$Pilot", "cells", "[I", true)
  | 1 => ("FreckleChart$Pilot", "length", "I", false)
  | 2 => ("FreckleChart$Pilot", "rings", "[I", true)
  | 3 => ("FreckleChart$Pilot", "wide", "I", false)
  | 4 => ("FreckleChart$Pilot", "firstColumn", "I", false)
  | _ => ("FreckleChart$Pilot", "lastColumn", "I", false)
def cR5 : String := "FreckleChart$Reader"
def cT5 : u_T := fun k => match k with
  | 0 => ("FreckleChart$Reader", "text", "[B", true)
  | 1 => ("FreckleChart$Reader", "length", "I", false)
  | 2 => ("FreckleChart$Reader", "next", "I", false)
  | 3 => ("FreckleChart$Reader", "place", "I", false)
  | 4 => ("FreckleChart$Reader", "kind", "I", false)
  | 5 => ("FreckleChart$Reader", "code", "J", false)
  | 6 => ("FreckleChart$Reader", "number", "I", false)
  | 7 => ("FreckleChart$Reader", "sign", "I", false)
  | 8 => ("FreckleChart$Reader", "fault", "I", false)
  | _ => ("FreckleChart$Reader", "faultPlace", "I", false)
def cR6 : String := "FreckleChart$Trays"
def cT6 : u_T := fun k => match k with
  | 0 => ("FreckleChart$Trays", "rows", "[[J", true)
  | 1 => ("FreckleChart$Trays", "sorts", "[I", true)
  | _ => ("FreckleChart$Trays", "lengths", "[I", true)
def cR7 : String := "FreckleChart$Years"
def cT7 : u_T := fun k => match k with
  | 0 => ("FreckleChart$Years", "there", "Z", false)
  | 1 => ("FreckleChart$Years", "steps", "I", false)
  | 2 => ("FreckleChart$Years", "lines", "I", false)
  | 3 => ("FreckleChart$Years", "kinds", "[I", true)
  | 4 => ("FreckleChart$Years", "whose", "[I", true)
  | 5 => ("FreckleChart$Years", "firsts", "[I", true)
  | 6 => ("FreckleChart$Years", "seconds", "[I", true)
  | 7 => ("FreckleChart$Years", "thirds", "[I", true)
  | _ => ("FreckleChart$Years", "partners", "[I", true)
def cR8 : String := "FreckleChart$YearsText"
def cT8 : u_T := fun k => match k with
  | 0 => ("FreckleChart$YearsText", "reader", "LFreckleChart$Reader;", true)
  | 1 => ("FreckleChart$YearsText", "opened", "[I", true)
  | _ => ("FreckleChart$YearsText", "nested", "I", false)
def cR9 : String := "FreckleChart"
def cT9 : u_T := fun k => match k with
  | 0 => ("FreckleChart", "fraction", "LFreckleChart$Fraction;", true)
  | 1 => ("FreckleChart", "trays", "LFreckleChart$Trays;", true)
  | 2 => ("FreckleChart", "tape", "[B", true)
  | 3 => ("FreckleChart", "coastText", "LFreckleChart$CoastText;", true)
  | 4 => ("FreckleChart", "yearsText", "LFreckleChart$YearsText;", true)
  | 5 => ("FreckleChart", "pilot", "LFreckleChart$Pilot;", true)
  | 6 => ("FreckleChart", "living", "LFreckleChart$Living;", true)
  | 7 => ("FreckleChart", "latestLived", "[I", true)
  | 8 => ("FreckleChart", "coast", "LFreckleChart$Coast;", true)
  | 9 => ("FreckleChart", "draftCoast", "LFreckleChart$Coast;", true)
  | 10 => ("FreckleChart", "kept", "[LFreckleChart$Coast;", true)
  | 11 => ("FreckleChart", "marks", "I", false)
  | 12 => ("FreckleChart", "taped", "I", false)
  | 13 => ("FreckleChart", "latestStatus", "I", false)
  | 14 => ("FreckleChart", "latestFault", "I", false)
  | 15 => ("FreckleChart", "latestFaultPlace", "I", false)
  | _ => ("FreckleChart", "hasLived", "Z", false)
def cR10 : String := "FreckleChartModel"
def cT10 : u_T := fun k => match k with
  | 0 => ("FreckleChartModel", "status", "I", false)
  | 1 => ("FreckleChartModel", "thrown", "I", false)
  | 2 => ("FreckleChartModel", "above", "J", false)
  | 3 => ("FreckleChartModel", "under", "J", false)
  | 4 => ("FreckleChartModel", "traySort", "[I", true)
  | 5 => ("FreckleChartModel", "trayMany", "[I", true)
  | 6 => ("FreckleChartModel", "numbers", "[J", true)
  | 7 => ("FreckleChartModel", "tape", "[B", true)
  | 8 => ("FreckleChartModel", "taped", "I", false)
  | 9 => ("FreckleChartModel", "textEnd", "I", false)
  | 10 => ("FreckleChartModel", "faultKind", "I", false)
  | 11 => ("FreckleChartModel", "faultAt", "I", false)
  | 12 => ("FreckleChartModel", "bad", "I", false)
  | 13 => ("FreckleChartModel", "badAt", "I", false)
  | 14 => ("FreckleChartModel", "token", "I", false)
  | 15 => ("FreckleChartModel", "at", "I", false)
  | 16 => ("FreckleChartModel", "behind", "I", false)
  | 17 => ("FreckleChartModel", "number", "I", false)
  | 18 => ("FreckleChartModel", "letters", "I", false)
  | 19 => ("FreckleChartModel", "word", "J", false)
  | 20 => ("FreckleChartModel", "c", "[I", true)
  | 21 => ("FreckleChartModel", "before", "[I", true)
  | 22 => ("FreckleChartModel", "words", "[J", true)
  | 23 => ("FreckleChartModel", "markMany", "I", false)
  | 24 => ("FreckleChartModel", "toldCoast", "Z", false)
  | 25 => ("FreckleChartModel", "toldOdds", "Z", false)
  | 26 => ("FreckleChartModel", "newSteps", "I", false)
  | 27 => ("FreckleChartModel", "fars", "[I", true)
  | 28 => ("FreckleChartModel", "fitMany", "I", false)
  | 29 => ("FreckleChartModel", "firstMove", "I", false)
  | 30 => ("FreckleChartModel", "chances", "[J", true)
  | 31 => ("FreckleChartModel", "livedLast", "[I", true)
  | 32 => ("FreckleChartModel", "hasLived", "Z", false)
  | 33 => ("FreckleChartModel", "isOver", "Z", false)
  | 34 => ("FreckleChartModel", "random", "I", false)
  | 35 => ("FreckleChartModel", "done", "I", false)
  | 36 => ("FreckleChartModel", "missed", "I", false)
  | 37 => ("FreckleChartModel", "struckAhead", "I", false)
  | 38 => ("FreckleChartModel", "cameAhead", "I", false)
  | 39 => ("FreckleChartModel", "darker", "I", false)
  | _ => ("FreckleChartModel", "leftOver", "I", false)
abbrev xcl : List vw_C := [(cR0, cT0, 19), (cR1, cT1, 3), (cR2, cT2, 3), (cR3, cT3, 9), (cR4, cT4, 6), (cR5, cT5, 10), (cR6, cT6, 3), (cR7, cT7, 9), (cR8, cT8, 3), (cR9, cT9, 17), (cR10, cT10, 41)]
def xtyl : List (List FieldType) := [[.int, .int, .int, .int, .array (.int), .array (.int), .array (.int), .int, .array (.long), .array (.int), .array (.int), .array (.int), .array (.int), .array (.int), .array (.int), .int, .int, .int, .object "FreckleChart$Years"],
  [.object "FreckleChart$Reader", .boolean, .boolean],
  [.long, .long, .array (.long)],
  [.object "FreckleChart$Pilot", .array (.int), .int, .int, .int, .int, .int, .int, .boolean],
  [.array (.int), .int, .array (.int), .int, .int, .int],
  [.array (.byte), .int, .int, .int, .int, .long, .int, .int, .int, .int],
  [.array (.array (.long)), .array (.int), .array (.int)],
  [.boolean, .int, .int, .array (.int), .array (.int), .array (.int), .array (.int), .array (.int), .array (.int)],
  [.object "FreckleChart$Reader", .array (.int), .int],
  [.object "FreckleChart$Fraction", .object "FreckleChart$Trays", .array (.byte), .object "FreckleChart$CoastText", .object "FreckleChart$YearsText", .object "FreckleChart$Pilot", .object "FreckleChart$Living", .array (.int), .object "FreckleChart$Coast", .object "FreckleChart$Coast", .array (.object "FreckleChart$Coast"), .int, .int, .int, .int, .int, .boolean],
  [.int, .int, .long, .long, .array (.int), .array (.int), .array (.long), .array (.byte), .int, .int, .int, .int, .int, .int, .int, .int, .int, .int, .int, .long, .array (.int), .array (.int), .array (.long), .int, .boolean, .boolean, .int, .array (.int), .int, .int, .array (.long), .array (.int), .boolean, .boolean, .int, .int, .int, .int, .int, .int, .int]]
def xty (t k : Nat) : FieldType := (xtyl.getD t []).getD k .int
def xkdl : List (List Nat) := [[0, 0, 0, 0, 2, 2, 2, 0, 2, 2, 2, 2, 2, 2, 2, 0, 0, 0, 2],
  [2, 0, 0],
  [1, 1, 2],
  [2, 2, 0, 0, 0, 0, 0, 0, 0],
  [2, 0, 2, 0, 0, 0],
  [2, 0, 0, 0, 0, 1, 0, 0, 0, 0],
  [2, 2, 2],
  [0, 0, 0, 2, 2, 2, 2, 2, 2],
  [2, 2, 0],
  [2, 2, 2, 2, 2, 2, 2, 2, 2, 2, 2, 0, 0, 0, 0, 0, 0],
  [0, 0, 1, 1, 2, 2, 2, 2, 0, 0, 0, 0, 0, 0, 0, 0, 0, 0, 0, 1, 2, 2, 2, 0, 0, 0, 0, 2, 0, 0, 2, 2, 0, 0, 0, 0, 0, 0, 0, 0, 0]]
/-- a field: 0 an int of a kind, 1 a long, 2 a reference -/
def xkd (t k : Nat) : Nat := (xkdl.getD t []).getD k 9
def xlyl : List (List Nat) := [[476, 478, 480, 482, 484, 486, 488, 490, 492, 494, 496, 498, 500, 502, 504, 506, 508, 510, 512],
  [263, 265, 267],
  [178, 180, 182],
  [339, 341, 343, 345, 347, 349, 351, 353, 355],
  [303, 305, 307, 309, 311, 313],
  [237, 239, 241, 243, 245, 247, 249, 251, 253, 255],
  [198, 200, 202],
  [395, 397, 399, 401, 403, 405, 407, 409, 411],
  [282, 284, 286],
  [533, 535, 537, 539, 541, 543, 545, 547, 549, 551, 553, 555, 557, 559, 561, 563, 565],
  [1418, 1420, 1422, 1424, 1426, 1428, 1430, 1432, 1434, 1436, 1438, 1440, 1442, 1444, 1446, 1448, 1450, 1452, 1454, 1456, 1458, 1460, 1462, 1464, 1466, 1468, 1470, 1472, 1474, 1476, 1478, 1480, 1482, 1484, 1486, 1488, 1490, 1492, 1494, 1496, 1498]]
def nfl : List Nat := [19, 3, 3, 9, 6, 10, 3, 9, 3, 17, 41]
def nfc (t : Nat) : Nat := nfl.getD t 0
/-- what an array of a kind holds -/
def xaty (t : Nat) : FieldType := match t with
  | 100 => .int
  | 101 => .long
  | 102 => .byte
  | 103 => .object "FreckleChart$Coast"
  | _ => .array .long
-- methods: name, code, locals, what it returns; the place of its code word
abbrev y0 : MethodName := ⟨"FreckleChart", "<init>", "()V"⟩
abbrev y1 : MethodName := ⟨"java/lang/Object", "<init>", "()V"⟩
abbrev y2 : MethodName := ⟨"FreckleChart$Fraction", "<init>", "()V"⟩
abbrev y3 : MethodName := ⟨"FreckleChart$Trays", "<init>", "()V"⟩
abbrev y4 : MethodName := ⟨"FreckleChart$CoastText", "<init>", "()V"⟩
abbrev y5 : MethodName := ⟨"FreckleChart$Reader", "<init>", "()V"⟩
abbrev y6 : MethodName := ⟨"FreckleChart$YearsText", "<init>", "()V"⟩
abbrev y7 : MethodName := ⟨"FreckleChart$Pilot", "<init>", "()V"⟩
abbrev y8 : MethodName := ⟨"FreckleChart$Living", "<init>", "()V"⟩
abbrev y9 : MethodName := ⟨"FreckleChart$Coast", "<init>", "()V"⟩
abbrev y10 : MethodName := ⟨"FreckleChart$Years", "<init>", "()V"⟩
abbrev y11 : MethodName := ⟨"FreckleChart$Coast", "clear", "()V"⟩
abbrev y12 : MethodName := ⟨"FreckleChart$Years", "clear", "()V"⟩
abbrev y13 : MethodName := ⟨"FreckleChart", "status", "()I"⟩
abbrev y14 : MethodName := ⟨"FreckleChart", "top", "()J"⟩
abbrev y15 : MethodName := ⟨"FreckleChart", "bottom", "()J"⟩
abbrev y16 : MethodName := ⟨"FreckleChart", "tray", "(III)Z"⟩
abbrev y17 : MethodName := ⟨"FreckleChart$Trays", "make", "(III)I"⟩
abbrev y18 : MethodName := ⟨"FreckleChart$Trays", "isTray", "(I)Z"⟩
abbrev y19 : MethodName := ⟨"FreckleChart", "settle", "(I)Z"⟩
abbrev y20 : MethodName := ⟨"FreckleChart", "write", "(IIJ)Z"⟩
abbrev y21 : MethodName := ⟨"FreckleChart$Trays", "put", "(IIJ)I"⟩
abbrev y22 : MethodName := ⟨"FreckleChart$Trays", "lookAt", "(II)I"⟩
abbrev y23 : MethodName := ⟨"FreckleChart$Trays", "lookFor", "(II)I"⟩
abbrev y24 : MethodName := ⟨"FreckleChart$Trays", "cut", "(JI)J"⟩
abbrev y25 : MethodName := ⟨"FreckleChart", "read", "(II)J"⟩
abbrev y26 : MethodName := ⟨"FreckleChart", "pour", "(IIIII)Z"⟩
abbrev y27 : MethodName := ⟨"FreckleChart$Trays", "move", "(IIIII)I"⟩
abbrev y28 : MethodName := ⟨"FreckleChart", "feed", "(IIIII)I"⟩
abbrev y29 : MethodName := ⟨"FreckleChart", "tapeInt", "(I)V"⟩
abbrev y30 : MethodName := ⟨"FreckleChart", "coast", "(I)I"⟩
abbrev y31 : MethodName := ⟨"FreckleChart", "refuse", "(I)I"⟩
abbrev y32 : MethodName := ⟨"FreckleChart$CoastText", "take", "([BILFreckleChart$Coast;)Z"⟩
abbrev y33 : MethodName := ⟨"FreckleChart$Reader", "begin", "([BI)V"⟩
abbrev y34 : MethodName := ⟨"java/lang/Math", "min", "(II)I"⟩
abbrev y35 : MethodName := ⟨"java/lang/Math", "max", "(II)I"⟩
abbrev y36 : MethodName := ⟨"FreckleChart$Reader", "advance", "()V"⟩
abbrev y37 : MethodName := ⟨"FreckleChart$Reader", "readWord", "()V"⟩
abbrev y38 : MethodName := ⟨"FreckleChart$Reader", "readNumber", "()V"⟩
abbrev y39 : MethodName := ⟨"FreckleChart$Reader", "readSign", "()V"⟩
abbrev y40 : MethodName := ⟨"FreckleChart$Reader", "isWord", "(Ljava/lang/String;)Z"⟩
abbrev y41 : MethodName := ⟨"java/lang/String", "length", "()I"⟩
abbrev y42 : MethodName := ⟨"java/lang/String", "coder", "()B"⟩
abbrev y43 : MethodName := ⟨"java/lang/String", "charAt", "(I)C"⟩
abbrev y44 : MethodName := ⟨"java/lang/String", "isLatin1", "()Z"⟩
abbrev y45 : MethodName := ⟨"java/lang/StringLatin1", "charAt", "([BI)C"⟩
abbrev y46 : MethodName := ⟨"java/lang/String", "checkIndex", "(II)V"⟩
abbrev y47 : MethodName := ⟨"jdk/internal/util/Preconditions", "checkIndex", "(IILjava/util/function/BiFunction;)I"⟩
abbrev y48 : MethodName := ⟨"java/lang/StringUTF16", "charAt", "([BI)C"⟩
abbrev y49 : MethodName := ⟨"java/lang/StringUTF16", "checkIndex", "(I[B)V"⟩
abbrev y50 : MethodName := ⟨"java/lang/StringUTF16", "length", "([B)I"⟩
abbrev y51 : MethodName := ⟨"java/lang/StringUTF16", "getChar", "([BI)C"⟩
abbrev y52 : MethodName := ⟨"FreckleChart$CoastText", "takeSize", "(LFreckleChart$Coast;)Z"⟩
abbrev y53 : MethodName := ⟨"FreckleChart$Reader", "fail", "(I)Z"⟩
abbrev y54 : MethodName := ⟨"FreckleChart$Reader", "seeNumber", "(II)Z"⟩
abbrev y55 : MethodName := ⟨"FreckleChart$Reader", "reject", "()Z"⟩
abbrev y56 : MethodName := ⟨"FreckleChart$Reader", "passWord", "(Ljava/lang/String;)Z"⟩
abbrev y57 : MethodName := ⟨"FreckleChart$Reader", "passSemicolon", "()Z"⟩
abbrev y58 : MethodName := ⟨"FreckleChart$CoastText", "takeOdds", "(LFreckleChart$Coast;)Z"⟩
abbrev y59 : MethodName := ⟨"FreckleChart$CoastText", "takeRock", "(LFreckleChart$Coast;)Z"⟩
abbrev y60 : MethodName := ⟨"FreckleChart$Coast", "depthIn", "(I)I"⟩
abbrev y61 : MethodName := ⟨"FreckleChart$Coast", "addRock", "(II)V"⟩
abbrev y62 : MethodName := ⟨"FreckleChart$CoastText", "takeCousin", "(LFreckleChart$Coast;)Z"⟩
abbrev y63 : MethodName := ⟨"FreckleChart$Reader", "seeName", "()Z"⟩
abbrev y64 : MethodName := ⟨"FreckleChart$Reader", "isAmong", "(Ljava/lang/String;J)Z"⟩
abbrev y65 : MethodName := ⟨"FreckleChart$Coast", "cousinNamed", "(J)I"⟩
abbrev y66 : MethodName := ⟨"FreckleChart$CoastText", "takePatch", "(LFreckleChart$Coast;J)Z"⟩
abbrev y67 : MethodName := ⟨"FreckleChart$Coast", "column", "(I)I"⟩
abbrev y68 : MethodName := ⟨"FreckleChart$Coast", "row", "(I)I"⟩
abbrev y69 : MethodName := ⟨"FreckleChart$Coast", "addCousin", "(JIII)V"⟩
abbrev y70 : MethodName := ⟨"FreckleChart$Coast", "patchFrom", "(III)I"⟩
abbrev y71 : MethodName := ⟨"FreckleChart$CoastText", "takeLooks", "(LFreckleChart$Coast;I)Z"⟩
abbrev y72 : MethodName := ⟨"FreckleChart$Coast", "hasCousin", "(I)Z"⟩
abbrev y73 : MethodName := ⟨"FreckleChart$Coast", "cloak", "(IZ)Z"⟩
abbrev y74 : MethodName := ⟨"FreckleChart$Coast", "isBare", "(I)Z"⟩
abbrev y75 : MethodName := ⟨"FreckleChart$CoastText", "takeInk", "(LFreckleChart$Coast;I)Z"⟩
abbrev y76 : MethodName := ⟨"FreckleChart$Coast", "hasCell", "(I)Z"⟩
abbrev y77 : MethodName := ⟨"FreckleChart$Coast", "tattoo", "(II)I"⟩
abbrev y78 : MethodName := ⟨"java/lang/Integer", "bitCount", "(I)I"⟩
abbrev y79 : MethodName := ⟨"FreckleChart", "endText", "(LFreckleChart$Reader;)V"⟩
abbrev y80 : MethodName := ⟨"FreckleChart$Coast", "copyFrom", "(LFreckleChart$Coast;)V"⟩
abbrev y81 : MethodName := ⟨"FreckleChart$Coast", "copyAll", "([I[I)V"⟩
abbrev y82 : MethodName := ⟨"FreckleChart$Years", "copyFrom", "(LFreckleChart$Years;)V"⟩
abbrev y83 : MethodName := ⟨"FreckleChart", "tell", "(I)I"⟩
abbrev y84 : MethodName := ⟨"FreckleChart", "years", "(I)I"⟩
abbrev y85 : MethodName := ⟨"FreckleChart$YearsText", "take", "([BILFreckleChart$Coast;LFreckleChart$Years;)Z"⟩
abbrev y86 : MethodName := ⟨"FreckleChart$YearsText", "takeEnd", "(LFreckleChart$Years;)Z"⟩
abbrev y87 : MethodName := ⟨"FreckleChart$Years", "addLine", "(I)I"⟩
abbrev y88 : MethodName := ⟨"FreckleChart$Years", "join", "(II)V"⟩
abbrev y89 : MethodName := ⟨"FreckleChart$Years", "hasLine", "(I)Z"⟩
abbrev y90 : MethodName := ⟨"FreckleChart$YearsText", "kindOfStep", "()I"⟩
abbrev y91 : MethodName := ⟨"FreckleChart$YearsText", "lineForStep", "(LFreckleChart$Years;I)I"⟩
abbrev y92 : MethodName := ⟨"FreckleChart$YearsText", "takeTest", "(LFreckleChart$Coast;LFreckleChart$Years;I)Z"⟩
abbrev y93 : MethodName := ⟨"FreckleChart$YearsText", "takeCousin", "(LFreckleChart$Coast;LFreckleChart$Years;I)Z"⟩
abbrev y94 : MethodName := ⟨"FreckleChart$YearsText", "takeNumber", "([IIII)Z"⟩
abbrev y95 : MethodName := ⟨"FreckleChart$YearsText", "takeCompares", "(LFreckleChart$Years;I)Z"⟩
abbrev y96 : MethodName := ⟨"FreckleChart$YearsText", "takeNumbers", "(LFreckleChart$Coast;LFreckleChart$Years;I)Z"⟩
abbrev y97 : MethodName := ⟨"FreckleChart", "fault", "(I)I"⟩
abbrev y98 : MethodName := ⟨"FreckleChart", "many", "(I)I"⟩
abbrev y99 : MethodName := ⟨"FreckleChart$Coast", "rockSet", "()I"⟩
abbrev y100 : MethodName := ⟨"FreckleChart", "rock", "(II)I"⟩
abbrev y101 : MethodName := ⟨"FreckleChart", "isWithin", "(III)Z"⟩
abbrev y102 : MethodName := ⟨"FreckleChart", "deep", "(I)I"⟩
abbrev y103 : MethodName := ⟨"FreckleChart", "cousin", "(II)I"⟩
abbrev y104 : MethodName := ⟨"FreckleChart", "shown", "(I)I"⟩
abbrev y105 : MethodName := ⟨"FreckleChart$Coast", "spotsOn", "(I)I"⟩
abbrev y106 : MethodName := ⟨"FreckleChart$Coast", "rocksAbove", "(I)I"⟩
abbrev y107 : MethodName := ⟨"FreckleChart", "copyTan", "(I)I"⟩
abbrev y108 : MethodName := ⟨"FreckleChart", "sun", "(II)I"⟩
abbrev y109 : MethodName := ⟨"FreckleChart$Coast", "darken", "(II)Z"⟩
abbrev y110 : MethodName := ⟨"FreckleChart", "rain", "(I)I"⟩
abbrev y111 : MethodName := ⟨"FreckleChart$Coast", "bleach", "(I)I"⟩
abbrev y112 : MethodName := ⟨"FreckleChart", "veil", "(IZ)Z"⟩
abbrev y113 : MethodName := ⟨"FreckleChart", "ink", "(II)I"⟩
abbrev y114 : MethodName := ⟨"FreckleChart", "wash", "(I)I"⟩
abbrev y115 : MethodName := ⟨"FreckleChart$Coast", "scrub", "(I)I"⟩
abbrev y116 : MethodName := ⟨"FreckleChart", "wreck", "(II)I"⟩
abbrev y117 : MethodName := ⟨"FreckleChart", "sail", "(IIII)I"⟩
abbrev y118 : MethodName := ⟨"FreckleChart", "lookForWay", "(IIII)I"⟩
abbrev y119 : MethodName := ⟨"FreckleChart", "lookAtVoyage", "(IIII)I"⟩
abbrev y120 : MethodName := ⟨"FreckleChart$Coast", "hasSet", "(I)Z"⟩
abbrev y121 : MethodName := ⟨"FreckleChart$Coast", "sets", "()I"⟩
abbrev y122 : MethodName := ⟨"FreckleChart$Coast", "openBy", "(I)I"⟩
abbrev y123 : MethodName := ⟨"FreckleChart$Coast", "chartedBy", "(I)I"⟩
abbrev y124 : MethodName := ⟨"FreckleChart$Coast", "patchesOf", "(I)I"⟩
abbrev y125 : MethodName := ⟨"FreckleChart$Pilot", "findWay", "(LFreckleChart$Coast;III)Z"⟩
abbrev y126 : MethodName := ⟨"FreckleChart$Pilot", "lookAtEdges", "(LFreckleChart$Coast;)V"⟩
abbrev y127 : MethodName := ⟨"FreckleChart$Pilot", "spreadRings", "(III)I"⟩
abbrev y128 : MethodName := ⟨"FreckleChart$Pilot", "beside", "(I)I"⟩
abbrev y129 : MethodName := ⟨"FreckleChart$Pilot", "goAlong", "(II)V"⟩
abbrev y130 : MethodName := ⟨"FreckleChart$Pilot", "leastOf", "(I)I"⟩
abbrev y131 : MethodName := ⟨"FreckleChart$Pilot", "comesIn", "(LFreckleChart$Coast;I)Z"⟩
abbrev y132 : MethodName := ⟨"FreckleChart$Pilot", "struckCell", "(LFreckleChart$Coast;I)I"⟩
abbrev y133 : MethodName := ⟨"FreckleChart", "born", "(III)I"⟩
abbrev y134 : MethodName := ⟨"FreckleChart$Coast", "canBegin", "(III)Z"⟩
abbrev y135 : MethodName := ⟨"FreckleChart", "rule", "(I)Z"⟩
abbrev y136 : MethodName := ⟨"FreckleChart", "charted", "(I)I"⟩
abbrev y137 : MethodName := ⟨"FreckleChart", "open", "(I)I"⟩
abbrev y138 : MethodName := ⟨"FreckleChart", "way", "(III)I"⟩
abbrev y139 : MethodName := ⟨"FreckleChart", "wayAt", "(IIII)I"⟩
abbrev y140 : MethodName := ⟨"FreckleChart", "strikes", "(IIII)I"⟩
abbrev y141 : MethodName := ⟨"FreckleChart", "fewest", "(III)I"⟩
abbrev y142 : MethodName := ⟨"FreckleChart", "findFewest", "(III)I"⟩
abbrev y143 : MethodName := ⟨"FreckleChart$Pilot", "isSafe", "(LFreckleChart$Coast;IIII)Z"⟩
abbrev y144 : MethodName := ⟨"FreckleChart", "fewestSet", "(III)I"⟩
abbrev y145 : MethodName := ⟨"FreckleChart", "deepest", "(III)I"⟩
abbrev y146 : MethodName := ⟨"FreckleChart", "wants", "(I)I"⟩
abbrev y147 : MethodName := ⟨"FreckleChart", "forged", "(I)I"⟩
abbrev y148 : MethodName := ⟨"FreckleChart", "parted", "(II)I"⟩
abbrev y149 : MethodName := ⟨"FreckleChart", "cover", "()I"⟩
abbrev y150 : MethodName := ⟨"FreckleChart", "findCover", "()I"⟩
abbrev y151 : MethodName := ⟨"FreckleChart", "coverSet", "()I"⟩
abbrev y152 : MethodName := ⟨"FreckleChart", "fits", "(IIII)I"⟩
abbrev y153 : MethodName := ⟨"FreckleChart", "lookAtSeen", "(IIII)I"⟩
abbrev y154 : MethodName := ⟨"FreckleChart", "isPatchSize", "(II)Z"⟩
abbrev y155 : MethodName := ⟨"FreckleChart$Trays", "placesIn", "(II)I"⟩
abbrev y156 : MethodName := ⟨"FreckleChart$Coast", "fitting", "(III)I"⟩
abbrev y157 : MethodName := ⟨"FreckleChart$Coast", "begins", "(II)I"⟩
abbrev y158 : MethodName := ⟨"FreckleChart$Coast", "rocksAtPlace", "(II)I"⟩
abbrev y159 : MethodName := ⟨"FreckleChart", "fitsAt", "(IIIII)I"⟩
abbrev y160 : MethodName := ⟨"FreckleChart", "ask", "(II)I"⟩
abbrev y161 : MethodName := ⟨"FreckleChart", "game", "(I)I"⟩
abbrev y162 : MethodName := ⟨"FreckleChart", "bestEnd", "(LFreckleChart$Coast;IZ)I"⟩
abbrev y163 : MethodName := ⟨"FreckleChart$Coast", "rocksShown", "()I"⟩
abbrev y164 : MethodName := ⟨"FreckleChart", "endBehind", "(LFreckleChart$Coast;IIZ)I"⟩
abbrev y165 : MethodName := ⟨"FreckleChart", "moveOf", "(I)I"⟩
abbrev y166 : MethodName := ⟨"FreckleChart", "infant", "(III)Z"⟩
abbrev y167 : MethodName := ⟨"FreckleChart$Fraction", "putOdds", "(III)V"⟩
abbrev y168 : MethodName := ⟨"FreckleChart$Fraction", "countWays", "(II)V"⟩
abbrev y169 : MethodName := ⟨"FreckleChart$Fraction", "put", "(JJ)V"⟩
abbrev y170 : MethodName := ⟨"FreckleChart$Fraction", "commonDivisor", "(JJ)J"⟩
abbrev y171 : MethodName := ⟨"FreckleChart", "fades", "(II)Z"⟩
abbrev y172 : MethodName := ⟨"FreckleChart", "freckled", "(I)Z"⟩
abbrev y173 : MethodName := ⟨"FreckleChart", "live", "(I)I"⟩
abbrev y174 : MethodName := ⟨"FreckleChart$Living", "run", "(LFreckleChart$Coast;I)V"⟩
abbrev y175 : MethodName := ⟨"FreckleChart$Living", "lineBehindEnd", "(LFreckleChart$Years;I)I"⟩
abbrev y176 : MethodName := ⟨"FreckleChart$Living", "isDone", "(LFreckleChart$Coast;I)Z"⟩
abbrev y177 : MethodName := ⟨"FreckleChart$Living", "isDarkened", "(LFreckleChart$Coast;II)Z"⟩
abbrev y178 : MethodName := ⟨"FreckleChart$Living", "isSailed", "(LFreckleChart$Coast;I)Z"⟩
abbrev y179 : MethodName := ⟨"FreckleChart$Living", "isDrawnAndDone", "(LFreckleChart$Coast;)Z"⟩
abbrev y180 : MethodName := ⟨"FreckleChart$Living", "draw", "(I)I"⟩
abbrev y181 : MethodName := ⟨"FreckleChart$Living", "lineBehindStep", "(LFreckleChart$Coast;I)I"⟩
abbrev y182 : MethodName := ⟨"FreckleChart$Living", "holds", "(LFreckleChart$Coast;I)Z"⟩
abbrev y183 : MethodName := ⟨"FreckleChart$Living", "compares", "(III)Z"⟩
abbrev y184 : MethodName := ⟨"FreckleChart", "lived", "(I)I"⟩
abbrev y185 : MethodName := ⟨"FreckleChart", "mean", "(II)Z"⟩
abbrev y186 : MethodName := ⟨"FreckleChart$Coast", "tanTogether", "()I"⟩
abbrev y187 : MethodName := ⟨"FreckleChart", "mark", "()I"⟩
abbrev y188 : MethodName := ⟨"FreckleChart", "back", "()I"⟩
abbrev y189 : MethodName := ⟨"FreckleChartModel", "<init>", "()V"⟩
abbrev y190 : MethodName := ⟨"FreckleChartModel", "empties", "(I)V"⟩
abbrev y191 : MethodName := ⟨"FreckleChartModel", "status", "()I"⟩
abbrev y192 : MethodName := ⟨"FreckleChartModel", "top", "()J"⟩
abbrev y193 : MethodName := ⟨"FreckleChartModel", "bottom", "()J"⟩
abbrev y194 : MethodName := ⟨"FreckleChartModel", "tray", "(III)Z"⟩
abbrev y195 : MethodName := ⟨"FreckleChartModel", "no", "(I)Z"⟩
abbrev y196 : MethodName := ⟨"FreckleChartModel", "write", "(IIJ)Z"⟩
abbrev y197 : MethodName := ⟨"FreckleChartModel", "placed", "(II)I"⟩
abbrev y198 : MethodName := ⟨"FreckleChartModel", "trayed", "(I)I"⟩
abbrev y199 : MethodName := ⟨"FreckleChartModel", "cut", "(IJ)J"⟩
abbrev y200 : MethodName := ⟨"FreckleChartModel", "read", "(II)J"⟩
abbrev y201 : MethodName := ⟨"FreckleChartModel", "pour", "(IIIII)Z"⟩
abbrev y202 : MethodName := ⟨"FreckleChartModel", "feed", "(IIIII)I"⟩
abbrev y203 : MethodName := ⟨"FreckleChartModel", "lay", "(I)V"⟩
abbrev y204 : MethodName := ⟨"FreckleChartModel", "fault", "(I)I"⟩
abbrev y205 : MethodName := ⟨"FreckleChartModel", "coast", "(I)I"⟩
abbrev y206 : MethodName := ⟨"FreckleChartModel", "starts", "(II)Z"⟩
abbrev y207 : MethodName := ⟨"FreckleChartModel", "advance", "()V"⟩
abbrev y208 : MethodName := ⟨"FreckleChartModel", "look2", "(I)I"⟩
abbrev y209 : MethodName := ⟨"FreckleChartModel", "isLetter", "(I)Z"⟩
abbrev y210 : MethodName := ⟨"FreckleChartModel", "isDigit", "(I)Z"⟩
abbrev y211 : MethodName := ⟨"FreckleChartModel", "isSignByte", "(I)Z"⟩
abbrev y212 : MethodName := ⟨"FreckleChartModel", "readPart", "()V"⟩
abbrev y213 : MethodName := ⟨"FreckleChartModel", "isCoast", "()Z"⟩
abbrev y214 : MethodName := ⟨"FreckleChartModel", "spelled", "(IIIIII)J"⟩
abbrev y215 : MethodName := ⟨"FreckleChartModel", "isWord", "(J)Z"⟩
abbrev y216 : MethodName := ⟨"FreckleChartModel", "readCoast", "()V"⟩
abbrev y217 : MethodName := ⟨"FreckleChartModel", "fail", "(II)V"⟩
abbrev y218 : MethodName := ⟨"FreckleChartModel", "count", "(II)I"⟩
abbrev y219 : MethodName := ⟨"FreckleChartModel", "stands", "(II)I"⟩
abbrev y220 : MethodName := ⟨"FreckleChartModel", "amiss", "()V"⟩
abbrev y221 : MethodName := ⟨"FreckleChartModel", "isIn", "(JJJ)Z"⟩
abbrev y222 : MethodName := ⟨"FreckleChartModel", "must", "(Z)V"⟩
abbrev y223 : MethodName := ⟨"FreckleChartModel", "isBy", "()Z"⟩
abbrev y224 : MethodName := ⟨"FreckleChartModel", "behindWord", "(ZII)I"⟩
abbrev y225 : MethodName := ⟨"FreckleChartModel", "isOdds", "()Z"⟩
abbrev y226 : MethodName := ⟨"FreckleChartModel", "readOdds", "()V"⟩
abbrev y227 : MethodName := ⟨"FreckleChartModel", "isRock", "()Z"⟩
abbrev y228 : MethodName := ⟨"FreckleChartModel", "readRock", "()V"⟩
abbrev y229 : MethodName := ⟨"FreckleChartModel", "rockIn", "(II)I"⟩
abbrev y230 : MethodName := ⟨"FreckleChartModel", "isDeep", "()Z"⟩
abbrev y231 : MethodName := ⟨"FreckleChartModel", "wrecks", "(III)V"⟩
abbrev y232 : MethodName := ⟨"FreckleChartModel", "isCousin", "()Z"⟩
abbrev y233 : MethodName := ⟨"FreckleChartModel", "readCousin", "()V"⟩
abbrev y234 : MethodName := ⟨"FreckleChartModel", "isName", "()Z"⟩
abbrev y235 : MethodName := ⟨"FreckleChartModel", "isKept", "()Z"⟩
abbrev y236 : MethodName := ⟨"FreckleChartModel", "isAt", "()Z"⟩
abbrev y237 : MethodName := ⟨"FreckleChartModel", "isWide", "()Z"⟩
abbrev y238 : MethodName := ⟨"FreckleChartModel", "isHigh", "()Z"⟩
abbrev y239 : MethodName := ⟨"FreckleChartModel", "isInked", "()Z"⟩
abbrev y240 : MethodName := ⟨"FreckleChartModel", "stepWord", "()I"⟩
abbrev y241 : MethodName := ⟨"FreckleChartModel", "testWord", "()I"⟩
abbrev y242 : MethodName := ⟨"FreckleChartModel", "isTan", "()Z"⟩
abbrev y243 : MethodName := ⟨"FreckleChartModel", "isVeiled", "()Z"⟩
abbrev y244 : MethodName := ⟨"FreckleChartModel", "isEnd", "()Z"⟩
abbrev y245 : MethodName := ⟨"FreckleChartModel", "named", "(I)I"⟩
abbrev y246 : MethodName := ⟨"FreckleChartModel", "comes", "(IIII)V"⟩
abbrev y247 : MethodName := ⟨"FreckleChartModel", "perhaps", "(Z)Z"⟩
abbrev y248 : MethodName := ⟨"FreckleChartModel", "readInked", "(I)V"⟩
abbrev y249 : MethodName := ⟨"FreckleChartModel", "isOfPatch", "(III)Z"⟩
abbrev y250 : MethodName := ⟨"FreckleChartModel", "has", "(II)Z"⟩
abbrev y251 : MethodName := ⟨"FreckleChartModel", "isSign", "(I)Z"⟩
abbrev y252 : MethodName := ⟨"FreckleChartModel", "isWell", "()Z"⟩
abbrev y253 : MethodName := ⟨"FreckleChartModel", "copy", "(II)V"⟩
abbrev y254 : MethodName := ⟨"FreckleChartModel", "years", "(I)I"⟩
abbrev y255 : MethodName := ⟨"FreckleChartModel", "readStep", "(I)V"⟩
abbrev y256 : MethodName := ⟨"FreckleChartModel", "readRest", "(I)V"⟩
abbrev y257 : MethodName := ⟨"FreckleChartModel", "readTest", "(I)V"⟩
abbrev y258 : MethodName := ⟨"FreckleChartModel", "readTold", "()I"⟩
abbrev y259 : MethodName := ⟨"FreckleChartModel", "cells", "()I"⟩
abbrev y260 : MethodName := ⟨"FreckleChartModel", "many", "(I)I"⟩
abbrev y261 : MethodName := ⟨"FreckleChartModel", "refuse", "(I)I"⟩
abbrev y262 : MethodName := ⟨"FreckleChartModel", "veiledSet", "()I"⟩
abbrev y263 : MethodName := ⟨"FreckleChartModel", "rockCells", "()I"⟩
abbrev y264 : MethodName := ⟨"FreckleChartModel", "rock", "(II)I"⟩
abbrev y265 : MethodName := ⟨"FreckleChartModel", "isRockAt", "(I)Z"⟩
abbrev y266 : MethodName := ⟨"FreckleChartModel", "deep", "(I)I"⟩
abbrev y267 : MethodName := ⟨"FreckleChartModel", "isCellAt", "(I)Z"⟩
abbrev y268 : MethodName := ⟨"FreckleChartModel", "cousin", "(II)I"⟩
abbrev y269 : MethodName := ⟨"FreckleChartModel", "isCousinAt", "(I)Z"⟩
abbrev y270 : MethodName := ⟨"FreckleChartModel", "patchOf", "(I)I"⟩
abbrev y271 : MethodName := ⟨"FreckleChartModel", "shown", "(I)I"⟩
abbrev y272 : MethodName := ⟨"FreckleChartModel", "shownOn", "(I)I"⟩
abbrev y273 : MethodName := ⟨"FreckleChartModel", "copyTan", "(I)I"⟩
abbrev y274 : MethodName := ⟨"FreckleChartModel", "isTray", "(I)Z"⟩
abbrev y275 : MethodName := ⟨"FreckleChartModel", "sun", "(II)I"⟩
abbrev y276 : MethodName := ⟨"FreckleChartModel", "tans", "(II)Z"⟩
abbrev y277 : MethodName := ⟨"FreckleChartModel", "rain", "(I)I"⟩
abbrev y278 : MethodName := ⟨"FreckleChartModel", "rains", "(I)I"⟩
abbrev y279 : MethodName := ⟨"FreckleChartModel", "veil", "(IZ)Z"⟩
abbrev y280 : MethodName := ⟨"FreckleChartModel", "becomes", "(II)Z"⟩
abbrev y281 : MethodName := ⟨"FreckleChartModel", "ink", "(II)I"⟩
abbrev y282 : MethodName := ⟨"FreckleChartModel", "sizeOf", "(I)I"⟩
abbrev y283 : MethodName := ⟨"FreckleChartModel", "inks", "(II)Z"⟩
abbrev y284 : MethodName := ⟨"FreckleChartModel", "wash", "(I)I"⟩
abbrev y285 : MethodName := ⟨"FreckleChartModel", "wreck", "(II)I"⟩
abbrev y286 : MethodName := ⟨"FreckleChartModel", "born", "(III)I"⟩
abbrev y287 : MethodName := ⟨"FreckleChartModel", "rule", "(I)Z"⟩
abbrev y288 : MethodName := ⟨"FreckleChartModel", "sail", "(IIII)I"⟩
abbrev y289 : MethodName := ⟨"FreckleChartModel", "whyNoSail", "(IIII)I"⟩
abbrev y290 : MethodName := ⟨"FreckleChartModel", "whyNoWay", "(III)I"⟩
abbrev y291 : MethodName := ⟨"FreckleChartModel", "areCousins", "(I)Z"⟩
abbrev y292 : MethodName := ⟨"FreckleChartModel", "allCousins", "()I"⟩
abbrev y293 : MethodName := ⟨"FreckleChartModel", "sails", "(IIII)I"⟩
abbrev y294 : MethodName := ⟨"FreckleChartModel", "laysWay", "(III)I"⟩
abbrev y295 : MethodName := ⟨"FreckleChartModel", "openBy", "(I)I"⟩
abbrev y296 : MethodName := ⟨"FreckleChartModel", "chartedBy", "(I)I"⟩
abbrev y297 : MethodName := ⟨"FreckleChartModel", "isBeside", "(II)Z"⟩
abbrev y298 : MethodName := ⟨"java/lang/Math", "abs", "(I)I"⟩
abbrev y299 : MethodName := ⟨"FreckleChartModel", "strikesOn", "(II)I"⟩
abbrev y300 : MethodName := ⟨"FreckleChartModel", "isStruck", "(II)Z"⟩
abbrev y301 : MethodName := ⟨"FreckleChartModel", "nextOn", "(I)I"⟩
abbrev y302 : MethodName := ⟨"FreckleChartModel", "charted", "(I)I"⟩
abbrev y303 : MethodName := ⟨"FreckleChartModel", "open", "(I)I"⟩
abbrev y304 : MethodName := ⟨"FreckleChartModel", "way", "(III)I"⟩
abbrev y305 : MethodName := ⟨"FreckleChartModel", "wayAt", "(IIII)I"⟩
abbrev y306 : MethodName := ⟨"FreckleChartModel", "strikes", "(IIII)I"⟩
abbrev y307 : MethodName := ⟨"FreckleChartModel", "fewest", "(III)I"⟩
abbrev y308 : MethodName := ⟨"FreckleChartModel", "fewestOf", "(III)I"⟩
abbrev y309 : MethodName := ⟨"FreckleChartModel", "isSafe", "(IIII)Z"⟩
abbrev y310 : MethodName := ⟨"FreckleChartModel", "fewestSet", "(III)I"⟩
abbrev y311 : MethodName := ⟨"FreckleChartModel", "deepest", "(III)I"⟩
abbrev y312 : MethodName := ⟨"FreckleChartModel", "wants", "(I)I"⟩
abbrev y313 : MethodName := ⟨"FreckleChartModel", "forged", "(I)I"⟩
abbrev y314 : MethodName := ⟨"FreckleChartModel", "parted", "(II)I"⟩
abbrev y315 : MethodName := ⟨"FreckleChartModel", "whyNotTwo", "(II)I"⟩
abbrev y316 : MethodName := ⟨"FreckleChartModel", "cover", "()I"⟩
abbrev y317 : MethodName := ⟨"FreckleChartModel", "covering", "()I"⟩
abbrev y318 : MethodName := ⟨"FreckleChartModel", "coverSet", "()I"⟩
abbrev y319 : MethodName := ⟨"FreckleChartModel", "fits", "(IIII)I"⟩
abbrev y320 : MethodName := ⟨"FreckleChartModel", "whyNoFits", "(IIII)I"⟩
abbrev y321 : MethodName := ⟨"FreckleChartModel", "numberOf", "(II)J"⟩
abbrev y322 : MethodName := ⟨"FreckleChartModel", "placesTold", "(II)I"⟩
abbrev y323 : MethodName := ⟨"FreckleChartModel", "fitting", "(IIII)I"⟩
abbrev y324 : MethodName := ⟨"FreckleChartModel", "begins", "(III)Z"⟩
abbrev y325 : MethodName := ⟨"FreckleChartModel", "placeIn", "(IIII)I"⟩
abbrev y326 : MethodName := ⟨"FreckleChartModel", "fitsAt", "(IIIII)I"⟩
abbrev y327 : MethodName := ⟨"FreckleChartModel", "ask", "(II)I"⟩
abbrev y328 : MethodName := ⟨"FreckleChartModel", "game", "(I)I"⟩
abbrev y329 : MethodName := ⟨"FreckleChartModel", "plays", "(II)I"⟩
abbrev y330 : MethodName := ⟨"FreckleChartModel", "allShown", "()I"⟩
abbrev y331 : MethodName := ⟨"FreckleChartModel", "moveOf", "(I)I"⟩
abbrev y332 : MethodName := ⟨"FreckleChartModel", "infant", "(III)Z"⟩
abbrev y333 : MethodName := ⟨"FreckleChartModel", "odds", "(III)Z"⟩
abbrev y334 : MethodName := ⟨"FreckleChartModel", "fraction", "(JJ)Z"⟩
abbrev y335 : MethodName := ⟨"java/lang/Math", "abs", "(J)J"⟩
abbrev y336 : MethodName := ⟨"FreckleChartModel", "fades", "(II)Z"⟩
abbrev y337 : MethodName := ⟨"FreckleChartModel", "freckled", "(I)Z"⟩
abbrev y338 : MethodName := ⟨"FreckleChartModel", "live", "(I)I"⟩
abbrev y339 : MethodName := ⟨"FreckleChartModel", "runsYears", "(I)V"⟩
abbrev y340 : MethodName := ⟨"FreckleChartModel", "doAll", "(II)V"⟩
abbrev y341 : MethodName := ⟨"FreckleChartModel", "doOne", "(I)V"⟩
abbrev y342 : MethodName := ⟨"FreckleChartModel", "does", "(I)Z"⟩
abbrev y343 : MethodName := ⟨"FreckleChartModel", "isTanned", "(II)Z"⟩
abbrev y344 : MethodName := ⟨"FreckleChartModel", "isAny", "()Z"⟩
abbrev y345 : MethodName := ⟨"FreckleChartModel", "draw", "(I)I"⟩
abbrev y346 : MethodName := ⟨"FreckleChartModel", "isSo", "(I)Z"⟩
abbrev y347 : MethodName := ⟨"FreckleChartModel", "lived", "(I)I"⟩
abbrev y348 : MethodName := ⟨"FreckleChartModel", "mean", "(II)Z"⟩
abbrev y349 : MethodName := ⟨"FreckleChartModel", "mark", "()I"⟩
abbrev y350 : MethodName := ⟨"FreckleChartModel", "back", "()I"⟩
abbrev y351 : MethodName := ⟨"FreckleChartLaw", "law", "([I)Z"⟩
abbrev XM : Type := MethodName × ByteArray × Nat × Option FieldType
def xml0 : List XM := [(y0, prog_1_method_1_code, 1, none),
  (y1, object_method_1_code, 1, none),
  (y2, prog_4_method_1_code, 1, none),
  (y3, prog_8_method_1_code, 1, none),
  (y4, prog_3_method_1_code, 1, none),
  (y5, prog_7_method_1_code, 1, none),
  (y6, prog_10_method_1_code, 1, none),
  (y7, prog_6_method_1_code, 1, none),
  (y8, prog_5_method_1_code, 1, none),
  (y9, prog_2_method_1_code, 1, none),
  (y10, prog_9_method_1_code, 1, none),
  (y11, prog_2_method_2_code, 2, none),
  (y12, prog_9_method_2_code, 1, none),
  (y13, prog_1_method_2_code, 1, (Option.some Jvm.ClassFile.FieldType.int)),
  (y14, prog_1_method_3_code, 1, (Option.some Jvm.ClassFile.FieldType.long)),
  (y15, prog_1_method_4_code, 1, (Option.some Jvm.ClassFile.FieldType.long)),
  (y16, prog_1_method_9_code, 4, (Option.some Jvm.ClassFile.FieldType.boolean)),
  (y17, prog_8_method_3_code, 5, (Option.some Jvm.ClassFile.FieldType.int)),
  (y18, prog_8_method_2_code, 1, (Option.some Jvm.ClassFile.FieldType.boolean)),
  (y19, prog_1_method_7_code, 2, (Option.some Jvm.ClassFile.FieldType.boolean)),
  (y20, prog_1_method_10_code, 5, (Option.some Jvm.ClassFile.FieldType.boolean)),
  (y21, prog_8_method_6_code, 6, (Option.some Jvm.ClassFile.FieldType.int)),
  (y22, prog_8_method_5_code, 4, (Option.some Jvm.ClassFile.FieldType.int)),
  (y23, prog_8_method_4_code, 3, (Option.some Jvm.ClassFile.FieldType.int)),
  (y24, prog_8_method_7_code, 3, (Option.some Jvm.ClassFile.FieldType.long)),
  (y25, prog_1_method_11_code, 4, (Option.some Jvm.ClassFile.FieldType.long)),
  (y26, prog_1_method_12_code, 6, (Option.some Jvm.ClassFile.FieldType.boolean)),
  (y27, prog_8_method_8_code, 6, (Option.some Jvm.ClassFile.FieldType.int)),
  (y28, prog_1_method_13_code, 6, (Option.some Jvm.ClassFile.FieldType.int)),
  (y29, prog_1_method_14_code, 3, none),
  (y30, prog_1_method_15_code, 3, (Option.some Jvm.ClassFile.FieldType.int)),
  (y31, prog_1_method_6_code, 2, (Option.some Jvm.ClassFile.FieldType.int)),
  (y32, prog_3_method_2_code, 6, (Option.some Jvm.ClassFile.FieldType.boolean)),
  (y33, prog_7_method_2_code, 3, none),
  (y34, prog_14_method_69_code, 2, (Option.some Jvm.ClassFile.FieldType.int)),
  (y35, prog_14_method_65_code, 2, (Option.some Jvm.ClassFile.FieldType.int)),
  (y36, prog_7_method_3_code, 1, none),
  (y37, prog_7_method_4_code, 1, none),
  (y38, prog_7_method_5_code, 1, none),
  (y39, prog_7_method_6_code, 2, none),
  (y40, prog_7_method_7_code, 5, (Option.some Jvm.ClassFile.FieldType.boolean)),
  (y41, prog_15_method_54_code, 1, (Option.some Jvm.ClassFile.FieldType.int)),
  (y42, prog_15_method_152_code, 1, (Option.some Jvm.ClassFile.FieldType.byte)),
  (y43, prog_15_method_56_code, 2, (Option.some Jvm.ClassFile.FieldType.char)),
  (y44, prog_15_method_154_code, 1, (Option.some Jvm.ClassFile.FieldType.boolean)),
  (y45, prog_16_method_2_code, 2, (Option.some Jvm.ClassFile.FieldType.char)),
  (y46, prog_15_method_155_code, 2, none),
  (y47, prog_19_method_11_code, 3, (Option.some Jvm.ClassFile.FieldType.int)),
  (y48, prog_17_method_83_code, 2, (Option.some Jvm.ClassFile.FieldType.char)),
  (y49, prog_17_method_91_code, 2, none),
  (y50, prog_17_method_6_code, 1, (Option.some Jvm.ClassFile.FieldType.int)),
  (y51, prog_17_method_5_code, 2, (Option.some Jvm.ClassFile.FieldType.char)),
  (y52, prog_3_method_3_code, 2, (Option.some Jvm.ClassFile.FieldType.boolean)),
  (y53, prog_7_method_9_code, 2, (Option.some Jvm.ClassFile.FieldType.boolean)),
  (y54, prog_7_method_12_code, 3, (Option.some Jvm.ClassFile.FieldType.boolean)),
  (y55, prog_7_method_10_code, 1, (Option.some Jvm.ClassFile.FieldType.boolean)),
  (y56, prog_7_method_13_code, 2, (Option.some Jvm.ClassFile.FieldType.boolean)),
  (y57, prog_7_method_14_code, 1, (Option.some Jvm.ClassFile.FieldType.boolean)),
  (y58, prog_3_method_4_code, 2, (Option.some Jvm.ClassFile.FieldType.boolean)),
  (y59, prog_3_method_5_code, 3, (Option.some Jvm.ClassFile.FieldType.boolean))]
def xml1 : List XM := [(y60, prog_2_method_15_code, 3, (Option.some Jvm.ClassFile.FieldType.int)),
  (y61, prog_2_method_16_code, 4, none),
  (y62, prog_3_method_6_code, 4, (Option.some Jvm.ClassFile.FieldType.boolean)),
  (y63, prog_7_method_11_code, 2, (Option.some Jvm.ClassFile.FieldType.boolean)),
  (y64, prog_7_method_8_code, 7, (Option.some Jvm.ClassFile.FieldType.boolean)),
  (y65, prog_2_method_21_code, 4, (Option.some Jvm.ClassFile.FieldType.int)),
  (y66, prog_3_method_7_code, 6, (Option.some Jvm.ClassFile.FieldType.boolean)),
  (y67, prog_2_method_9_code, 2, (Option.some Jvm.ClassFile.FieldType.int)),
  (y68, prog_2_method_10_code, 2, (Option.some Jvm.ClassFile.FieldType.int)),
  (y69, prog_2_method_19_code, 6, none),
  (y70, prog_2_method_20_code, 7, (Option.some Jvm.ClassFile.FieldType.int)),
  (y71, prog_3_method_8_code, 3, (Option.some Jvm.ClassFile.FieldType.boolean)),
  (y72, prog_2_method_6_code, 2, (Option.some Jvm.ClassFile.FieldType.boolean)),
  (y73, prog_2_method_31_code, 3, (Option.some Jvm.ClassFile.FieldType.boolean)),
  (y74, prog_2_method_22_code, 2, (Option.some Jvm.ClassFile.FieldType.boolean)),
  (y75, prog_3_method_9_code, 5, (Option.some Jvm.ClassFile.FieldType.boolean)),
  (y76, prog_2_method_5_code, 2, (Option.some Jvm.ClassFile.FieldType.boolean)),
  (y77, prog_2_method_32_code, 3, (Option.some Jvm.ClassFile.FieldType.int)),
  (y78, prog_13_method_49_code, 1, (Option.some Jvm.ClassFile.FieldType.int)),
  (y79, prog_1_method_17_code, 2, none),
  (y80, prog_2_method_3_code, 2, none),
  (y81, prog_2_method_4_code, 2, none),
  (y82, prog_9_method_3_code, 2, none),
  (y83, prog_1_method_5_code, 2, (Option.some Jvm.ClassFile.FieldType.int)),
  (y84, prog_1_method_16_code, 3, (Option.some Jvm.ClassFile.FieldType.int)),
  (y85, prog_10_method_2_code, 9, (Option.some Jvm.ClassFile.FieldType.boolean)),
  (y86, prog_10_method_3_code, 3, (Option.some Jvm.ClassFile.FieldType.boolean)),
  (y87, prog_9_method_6_code, 2, (Option.some Jvm.ClassFile.FieldType.int)),
  (y88, prog_9_method_5_code, 3, none),
  (y89, prog_9_method_4_code, 2, (Option.some Jvm.ClassFile.FieldType.boolean)),
  (y90, prog_10_method_5_code, 1, (Option.some Jvm.ClassFile.FieldType.int)),
  (y91, prog_10_method_4_code, 5, (Option.some Jvm.ClassFile.FieldType.int)),
  (y92, prog_10_method_7_code, 4, (Option.some Jvm.ClassFile.FieldType.boolean)),
  (y93, prog_10_method_8_code, 5, (Option.some Jvm.ClassFile.FieldType.boolean)),
  (y94, prog_10_method_9_code, 5, (Option.some Jvm.ClassFile.FieldType.boolean)),
  (y95, prog_10_method_10_code, 3, (Option.some Jvm.ClassFile.FieldType.boolean)),
  (y96, prog_10_method_6_code, 5, (Option.some Jvm.ClassFile.FieldType.boolean)),
  (y97, prog_1_method_18_code, 2, (Option.some Jvm.ClassFile.FieldType.int)),
  (y98, prog_1_method_19_code, 2, (Option.some Jvm.ClassFile.FieldType.int)),
  (y99, prog_2_method_13_code, 1, (Option.some Jvm.ClassFile.FieldType.int)),
  (y100, prog_1_method_20_code, 3, (Option.some Jvm.ClassFile.FieldType.int)),
  (y101, prog_1_method_8_code, 3, (Option.some Jvm.ClassFile.FieldType.boolean)),
  (y102, prog_1_method_21_code, 3, (Option.some Jvm.ClassFile.FieldType.int)),
  (y103, prog_1_method_22_code, 3, (Option.some Jvm.ClassFile.FieldType.int)),
  (y104, prog_1_method_23_code, 2, (Option.some Jvm.ClassFile.FieldType.int)),
  (y105, prog_2_method_23_code, 2, (Option.some Jvm.ClassFile.FieldType.int)),
  (y106, prog_2_method_14_code, 2, (Option.some Jvm.ClassFile.FieldType.int)),
  (y107, prog_1_method_24_code, 4, (Option.some Jvm.ClassFile.FieldType.int)),
  (y108, prog_1_method_25_code, 3, (Option.some Jvm.ClassFile.FieldType.int)),
  (y109, prog_2_method_29_code, 3, (Option.some Jvm.ClassFile.FieldType.boolean)),
  (y110, prog_1_method_26_code, 2, (Option.some Jvm.ClassFile.FieldType.int)),
  (y111, prog_2_method_30_code, 4, (Option.some Jvm.ClassFile.FieldType.int)),
  (y112, prog_1_method_27_code, 3, (Option.some Jvm.ClassFile.FieldType.boolean)),
  (y113, prog_1_method_28_code, 4, (Option.some Jvm.ClassFile.FieldType.int)),
  (y114, prog_1_method_29_code, 3, (Option.some Jvm.ClassFile.FieldType.int)),
  (y115, prog_2_method_33_code, 3, (Option.some Jvm.ClassFile.FieldType.int)),
  (y116, prog_1_method_30_code, 3, (Option.some Jvm.ClassFile.FieldType.int)),
  (y117, prog_1_method_31_code, 6, (Option.some Jvm.ClassFile.FieldType.int)),
  (y118, prog_1_method_35_code, 6, (Option.some Jvm.ClassFile.FieldType.int)),
  (y119, prog_1_method_34_code, 6, (Option.some Jvm.ClassFile.FieldType.int))]
def xml2 : List XM := [(y120, prog_2_method_8_code, 2, (Option.some Jvm.ClassFile.FieldType.boolean)),
  (y121, prog_2_method_7_code, 1, (Option.some Jvm.ClassFile.FieldType.int)),
  (y122, prog_2_method_28_code, 4, (Option.some Jvm.ClassFile.FieldType.int)),
  (y123, prog_2_method_27_code, 2, (Option.some Jvm.ClassFile.FieldType.int)),
  (y124, prog_2_method_26_code, 4, (Option.some Jvm.ClassFile.FieldType.int)),
  (y125, prog_6_method_2_code, 6, (Option.some Jvm.ClassFile.FieldType.boolean)),
  (y126, prog_6_method_3_code, 3, none),
  (y127, prog_6_method_5_code, 6, (Option.some Jvm.ClassFile.FieldType.int)),
  (y128, prog_6_method_4_code, 2, (Option.some Jvm.ClassFile.FieldType.int)),
  (y129, prog_6_method_6_code, 4, none),
  (y130, prog_6_method_7_code, 1, (Option.some Jvm.ClassFile.FieldType.int)),
  (y131, prog_6_method_10_code, 3, (Option.some Jvm.ClassFile.FieldType.boolean)),
  (y132, prog_6_method_8_code, 5, (Option.some Jvm.ClassFile.FieldType.int)),
  (y133, prog_1_method_32_code, 4, (Option.some Jvm.ClassFile.FieldType.int)),
  (y134, prog_2_method_11_code, 4, (Option.some Jvm.ClassFile.FieldType.boolean)),
  (y135, prog_1_method_33_code, 2, (Option.some Jvm.ClassFile.FieldType.boolean)),
  (y136, prog_1_method_36_code, 2, (Option.some Jvm.ClassFile.FieldType.int)),
  (y137, prog_1_method_37_code, 2, (Option.some Jvm.ClassFile.FieldType.int)),
  (y138, prog_1_method_38_code, 5, (Option.some Jvm.ClassFile.FieldType.int)),
  (y139, prog_1_method_39_code, 6, (Option.some Jvm.ClassFile.FieldType.int)),
  (y140, prog_1_method_40_code, 7, (Option.some Jvm.ClassFile.FieldType.int)),
  (y141, prog_1_method_41_code, 5, (Option.some Jvm.ClassFile.FieldType.int)),
  (y142, prog_1_method_43_code, 9, (Option.some Jvm.ClassFile.FieldType.int)),
  (y143, prog_6_method_9_code, 6, (Option.some Jvm.ClassFile.FieldType.boolean)),
  (y144, prog_1_method_42_code, 4, (Option.some Jvm.ClassFile.FieldType.int)),
  (y145, prog_1_method_44_code, 6, (Option.some Jvm.ClassFile.FieldType.int)),
  (y146, prog_1_method_45_code, 4, (Option.some Jvm.ClassFile.FieldType.int)),
  (y147, prog_1_method_46_code, 2, (Option.some Jvm.ClassFile.FieldType.int)),
  (y148, prog_1_method_47_code, 4, (Option.some Jvm.ClassFile.FieldType.int)),
  (y149, prog_1_method_48_code, 2, (Option.some Jvm.ClassFile.FieldType.int)),
  (y150, prog_1_method_50_code, 5, (Option.some Jvm.ClassFile.FieldType.int)),
  (y151, prog_1_method_49_code, 1, (Option.some Jvm.ClassFile.FieldType.int)),
  (y152, prog_1_method_51_code, 6, (Option.some Jvm.ClassFile.FieldType.int)),
  (y153, prog_1_method_54_code, 9, (Option.some Jvm.ClassFile.FieldType.int)),
  (y154, prog_1_method_53_code, 2, (Option.some Jvm.ClassFile.FieldType.boolean)),
  (y155, prog_8_method_9_code, 5, (Option.some Jvm.ClassFile.FieldType.int)),
  (y156, prog_2_method_18_code, 7, (Option.some Jvm.ClassFile.FieldType.int)),
  (y157, prog_2_method_12_code, 5, (Option.some Jvm.ClassFile.FieldType.int)),
  (y158, prog_2_method_17_code, 3, (Option.some Jvm.ClassFile.FieldType.int)),
  (y159, prog_1_method_52_code, 10, (Option.some Jvm.ClassFile.FieldType.int)),
  (y160, prog_1_method_55_code, 10, (Option.some Jvm.ClassFile.FieldType.int)),
  (y161, prog_1_method_56_code, 2, (Option.some Jvm.ClassFile.FieldType.int)),
  (y162, prog_1_method_58_code, 6, (Option.some Jvm.ClassFile.FieldType.int)),
  (y163, prog_2_method_24_code, 3, (Option.some Jvm.ClassFile.FieldType.int)),
  (y164, prog_1_method_59_code, 7, (Option.some Jvm.ClassFile.FieldType.int)),
  (y165, prog_1_method_57_code, 6, (Option.some Jvm.ClassFile.FieldType.int)),
  (y166, prog_1_method_60_code, 7, (Option.some Jvm.ClassFile.FieldType.boolean)),
  (y167, prog_4_method_4_code, 7, none),
  (y168, prog_4_method_5_code, 7, none),
  (y169, prog_4_method_2_code, 7, none),
  (y170, prog_4_method_3_code, 11, (Option.some Jvm.ClassFile.FieldType.long)),
  (y171, prog_1_method_61_code, 4, (Option.some Jvm.ClassFile.FieldType.boolean)),
  (y172, prog_1_method_62_code, 3, (Option.some Jvm.ClassFile.FieldType.boolean)),
  (y173, prog_1_method_63_code, 2, (Option.some Jvm.ClassFile.FieldType.int)),
  (y174, prog_5_method_2_code, 6, none),
  (y175, prog_5_method_3_code, 4, (Option.some Jvm.ClassFile.FieldType.int)),
  (y176, prog_5_method_7_code, 6, (Option.some Jvm.ClassFile.FieldType.boolean)),
  (y177, prog_5_method_8_code, 4, (Option.some Jvm.ClassFile.FieldType.boolean)),
  (y178, prog_5_method_9_code, 5, (Option.some Jvm.ClassFile.FieldType.boolean)),
  (y179, prog_5_method_10_code, 3, (Option.some Jvm.ClassFile.FieldType.boolean))]
def xml3 : List XM := [(y180, prog_5_method_11_code, 2, (Option.some Jvm.ClassFile.FieldType.int)),
  (y181, prog_5_method_4_code, 4, (Option.some Jvm.ClassFile.FieldType.int)),
  (y182, prog_5_method_5_code, 5, (Option.some Jvm.ClassFile.FieldType.boolean)),
  (y183, prog_5_method_6_code, 3, (Option.some Jvm.ClassFile.FieldType.boolean)),
  (y184, prog_1_method_64_code, 2, (Option.some Jvm.ClassFile.FieldType.int)),
  (y185, prog_1_method_65_code, 6, (Option.some Jvm.ClassFile.FieldType.boolean)),
  (y186, prog_2_method_25_code, 3, (Option.some Jvm.ClassFile.FieldType.int)),
  (y187, prog_1_method_66_code, 1, (Option.some Jvm.ClassFile.FieldType.int)),
  (y188, prog_1_method_67_code, 2, (Option.some Jvm.ClassFile.FieldType.int)),
  (y189, prog_12_method_1_code, 2, none),
  (y190, prog_12_method_58_code, 4, none),
  (y191, prog_12_method_3_code, 1, (Option.some Jvm.ClassFile.FieldType.int)),
  (y192, prog_12_method_4_code, 1, (Option.some Jvm.ClassFile.FieldType.long)),
  (y193, prog_12_method_5_code, 1, (Option.some Jvm.ClassFile.FieldType.long)),
  (y194, prog_12_method_11_code, 5, (Option.some Jvm.ClassFile.FieldType.boolean)),
  (y195, prog_12_method_7_code, 2, (Option.some Jvm.ClassFile.FieldType.boolean)),
  (y196, prog_12_method_14_code, 5, (Option.some Jvm.ClassFile.FieldType.boolean)),
  (y197, prog_12_method_13_code, 4, (Option.some Jvm.ClassFile.FieldType.int)),
  (y198, prog_12_method_12_code, 2, (Option.some Jvm.ClassFile.FieldType.int)),
  (y199, prog_12_method_10_code, 3, (Option.some Jvm.ClassFile.FieldType.long)),
  (y200, prog_12_method_15_code, 3, (Option.some Jvm.ClassFile.FieldType.long)),
  (y201, prog_12_method_16_code, 9, (Option.some Jvm.ClassFile.FieldType.boolean)),
  (y202, prog_12_method_53_code, 6, (Option.some Jvm.ClassFile.FieldType.int)),
  (y203, prog_12_method_54_code, 3, none),
  (y204, prog_12_method_57_code, 2, (Option.some Jvm.ClassFile.FieldType.int)),
  (y205, prog_12_method_70_code, 2, (Option.some Jvm.ClassFile.FieldType.int)),
  (y206, prog_12_method_55_code, 3, (Option.some Jvm.ClassFile.FieldType.boolean)),
  (y207, prog_12_method_25_code, 2, none),
  (y208, prog_12_method_21_code, 2, (Option.some Jvm.ClassFile.FieldType.int)),
  (y209, prog_12_method_22_code, 1, (Option.some Jvm.ClassFile.FieldType.boolean)),
  (y210, prog_12_method_23_code, 1, (Option.some Jvm.ClassFile.FieldType.boolean)),
  (y211, prog_12_method_24_code, 2, (Option.some Jvm.ClassFile.FieldType.boolean)),
  (y212, prog_12_method_69_code, 1, none),
  (y213, prog_12_method_29_code, 1, (Option.some Jvm.ClassFile.FieldType.boolean)),
  (y214, prog_12_method_27_code, 8, (Option.some Jvm.ClassFile.FieldType.long)),
  (y215, prog_12_method_28_code, 3, (Option.some Jvm.ClassFile.FieldType.boolean)),
  (y216, prog_12_method_60_code, 1, none),
  (y217, prog_12_method_46_code, 3, none),
  (y218, prog_12_method_50_code, 4, (Option.some Jvm.ClassFile.FieldType.int)),
  (y219, prog_12_method_49_code, 3, (Option.some Jvm.ClassFile.FieldType.int)),
  (y220, prog_12_method_47_code, 1, none),
  (y221, prog_12_method_8_code, 6, (Option.some Jvm.ClassFile.FieldType.boolean)),
  (y222, prog_12_method_48_code, 2, none),
  (y223, prog_12_method_30_code, 1, (Option.some Jvm.ClassFile.FieldType.boolean)),
  (y224, prog_12_method_51_code, 4, (Option.some Jvm.ClassFile.FieldType.int)),
  (y225, prog_12_method_31_code, 1, (Option.some Jvm.ClassFile.FieldType.boolean)),
  (y226, prog_12_method_61_code, 1, none),
  (y227, prog_12_method_32_code, 1, (Option.some Jvm.ClassFile.FieldType.boolean)),
  (y228, prog_12_method_63_code, 4, none),
  (y229, prog_12_method_62_code, 5, (Option.some Jvm.ClassFile.FieldType.int)),
  (y230, prog_12_method_33_code, 1, (Option.some Jvm.ClassFile.FieldType.boolean)),
  (y231, prog_12_method_64_code, 5, none),
  (y232, prog_12_method_34_code, 1, (Option.some Jvm.ClassFile.FieldType.boolean)),
  (y233, prog_12_method_67_code, 6, none),
  (y234, prog_12_method_45_code, 1, (Option.some Jvm.ClassFile.FieldType.boolean)),
  (y235, prog_12_method_44_code, 1, (Option.some Jvm.ClassFile.FieldType.boolean)),
  (y236, prog_12_method_35_code, 1, (Option.some Jvm.ClassFile.FieldType.boolean)),
  (y237, prog_12_method_36_code, 1, (Option.some Jvm.ClassFile.FieldType.boolean)),
  (y238, prog_12_method_37_code, 1, (Option.some Jvm.ClassFile.FieldType.boolean)),
  (y239, prog_12_method_40_code, 1, (Option.some Jvm.ClassFile.FieldType.boolean))]
def xml4 : List XM := [(y240, prog_12_method_41_code, 1, (Option.some Jvm.ClassFile.FieldType.int)),
  (y241, prog_12_method_42_code, 1, (Option.some Jvm.ClassFile.FieldType.int)),
  (y242, prog_12_method_38_code, 1, (Option.some Jvm.ClassFile.FieldType.boolean)),
  (y243, prog_12_method_39_code, 1, (Option.some Jvm.ClassFile.FieldType.boolean)),
  (y244, prog_12_method_43_code, 1, (Option.some Jvm.ClassFile.FieldType.boolean)),
  (y245, prog_12_method_59_code, 3, (Option.some Jvm.ClassFile.FieldType.int)),
  (y246, prog_12_method_68_code, 6, none),
  (y247, prog_12_method_52_code, 2, (Option.some Jvm.ClassFile.FieldType.boolean)),
  (y248, prog_12_method_66_code, 5, none),
  (y249, prog_12_method_65_code, 7, (Option.some Jvm.ClassFile.FieldType.boolean)),
  (y250, prog_12_method_19_code, 2, (Option.some Jvm.ClassFile.FieldType.boolean)),
  (y251, prog_12_method_26_code, 2, (Option.some Jvm.ClassFile.FieldType.boolean)),
  (y252, prog_12_method_56_code, 1, (Option.some Jvm.ClassFile.FieldType.boolean)),
  (y253, prog_12_method_159_code, 4, none),
  (y254, prog_12_method_76_code, 3, (Option.some Jvm.ClassFile.FieldType.int)),
  (y255, prog_12_method_75_code, 5, none),
  (y256, prog_12_method_74_code, 3, none),
  (y257, prog_12_method_73_code, 3, none),
  (y258, prog_12_method_71_code, 2, (Option.some Jvm.ClassFile.FieldType.int)),
  (y259, prog_12_method_72_code, 1, (Option.some Jvm.ClassFile.FieldType.int)),
  (y260, prog_12_method_86_code, 2, (Option.some Jvm.ClassFile.FieldType.int)),
  (y261, prog_12_method_6_code, 2, (Option.some Jvm.ClassFile.FieldType.int)),
  (y262, prog_12_method_82_code, 3, (Option.some Jvm.ClassFile.FieldType.int)),
  (y263, prog_12_method_83_code, 3, (Option.some Jvm.ClassFile.FieldType.int)),
  (y264, prog_12_method_87_code, 3, (Option.some Jvm.ClassFile.FieldType.int)),
  (y265, prog_12_method_78_code, 2, (Option.some Jvm.ClassFile.FieldType.boolean)),
  (y266, prog_12_method_88_code, 3, (Option.some Jvm.ClassFile.FieldType.int)),
  (y267, prog_12_method_77_code, 2, (Option.some Jvm.ClassFile.FieldType.boolean)),
  (y268, prog_12_method_89_code, 3, (Option.some Jvm.ClassFile.FieldType.int)),
  (y269, prog_12_method_79_code, 2, (Option.some Jvm.ClassFile.FieldType.boolean)),
  (y270, prog_12_method_84_code, 4, (Option.some Jvm.ClassFile.FieldType.int)),
  (y271, prog_12_method_90_code, 2, (Option.some Jvm.ClassFile.FieldType.int)),
  (y272, prog_12_method_85_code, 4, (Option.some Jvm.ClassFile.FieldType.int)),
  (y273, prog_12_method_91_code, 3, (Option.some Jvm.ClassFile.FieldType.int)),
  (y274, prog_12_method_18_code, 2, (Option.some Jvm.ClassFile.FieldType.boolean)),
  (y275, prog_12_method_93_code, 3, (Option.some Jvm.ClassFile.FieldType.int)),
  (y276, prog_12_method_92_code, 3, (Option.some Jvm.ClassFile.FieldType.boolean)),
  (y277, prog_12_method_95_code, 2, (Option.some Jvm.ClassFile.FieldType.int)),
  (y278, prog_12_method_94_code, 4, (Option.some Jvm.ClassFile.FieldType.int)),
  (y279, prog_12_method_97_code, 3, (Option.some Jvm.ClassFile.FieldType.boolean)),
  (y280, prog_12_method_96_code, 3, (Option.some Jvm.ClassFile.FieldType.boolean)),
  (y281, prog_12_method_99_code, 3, (Option.some Jvm.ClassFile.FieldType.int)),
  (y282, prog_12_method_20_code, 3, (Option.some Jvm.ClassFile.FieldType.int)),
  (y283, prog_12_method_98_code, 3, (Option.some Jvm.ClassFile.FieldType.boolean)),
  (y284, prog_12_method_100_code, 3, (Option.some Jvm.ClassFile.FieldType.int)),
  (y285, prog_12_method_101_code, 4, (Option.some Jvm.ClassFile.FieldType.int)),
  (y286, prog_12_method_102_code, 5, (Option.some Jvm.ClassFile.FieldType.int)),
  (y287, prog_12_method_103_code, 2, (Option.some Jvm.ClassFile.FieldType.boolean)),
  (y288, prog_12_method_114_code, 6, (Option.some Jvm.ClassFile.FieldType.int)),
  (y289, prog_12_method_112_code, 6, (Option.some Jvm.ClassFile.FieldType.int)),
  (y290, prog_12_method_111_code, 4, (Option.some Jvm.ClassFile.FieldType.int)),
  (y291, prog_12_method_81_code, 2, (Option.some Jvm.ClassFile.FieldType.boolean)),
  (y292, prog_12_method_80_code, 1, (Option.some Jvm.ClassFile.FieldType.int)),
  (y293, prog_12_method_113_code, 6, (Option.some Jvm.ClassFile.FieldType.int)),
  (y294, prog_12_method_107_code, 8, (Option.some Jvm.ClassFile.FieldType.int)),
  (y295, prog_12_method_105_code, 4, (Option.some Jvm.ClassFile.FieldType.int)),
  (y296, prog_12_method_104_code, 4, (Option.some Jvm.ClassFile.FieldType.int)),
  (y297, prog_12_method_106_code, 3, (Option.some Jvm.ClassFile.FieldType.boolean)),
  (y298, prog_14_method_59_code, 1, (Option.some Jvm.ClassFile.FieldType.int)),
  (y299, prog_12_method_110_code, 4, (Option.some Jvm.ClassFile.FieldType.int))]
def xml5 : List XM := [(y300, prog_12_method_109_code, 4, (Option.some Jvm.ClassFile.FieldType.boolean)),
  (y301, prog_12_method_108_code, 3, (Option.some Jvm.ClassFile.FieldType.int)),
  (y302, prog_12_method_115_code, 2, (Option.some Jvm.ClassFile.FieldType.int)),
  (y303, prog_12_method_116_code, 2, (Option.some Jvm.ClassFile.FieldType.int)),
  (y304, prog_12_method_117_code, 5, (Option.some Jvm.ClassFile.FieldType.int)),
  (y305, prog_12_method_118_code, 7, (Option.some Jvm.ClassFile.FieldType.int)),
  (y306, prog_12_method_119_code, 6, (Option.some Jvm.ClassFile.FieldType.int)),
  (y307, prog_12_method_122_code, 5, (Option.some Jvm.ClassFile.FieldType.int)),
  (y308, prog_12_method_121_code, 6, (Option.some Jvm.ClassFile.FieldType.int)),
  (y309, prog_12_method_120_code, 5, (Option.some Jvm.ClassFile.FieldType.boolean)),
  (y310, prog_12_method_123_code, 5, (Option.some Jvm.ClassFile.FieldType.int)),
  (y311, prog_12_method_124_code, 5, (Option.some Jvm.ClassFile.FieldType.int)),
  (y312, prog_12_method_125_code, 4, (Option.some Jvm.ClassFile.FieldType.int)),
  (y313, prog_12_method_126_code, 2, (Option.some Jvm.ClassFile.FieldType.int)),
  (y314, prog_12_method_128_code, 3, (Option.some Jvm.ClassFile.FieldType.int)),
  (y315, prog_12_method_127_code, 3, (Option.some Jvm.ClassFile.FieldType.int)),
  (y316, prog_12_method_130_code, 2, (Option.some Jvm.ClassFile.FieldType.int)),
  (y317, prog_12_method_129_code, 5, (Option.some Jvm.ClassFile.FieldType.int)),
  (y318, prog_12_method_131_code, 2, (Option.some Jvm.ClassFile.FieldType.int)),
  (y319, prog_12_method_137_code, 5, (Option.some Jvm.ClassFile.FieldType.int)),
  (y320, prog_12_method_134_code, 6, (Option.some Jvm.ClassFile.FieldType.int)),
  (y321, prog_12_method_17_code, 3, (Option.some Jvm.ClassFile.FieldType.long)),
  (y322, prog_12_method_135_code, 5, (Option.some Jvm.ClassFile.FieldType.int)),
  (y323, prog_12_method_136_code, 9, (Option.some Jvm.ClassFile.FieldType.int)),
  (y324, prog_12_method_133_code, 4, (Option.some Jvm.ClassFile.FieldType.boolean)),
  (y325, prog_12_method_132_code, 4, (Option.some Jvm.ClassFile.FieldType.int)),
  (y326, prog_12_method_138_code, 7, (Option.some Jvm.ClassFile.FieldType.int)),
  (y327, prog_12_method_139_code, 9, (Option.some Jvm.ClassFile.FieldType.int)),
  (y328, prog_12_method_142_code, 2, (Option.some Jvm.ClassFile.FieldType.int)),
  (y329, prog_12_method_141_code, 10, (Option.some Jvm.ClassFile.FieldType.int)),
  (y330, prog_12_method_140_code, 3, (Option.some Jvm.ClassFile.FieldType.int)),
  (y331, prog_12_method_143_code, 2, (Option.some Jvm.ClassFile.FieldType.int)),
  (y332, prog_12_method_145_code, 6, (Option.some Jvm.ClassFile.FieldType.boolean)),
  (y333, prog_12_method_144_code, 9, (Option.some Jvm.ClassFile.FieldType.boolean)),
  (y334, prog_12_method_9_code, 11, (Option.some Jvm.ClassFile.FieldType.boolean)),
  (y335, prog_14_method_61_code, 2, (Option.some Jvm.ClassFile.FieldType.long)),
  (y336, prog_12_method_146_code, 3, (Option.some Jvm.ClassFile.FieldType.boolean)),
  (y337, prog_12_method_147_code, 2, (Option.some Jvm.ClassFile.FieldType.boolean)),
  (y338, prog_12_method_156_code, 2, (Option.some Jvm.ClassFile.FieldType.int)),
  (y339, prog_12_method_155_code, 2, none),
  (y340, prog_12_method_154_code, 4, none),
  (y341, prog_12_method_153_code, 5, none),
  (y342, prog_12_method_151_code, 4, (Option.some Jvm.ClassFile.FieldType.boolean)),
  (y343, prog_12_method_149_code, 3, (Option.some Jvm.ClassFile.FieldType.boolean)),
  (y344, prog_12_method_150_code, 2, (Option.some Jvm.ClassFile.FieldType.boolean)),
  (y345, prog_12_method_148_code, 2, (Option.some Jvm.ClassFile.FieldType.int)),
  (y346, prog_12_method_152_code, 5, (Option.some Jvm.ClassFile.FieldType.boolean)),
  (y347, prog_12_method_157_code, 2, (Option.some Jvm.ClassFile.FieldType.int)),
  (y348, prog_12_method_158_code, 7, (Option.some Jvm.ClassFile.FieldType.boolean)),
  (y349, prog_12_method_160_code, 1, (Option.some Jvm.ClassFile.FieldType.int)),
  (y350, prog_12_method_161_code, 1, (Option.some Jvm.ClassFile.FieldType.int))]
def xml : List XM := xml0 ++ (xml1 ++ (xml2 ++ (xml3 ++ (xml4 ++ (xml5)))))
def xm (k : Nat) : XM := xml.getD k (y0, code, 0, none)
def mlkl : List Nat := [1, 1, 1, 1, 1, 1, 1, 1, 1, 1, 1, 2, 1, 1, 1, 1, 4, 5, 1, 2, 5, 6, 4, 3, 3, 4, 6, 6, 6, 3, 3, 2, 6, 3, 2, 2, 1, 1, 1, 2,
  5, 1, 1, 2, 1, 2, 2, 3, 2, 2, 1, 2, 2, 2, 3, 1, 2, 1, 2, 3, 3, 4, 4, 2, 7, 4, 6, 2, 2, 6, 7, 3, 2, 3, 2, 5, 2, 3, 1, 2,
  2, 2, 2, 2, 3, 9, 3, 2, 3, 2, 1, 5, 4, 5, 5, 3, 5, 2, 2, 1, 3, 3, 3, 3, 2, 2, 2, 4, 3, 3, 2, 4, 3, 4, 3, 3, 3, 6, 6, 6,
  2, 1, 4, 2, 4, 6, 3, 6, 2, 4, 1, 3, 5, 4, 4, 2, 2, 2, 5, 6, 7, 5, 9, 6, 4, 6, 4, 2, 4, 2, 5, 1, 6, 9, 2, 5, 7, 5, 3, 10,
  10, 2, 6, 3, 7, 6, 7, 7, 7, 7, 11, 4, 3, 2, 6, 4, 6, 4, 5, 3, 2, 4, 5, 3, 2, 6, 3, 1, 2, 2, 4, 1, 1, 1, 5, 2, 5, 4, 2, 3,
  3, 9, 6, 3, 2, 2, 3, 2, 2, 1, 1, 2, 1, 1, 8, 3, 1, 3, 4, 3, 1, 6, 2, 1, 4, 1, 1, 1, 4, 5, 1, 5, 1, 6, 1, 1, 1, 1, 1, 1,
  1, 1, 1, 1, 1, 3, 6, 2, 5, 7, 2, 2, 1, 4, 3, 5, 3, 3, 2, 1, 2, 2, 3, 3, 3, 2, 3, 2, 3, 2, 4, 2, 4, 3, 2, 3, 3, 2, 4, 3,
  3, 3, 3, 3, 3, 4, 5, 2, 6, 6, 4, 2, 1, 6, 8, 4, 4, 3, 1, 4, 4, 3, 2, 2, 5, 7, 6, 5, 6, 5, 5, 5, 4, 2, 3, 3, 2, 5, 2, 5,
  6, 3, 5, 9, 4, 4, 7, 9, 2, 10, 3, 2, 6, 9, 11, 2, 3, 2, 2, 2, 4, 5, 4, 3, 2, 2, 5, 2, 7, 1, 1, 4]
def mlk (k : Nat) : Nat := mlkl.getD k 0
def mck (k : Nat) : Nat := match k with
  | 0 => 64
  | 2 => 1
  | 3 => 7
  | 4 => 2
  | 5 => 1
  | 6 => 3
  | 7 => 2
  | 8 => 4
  | 9 => 17
  | 10 => 6
  | 187 => 18
  | 189 => 10
  | 351 => 600000
  | _ => 0
def msk (k : Nat) : Nat := match k with
  | 0 => 4156
  | 2 => 16
  | 3 => 252
  | 4 => 910
  | 5 => 900
  | 6 => 913
  | 7 => 61
  | 8 => 127
  | 9 => 452
  | 10 => 360
  | 187 => 471
  | 189 => 3027
  | 351 => 7302250
  | _ => 0
def xicl : List Nat := [163, 166, 171, 190, 210, 216, 274, 293, 320, 362, 368, 417, 421, 571, 575, 579, 583, 587, 590, 594, 598, 602, 606, 610, 613, 617, 623, 627, 634, 638,
  642, 646, 650, 654, 657, 660, 665, 669, 673, 677, 683, 687, 691, 697, 701, 704, 707, 712, 715, 718, 721, 725, 735, 739, 744, 748, 754, 759, 764, 769,
  773, 778, 783, 787, 791, 796, 800, 806, 811, 815, 819, 823, 827, 833, 838, 843, 847, 851, 855, 863, 867, 870, 876, 881, 885, 889, 897, 902, 906, 910,
  915, 930, 935, 941, 947, 953, 958, 964, 968, 972, 976, 979, 983, 989, 995, 999, 1003, 1007, 1012, 1016, 1020, 1024, 1029, 1034, 1040, 1044, 1048, 1053, 1057, 1061,
  1065, 1069, 1073, 1078, 1082, 1086, 1091, 1095, 1099, 1103, 1106, 1111, 1115, 1120, 1124, 1131, 1135, 1140, 1144, 1148, 1152, 1157, 1161, 1166, 1172, 1176, 1180, 1185, 1189, 1193,
  1197, 1202, 1206, 1210, 1213, 1217, 1221, 1225, 1230, 1235, 1239, 1246, 1249, 1253, 1256, 1261, 1265, 1269, 1273, 1278, 1281, 1285, 1289, 1294, 1298, 1304, 1308, 1312, 1321, 1329,
  1333, 1339, 1342, 1346, 1350, 1354, 1358, 1362, 1366, 1371, 1376, 1504, 1508, 1512, 1516, 1520, 1524, 1528, 1532, 1535, 1539, 1544, 1548, 1552, 1556, 1560, 1564, 1568, 1572, 1575,
  1580, 1584, 1588, 1592, 1595, 1599, 1603, 1607, 1611, 1615, 1619, 1622, 1626, 1630, 1634, 1638, 1642, 1646, 1650, 1654, 1658, 1662, 1666, 1670, 1674, 1678, 1682, 1686, 1690, 1694,
  1698, 1702, 1706, 1710, 1714, 1718, 1722, 1726, 1730, 1734, 1737, 1741, 1745, 1749, 1753, 1757, 1761, 1765, 1769, 1774, 1778, 1783, 1787, 1791, 1795, 1799, 1803, 1807, 1811, 1815,
  1820, 1824, 1828, 1832, 1836, 1842, 1847, 1852, 1856, 1860, 1864, 1868, 1871, 1875, 1879, 1883, 1887, 1891, 1896, 1900, 1904, 1908, 1912, 1917, 1921, 1925, 1929, 1933, 1936, 1940,
  1944, 1948, 1952, 1956, 1960, 1964, 1968, 1972, 1976, 1980, 1984, 1988, 1992, 1996, 2000, 2004, 2008, 2012, 2016, 2020, 2024, 2030, 2034, 2038, 2042, 2045, 2049, 2053, 2057, 2062,
  2066, 2070, 2074, 2079, 2083, 2086, 2090, 2094, 2098, 2103, 2107, 2111, 2115, 2119, 2123, 2127, 2132, 2136, 2140, 2144, 2148]
/-- hints: the places of a method's words, how many arguments, its kind (0 virtual, 1 static, 2 a constructor) -/
def xhl : List (Nat × Nat × Nat × Nat × Nat × Nat) := [(163, 141, 162, 0, 0, 2), (166, 0, 165, 0, 0, 2), (171, 142, 170, 0, 0, 2), (190, 143, 189, 0, 0, 2), (210, 144, 209, 0, 0, 2), (216, 145, 215, 0, 0, 2),
  (274, 146, 273, 0, 0, 2), (293, 147, 292, 0, 0, 2), (320, 148, 319, 0, 0, 2), (362, 149, 361, 0, 0, 2), (368, 150, 367, 0, 0, 2), (417, 149, 415, 416, 0, 0),
  (421, 150, 419, 420, 0, 0), (571, 141, 569, 570, 0, 0), (575, 141, 573, 574, 0, 0), (579, 141, 577, 578, 0, 0), (583, 141, 581, 582, 3, 0), (587, 143, 585, 586, 3, 0),
  (590, 143, 589, 0, 1, 1), (594, 141, 593, 0, 1, 0), (598, 141, 596, 597, 3, 0), (602, 143, 600, 601, 3, 0), (606, 143, 604, 605, 2, 0), (610, 143, 608, 609, 2, 0),
  (613, 143, 612, 0, 2, 1), (617, 141, 615, 616, 2, 0), (623, 141, 621, 622, 5, 0), (627, 143, 625, 626, 5, 0), (634, 141, 632, 633, 5, 0), (638, 141, 637, 1, 1, 0),
  (642, 141, 640, 641, 1, 0), (646, 141, 645, 2, 1, 0), (650, 144, 648, 649, 3, 0), (654, 145, 652, 653, 2, 0), (657, 153, 656, 0, 2, 1), (660, 153, 659, 0, 2, 1),
  (665, 145, 663, 664, 0, 0), (669, 145, 668, 3, 0, 0), (673, 145, 672, 4, 0, 0), (677, 145, 676, 5, 0, 0), (683, 145, 681, 682, 1, 0), (687, 154, 685, 686, 0, 0),
  (691, 154, 689, 690, 0, 0), (697, 154, 695, 696, 1, 0), (701, 154, 699, 700, 0, 0), (704, 155, 703, 0, 2, 1), (707, 154, 706, 0, 2, 1), (712, 156, 711, 0, 3, 1),
  (715, 157, 714, 0, 2, 1), (718, 157, 717, 0, 2, 1), (721, 157, 720, 0, 1, 1), (725, 157, 724, 0, 2, 1), (735, 144, 734, 6, 1, 0), (739, 145, 737, 738, 1, 0),
  (744, 145, 742, 743, 2, 0), (748, 145, 746, 747, 0, 0), (754, 145, 752, 753, 1, 0), (759, 145, 757, 758, 0, 0), (764, 144, 763, 7, 1, 0), (769, 144, 768, 8, 1, 0),
  (773, 149, 771, 772, 1, 0), (778, 149, 776, 777, 2, 0), (783, 144, 782, 9, 1, 0), (787, 145, 785, 786, 0, 0), (791, 145, 790, 0, 2, 1), (796, 149, 794, 795, 1, 0),
  (800, 144, 799, 10, 2, 0), (806, 149, 804, 805, 1, 0), (811, 149, 809, 810, 1, 0), (815, 149, 813, 814, 4, 0), (819, 149, 818, 11, 3, 0), (823, 144, 822, 12, 2, 0),
  (827, 149, 825, 826, 1, 0), (833, 149, 831, 832, 2, 0), (838, 149, 836, 837, 1, 0), (843, 144, 842, 13, 2, 0), (847, 149, 845, 846, 1, 0), (851, 149, 849, 850, 2, 0),
  (855, 158, 854, 0, 1, 1), (863, 141, 862, 14, 1, 0), (867, 149, 865, 866, 1, 0), (870, 149, 869, 0, 2, 1), (876, 150, 874, 875, 1, 0), (881, 141, 880, 15, 1, 0),
  (885, 141, 883, 884, 1, 0), (889, 146, 887, 888, 4, 0), (897, 146, 896, 16, 1, 0), (902, 150, 900, 901, 1, 0), (906, 150, 904, 905, 2, 0), (910, 150, 908, 909, 1, 0),
  (915, 146, 914, 17, 0, 0), (930, 146, 929, 18, 2, 0), (935, 146, 934, 19, 3, 0), (941, 146, 940, 20, 3, 0), (947, 146, 946, 21, 4, 0), (953, 146, 952, 22, 2, 0),
  (958, 146, 957, 23, 3, 0), (964, 141, 962, 963, 1, 0), (968, 141, 966, 967, 1, 0), (972, 149, 970, 971, 0, 0), (976, 141, 974, 975, 2, 0), (979, 141, 978, 0, 3, 1),
  (983, 141, 981, 982, 1, 0), (989, 141, 987, 988, 2, 0), (995, 141, 993, 994, 1, 0), (999, 149, 997, 998, 1, 0), (1003, 149, 1001, 1002, 1, 0), (1007, 141, 1005, 1006, 1, 0),
  (1012, 141, 1010, 1011, 2, 0), (1016, 149, 1014, 1015, 2, 0), (1020, 141, 1018, 1019, 1, 0), (1024, 149, 1022, 1023, 1, 0), (1029, 141, 1027, 1028, 2, 0), (1034, 141, 1032, 1033, 2, 0),
  (1040, 141, 1038, 1039, 1, 0), (1044, 149, 1042, 1043, 1, 0), (1048, 141, 1046, 1047, 2, 0), (1053, 141, 1051, 1052, 4, 0), (1057, 141, 1056, 24, 4, 0), (1061, 141, 1060, 25, 4, 0),
  (1065, 149, 1063, 1064, 1, 0), (1069, 149, 1067, 1068, 0, 0), (1073, 149, 1071, 1072, 1, 0), (1078, 149, 1076, 1077, 1, 0), (1082, 149, 1080, 1081, 1, 0), (1086, 147, 1084, 1085, 4, 0),
  (1091, 147, 1090, 26, 1, 0), (1095, 147, 1094, 27, 3, 0), (1099, 147, 1098, 28, 1, 0), (1103, 147, 1102, 29, 2, 0), (1106, 147, 1105, 0, 1, 1), (1111, 147, 1109, 1110, 2, 0),
  (1115, 147, 1113, 1114, 2, 0), (1120, 141, 1118, 1119, 3, 0), (1124, 149, 1122, 1123, 3, 0), (1131, 141, 1129, 1130, 1, 0), (1135, 141, 1133, 1134, 1, 0), (1140, 141, 1138, 1139, 1, 0),
  (1144, 141, 1142, 1143, 3, 0), (1148, 141, 1146, 1147, 4, 0), (1152, 141, 1150, 1151, 4, 0), (1157, 141, 1155, 1156, 3, 0), (1161, 141, 1160, 30, 3, 0), (1166, 147, 1164, 1165, 5, 0),
  (1172, 141, 1170, 1171, 3, 0), (1176, 141, 1174, 1175, 3, 0), (1180, 141, 1178, 1179, 1, 0), (1185, 141, 1183, 1184, 1, 0), (1189, 141, 1187, 1188, 2, 0), (1193, 141, 1191, 1192, 0, 0),
  (1197, 141, 1196, 31, 0, 0), (1202, 141, 1200, 1201, 0, 0), (1206, 141, 1204, 1205, 4, 0), (1210, 141, 1209, 32, 4, 0), (1213, 141, 1212, 0, 2, 1), (1217, 143, 1215, 1216, 2, 0),
  (1221, 149, 1219, 1220, 3, 0), (1225, 149, 1223, 1224, 2, 0), (1230, 149, 1228, 1229, 2, 0), (1235, 141, 1233, 1234, 5, 0), (1239, 141, 1237, 1238, 2, 0), (1246, 141, 1244, 1245, 1, 0),
  (1249, 141, 1248, 0, 3, 1), (1253, 149, 1251, 1252, 0, 0), (1256, 141, 1255, 0, 4, 1), (1261, 141, 1259, 1260, 1, 0), (1265, 141, 1263, 1264, 3, 0), (1269, 142, 1267, 1268, 3, 0),
  (1273, 142, 1272, 33, 2, 0), (1278, 142, 1276, 1277, 2, 0), (1281, 142, 1280, 0, 2, 1), (1285, 141, 1283, 1284, 2, 0), (1289, 141, 1287, 1288, 1, 0), (1294, 141, 1292, 1293, 1, 0),
  (1298, 148, 1296, 1297, 2, 0), (1304, 148, 1303, 34, 2, 0), (1308, 148, 1307, 35, 2, 0), (1312, 148, 1311, 36, 3, 0), (1321, 148, 1320, 37, 2, 0), (1329, 148, 1328, 38, 1, 0),
  (1333, 148, 1332, 39, 1, 0), (1339, 148, 1338, 40, 2, 0), (1342, 148, 1341, 0, 2, 1), (1346, 148, 1345, 0, 3, 1), (1350, 141, 1348, 1349, 1, 0), (1354, 141, 1352, 1353, 2, 0),
  (1358, 149, 1356, 1357, 0, 0), (1362, 141, 1360, 1361, 0, 0), (1366, 141, 1364, 1365, 0, 0), (1371, 151, 1370, 0, 0, 2), (1376, 151, 1375, 41, 1, 0), (1504, 151, 1502, 1503, 0, 0),
  (1508, 151, 1506, 1507, 0, 0), (1512, 151, 1510, 1511, 0, 0), (1516, 151, 1514, 1515, 3, 0), (1520, 151, 1519, 42, 1, 0), (1524, 151, 1522, 1523, 3, 0), (1528, 151, 1527, 43, 2, 0),
  (1532, 151, 1531, 44, 1, 0), (1535, 151, 1534, 0, 2, 1), (1539, 151, 1537, 1538, 2, 0), (1544, 151, 1542, 1543, 5, 0), (1548, 151, 1546, 1547, 5, 0), (1552, 151, 1551, 45, 1, 0),
  (1556, 151, 1554, 1555, 1, 0), (1560, 151, 1558, 1559, 1, 0), (1564, 151, 1563, 46, 2, 0), (1568, 151, 1567, 47, 0, 0), (1572, 151, 1571, 48, 1, 0), (1575, 151, 1574, 0, 1, 1),
  (1580, 151, 1579, 0, 1, 1), (1584, 151, 1583, 49, 1, 0), (1588, 151, 1587, 50, 0, 0), (1592, 151, 1591, 51, 0, 0), (1595, 151, 1594, 0, 6, 1), (1599, 151, 1598, 52, 1, 0),
  (1603, 151, 1602, 53, 0, 0), (1607, 151, 1606, 54, 2, 0), (1611, 151, 1610, 55, 2, 0), (1615, 151, 1614, 56, 2, 0), (1619, 151, 1618, 57, 0, 0), (1622, 151, 1621, 0, 3, 1),
  (1626, 151, 1625, 58, 1, 0), (1630, 151, 1629, 59, 0, 0), (1634, 151, 1633, 60, 3, 0), (1638, 151, 1637, 61, 0, 0), (1642, 151, 1641, 62, 0, 0), (1646, 151, 1645, 63, 0, 0),
  (1650, 151, 1649, 64, 0, 0), (1654, 151, 1653, 65, 2, 0), (1658, 151, 1657, 66, 0, 0), (1662, 151, 1661, 67, 3, 0), (1666, 151, 1665, 68, 0, 0), (1670, 151, 1669, 69, 0, 0),
  (1674, 151, 1673, 70, 0, 0), (1678, 151, 1677, 71, 0, 0), (1682, 151, 1681, 72, 0, 0), (1686, 151, 1685, 73, 0, 0), (1690, 151, 1689, 74, 0, 0), (1694, 151, 1693, 75, 0, 0),
  (1698, 151, 1697, 76, 0, 0), (1702, 151, 1701, 77, 0, 0), (1706, 151, 1705, 78, 0, 0), (1710, 151, 1709, 79, 0, 0), (1714, 151, 1713, 80, 0, 0), (1718, 151, 1717, 81, 1, 0),
  (1722, 151, 1721, 82, 4, 0), (1726, 151, 1725, 83, 1, 0), (1730, 151, 1729, 84, 1, 0), (1734, 151, 1733, 85, 3, 0), (1737, 151, 1736, 0, 2, 1), (1741, 151, 1740, 86, 1, 0),
  (1745, 151, 1744, 87, 0, 0), (1749, 151, 1748, 88, 2, 0), (1753, 151, 1751, 1752, 1, 0), (1757, 151, 1756, 89, 1, 0), (1761, 151, 1760, 90, 1, 0), (1765, 151, 1764, 91, 1, 0),
  (1769, 151, 1768, 92, 0, 0), (1774, 151, 1773, 93, 0, 0), (1778, 151, 1776, 1777, 1, 0), (1783, 151, 1782, 94, 1, 0), (1787, 151, 1786, 95, 0, 0), (1791, 151, 1790, 96, 0, 0),
  (1795, 151, 1793, 1794, 2, 0), (1799, 151, 1798, 97, 1, 0), (1803, 151, 1801, 1802, 1, 0), (1807, 151, 1806, 98, 1, 0), (1811, 151, 1809, 1810, 2, 0), (1815, 151, 1814, 99, 1, 0),
  (1820, 151, 1819, 100, 1, 0), (1824, 151, 1822, 1823, 1, 0), (1828, 151, 1827, 101, 1, 0), (1832, 151, 1830, 1831, 1, 0), (1836, 151, 1835, 102, 1, 0), (1842, 151, 1840, 1841, 2, 0),
  (1847, 151, 1846, 103, 2, 0), (1852, 151, 1850, 1851, 1, 0), (1856, 151, 1855, 104, 1, 0), (1860, 151, 1858, 1859, 2, 0), (1864, 151, 1863, 105, 2, 0), (1868, 151, 1866, 1867, 2, 0),
  (1871, 151, 1870, 0, 1, 1), (1875, 151, 1874, 106, 2, 0), (1879, 151, 1877, 1878, 1, 0), (1883, 151, 1881, 1882, 2, 0), (1887, 151, 1885, 1886, 3, 0), (1891, 151, 1889, 1890, 1, 0),
  (1896, 151, 1894, 1895, 4, 0), (1900, 151, 1899, 107, 4, 0), (1904, 151, 1903, 108, 3, 0), (1908, 151, 1907, 109, 1, 0), (1912, 151, 1911, 110, 0, 0), (1917, 151, 1916, 111, 4, 0),
  (1921, 151, 1920, 112, 3, 0), (1925, 151, 1924, 113, 1, 0), (1929, 151, 1928, 114, 1, 0), (1933, 151, 1932, 115, 2, 0), (1936, 153, 1935, 0, 1, 1), (1940, 151, 1939, 116, 2, 0),
  (1944, 151, 1943, 117, 2, 0), (1948, 151, 1947, 118, 1, 0), (1952, 151, 1950, 1951, 1, 0), (1956, 151, 1954, 1955, 1, 0), (1960, 151, 1958, 1959, 3, 0), (1964, 151, 1962, 1963, 4, 0),
  (1968, 151, 1966, 1967, 4, 0), (1972, 151, 1970, 1971, 3, 0), (1976, 151, 1975, 119, 3, 0), (1980, 151, 1979, 120, 4, 0), (1984, 151, 1982, 1983, 3, 0), (1988, 151, 1986, 1987, 3, 0),
  (1992, 151, 1990, 1991, 1, 0), (1996, 151, 1994, 1995, 1, 0), (2000, 151, 1998, 1999, 2, 0), (2004, 151, 2003, 121, 2, 0), (2008, 151, 2006, 2007, 0, 0), (2012, 151, 2011, 122, 0, 0),
  (2016, 151, 2014, 2015, 0, 0), (2020, 151, 2018, 2019, 4, 0), (2024, 151, 2023, 123, 4, 0), (2030, 151, 2029, 124, 2, 0), (2034, 151, 2033, 125, 2, 0), (2038, 151, 2037, 126, 4, 0),
  (2042, 151, 2041, 127, 3, 0), (2045, 151, 2044, 0, 4, 1), (2049, 151, 2047, 2048, 5, 0), (2053, 151, 2051, 2052, 2, 0), (2057, 151, 2055, 2056, 1, 0), (2062, 151, 2061, 128, 2, 0),
  (2066, 151, 2065, 129, 0, 0), (2070, 151, 2068, 2069, 1, 0), (2074, 151, 2072, 2073, 3, 0), (2079, 151, 2078, 130, 3, 0), (2083, 151, 2082, 131, 2, 0), (2086, 153, 2085, 0, 1, 1),
  (2090, 151, 2088, 2089, 2, 0), (2094, 151, 2092, 2093, 1, 0), (2098, 151, 2096, 2097, 1, 0), (2103, 151, 2102, 132, 1, 0), (2107, 151, 2106, 133, 2, 0), (2111, 151, 2110, 134, 1, 0),
  (2115, 151, 2114, 135, 1, 0), (2119, 151, 2118, 136, 2, 0), (2123, 151, 2122, 137, 0, 0), (2127, 151, 2126, 138, 1, 0), (2132, 151, 2131, 139, 1, 0), (2136, 151, 2134, 2135, 1, 0),
  (2140, 151, 2138, 2139, 2, 0), (2144, 151, 2142, 2143, 0, 0), (2148, 151, 2146, 2147, 0, 0)]
def xh (k : Nat) : Nat × Nat × Nat × Nat × Nat × Nat := xhl.getD k (0, 0, 0, 0, 0, 0)
def xkhl : List (Nat × Nat) := [(359, 149), (207, 144), (168, 142), (317, 148), (290, 147), (213, 145), (187, 143), (365, 150),
  (271, 146), (160, 141), (1368, 151)]
def xah : List Nat := [205, 185, 258]
def xch : List Nat := [630, 629, 152, 165, 166, 515, 193]
-- switches: (number, where to) and else
def xswl : List (List (Int32 × Nat) × Nat) := [([(0, 28), (1, 33), (2, 38)], 42),
  ([(1, 88), (2, 119), (3, 132), (4, 132), (5, 140), (6, 132), (7, 171), (8, 245), (9, 245), (10, 232)], 245),
  ([(0, 52), (1, 64), (2, 76), (3, 88), (4, 100), (5, 112), (6, 124), (7, 136), (8, 148)], 160),
  ([(0, 60), (1, 74), (2, 88), (3, 102), (4, 116), (5, 137), (6, 151)], 165),
  ([(1, 72), (2, 82), (3, 97), (4, 105), (5, 113), (6, 130), (7, 145), (8, 152)], 158),
  ([(9, 48), (10, 53), (11, 92), (12, 69), (13, 69), (14, 69)], 92),
  ([(12, 64), (13, 83)], 101),
  ([(0, 256), (1, 269), (2, 283), (3, 297), (4, 340), (5, 413), (6, 447), (7, 510), (8, 573), (9, 596), (10, 619), (11, 642), (12, 665), (13, 698), (14, 721), (15, 754), (16, 777), (17, 800), (18, 833), (19, 856), (20, 905), (21, 938), (22, 961), (23, 994), (24, 1047), (25, 1090), (26, 1113), (27, 1136), (28, 1159), (29, 1202), (30, 1255), (31, 1308), (32, 1351), (33, 1394), (34, 1437), (35, 1460), (36, 1483), (37, 1516), (38, 1529), (39, 1542), (40, 1595), (41, 1658), (42, 1691), (43, 1714), (44, 1737), (45, 1780), (46, 1813), (47, 1836), (48, 1859), (49, 1882), (50, 1915), (51, 1928)], 1941)]
def xswt (b : Nat) : List (Int32 × Nat) × Nat := xswl.getD b ([], 0)
-- string constants
def xstl : List (String × Nat × String) := [("FreckleChart$CoastText", 38, "coast"),
  ("FreckleChart$CoastText", 90, "by"),
  ("FreckleChart$CoastText", 48, "odds"),
  ("FreckleChart$CoastText", 53, "rock"),
  ("FreckleChart$CoastText", 107, "deep"),
  ("FreckleChart$CoastText", 58, "cousin"),
  ("FreckleChart$Reader", 80, "coast by odds rock deep cousin at wide high tan veiled inked "),
  ("FreckleChart$Reader", 86, "sun rain veil bare ink wash sail any when shows loop end stop "),
  ("FreckleChart$CoastText", 132, "at"),
  ("FreckleChart$CoastText", 134, "wide"),
  ("FreckleChart$CoastText", 138, "high"),
  ("FreckleChart$CoastText", 149, "tan"),
  ("FreckleChart$CoastText", 155, "veiled"),
  ("FreckleChart$CoastText", 161, "inked"),
  ("FreckleChart$YearsText", 42, "end"),
  ("FreckleChart$YearsText", 92, "sun"),
  ("FreckleChart$YearsText", 94, "rain"),
  ("FreckleChart$YearsText", 96, "veil"),
  ("FreckleChart$YearsText", 98, "bare"),
  ("FreckleChart$YearsText", 100, "ink"),
  ("FreckleChart$YearsText", 102, "wash"),
  ("FreckleChart$YearsText", 104, "sail"),
  ("FreckleChart$YearsText", 106, "any"),
  ("FreckleChart$YearsText", 108, "when"),
  ("FreckleChart$YearsText", 110, "loop"),
  ("FreckleChart$YearsText", 112, "stop"),
  ("FreckleChart$YearsText", 144, "shows"),
  ("FreckleChart$YearsText", 146, "tan"),
  ("FreckleChart$YearsText", 152, "veiled")]
def xstb : List (List Nat) := [[99, 111, 97, 115, 116],
  [98, 121],
  [111, 100, 100, 115],
  [114, 111, 99, 107],
  [100, 101, 101, 112],
  [99, 111, 117, 115, 105, 110],
  [99, 111, 97, 115, 116, 32, 98, 121, 32, 111, 100, 100, 115, 32, 114, 111, 99, 107, 32, 100, 101, 101, 112, 32, 99, 111, 117, 115, 105, 110, 32, 97, 116, 32, 119, 105, 100, 101, 32, 104, 105, 103, 104, 32, 116, 97, 110, 32, 118, 101, 105, 108, 101, 100, 32, 105, 110, 107, 101, 100, 32],
  [115, 117, 110, 32, 114, 97, 105, 110, 32, 118, 101, 105, 108, 32, 98, 97, 114, 101, 32, 105, 110, 107, 32, 119, 97, 115, 104, 32, 115, 97, 105, 108, 32, 97, 110, 121, 32, 119, 104, 101, 110, 32, 115, 104, 111, 119, 115, 32, 108, 111, 111, 112, 32, 101, 110, 100, 32, 115, 116, 111, 112, 32],
  [97, 116],
  [119, 105, 100, 101],
  [104, 105, 103, 104],
  [116, 97, 110],
  [118, 101, 105, 108, 101, 100],
  [105, 110, 107, 101, 100],
  [101, 110, 100],
  [115, 117, 110],
  [114, 97, 105, 110],
  [118, 101, 105, 108],
  [98, 97, 114, 101],
  [105, 110, 107],
  [119, 97, 115, 104],
  [115, 97, 105, 108],
  [97, 110, 121],
  [119, 104, 101, 110],
  [108, 111, 111, 112],
  [115, 116, 111, 112],
  [115, 104, 111, 119, 115],
  [116, 97, 110],
  [118, 101, 105, 108, 101, 100]]
def strLen (i : Nat) : Nat := (xstb.getD i []).length
def strAt (i j : Nat) : Int32 := nI ((xstb.getD i []).getD j 0)
def va_AOA (ty : FieldType) (U : State) : Prop := (Cond.arrayOver (.array ty)).before #[] U = true
theorem va_AOA.use {ty : FieldType} {A : Array Value} {U : State} (h : va_AOA ty U) : (Cond.arrayOver (.array ty)).before A U = true := h

/-! ===== BEGIN new T[n][m]: the outer array a place, the inner ones among the pooled ===== -/
/-- f, but v at every address of l -/
def vr_up {α : Type} (f : Nat → α) (l : List Nat) (v : α) : Nat → α := fun a => if a ∈ l then v else f a
theorem vr_up_in {α : Type} {f : Nat → α} {l : List Nat} {v : α} {a : Nat} (h : a ∈ l) : vr_up f l v a = v := if_pos h
theorem vr_up_ne {α : Type} {f : Nat → α} {l : List Nat} {v : α} {a : Nat} (h : a ∉ l) : vr_up f l v a = f a := if_neg h
theorem vr_rows {L l : List Nat} {f : Nat → va_E} {e : va_E} (h : ∀ a, a ∈ l → a ∉ L) : va_pl L f ++ l.map (fun a => (a, e)) = va_pl (L ++ l) (vr_up f l e) := by
  unfold va_pl
  rw [List.map_append]
  congr 1
  · apply List.map_congr_left
    intro a ha
    rw [vr_up_ne (fun q => h a q ha)]
  · apply List.map_congr_left
    intro a ha
    rw [vr_up_in ha]
theorem vr_lay {X rows : va_W} {x : Nat × va_E} {pl : va_W} {D : va_G} {cl : List vw_C} {H : Heap} (hP : va_P D cl (((X ++ pl) ++ [x]) ++ rows) H) : va_P D cl ((X ++ [x]) ++ (pl ++ rows)) H := by
  rw [List.append_assoc (X ++ pl)] at hP
  have h := va_P.swap hP
  rw [← List.append_assoc X] at h
  have h2 := va_P.swap h
  rw [List.append_assoc (X ++ [x])] at h2
  exact h2
theorem vr_layD {X rows : va_W} {x : Nat × va_E} {pl : va_W} {A : Nat → Prop} (hD : va_D A (((X ++ pl) ++ [x]) ++ rows)) : va_D A ((X ++ [x]) ++ (pl ++ rows)) := by
  rw [List.append_assoc (X ++ pl)] at hD
  have h := va_D.swap hD
  rw [← List.append_assoc X] at h
  have h2 := va_D.swap h
  rw [List.append_assoc (X ++ [x])] at h2
  exact h2
theorem vr_outer (c : ClassId) (N h0 : Nat) : ∀ i : Nat, Jvm.Free.Multi.outerC c N h0 i = arrV c N (fun j => va_rf (if j < i then some (h0 + 1 + j) else none))
  | 0 => by
    show ({ cls := c, slots := Array.replicate N .null, vm := .none } : Cell) = _
    rw [arrV_new]
    refine congrArg (arrV c N) (funext fun j => ?_)
    simp [va_rf]
  | i + 1 => by
    show (Jvm.Free.Multi.outerC c N h0 i).setSlot i (.ref (h0 + 1 + i)) = _
    rw [vr_outer c N h0 i, arrV_store]
    refine congrArg (arrV c N) (funext fun j => ?_)
    by_cases e : j = i
    · subst e
      simp [updV, va_rf]
    · by_cases h : j < i
      · simp [updV, e, h, Nat.lt_succ_of_lt h]
      · simp [updV, e, h, show ¬ j < i + 1 by omega]
section VGM
variable {p : Program} {l : Launch} {e : Env} {R : Room} {s : State} {m : MethodId} {args : Array Value} {below : List Frame} {meth : Method} {c : Code} {H : Heap} {locs : List Loc} {cells slots : Nat} {Q : State → Prop}
variable {cc : ByteArray} {pc : Nat} {ls : Array Slot} {rest : List Value} {D : va_G} {cl : List vw_C} {A : Nat → Prop} {a : Nat} {tys : List (ClassId × FieldType)} {ws : va_W} {H0 : Heap}
theorem va_mna {X : va_W} {L : List Nat} {f : Nat → va_E} {cc : ByteArray} (hexec : p.tables.exec = Jvm.exec) (hb : c.code = cc) {own : String} {index : Nat} {ty : FieldType} {cy : ClassId} (hown : s.vm.findClass own = some m.cls) (hclink : (Cond.classLink own index ("[" ++ (FieldType.array ty).toString)).before args s = true) (hover : va_AOA ty s) (harr : (Cond.arrayClass ty).before args s = true) (hcy : s.vm.findClass (FieldType.array ty).toString = some cy)
    (hK : va_K D cl tys s) (hP : va_P D cl (X ++ va_pl L f) H) (hD : va_D A (X ++ va_pl L f)) (hS : va_S A H0 H locs) (hA : ∀ q, H0.size ≤ q → A q) {n k : Int32} {N' K' : Nat} {z : vp_A} (hn : ¬ n < 0) (hk : ¬ k < 0) (hN : n.toNatClampNeg = N') (hM : k.toNatClampNeg = K')
    (hb1 : N' * 4 ≤ 536870912) (hb2 : K' * componentBytes ty ≤ 536870912) (hb3 : K' ≤ 536870912) (hdf : fits ty (defaultValue ty) = true) (hdd : (defaultValue ty).isDefault = true) (hcells : cells + (1 + N') ≤ R.cells) (hslots : slots + (N' + N' * K') ≤ R.slots) (hz : ∀ c : ClassId, Jvm.Free.Multi.innerC c K' (defaultValue ty) = vp_cell c z) (hdg : decode cc pc = .ok (.multianewarray index 2, 4))
    (kk : ∀ (q : Nat) (r : Nat → Nat) (cA : ClassId) (H1 : Heap), (∀ i j : Nat, i < N' → j < N' → r i = r j → i = j) → (∀ i : Nat, i < N' → r i ∉ L) → va_K D cl (tys ++ [(cA, .array ty)]) s →
      va_P D cl ((X ++ [(q, .inl (cA, N', .inr (.inr (.inr (.inr (fun i => if i < N' then some (r i) else none))))))]) ++ va_pl (L ++ (List.range N').map r) (vr_up f ((List.range N').map r) (.inl (cy, z)))) H1 → va_D A ((X ++ [(q, .inl (cA, N', .inr (.inr (.inr (.inr (fun i => if i < N' then some (r i) else none))))))]) ++ va_pl (L ++ (List.range N').map r) (vr_up f ((List.range N').map r) (.inl (cy, z)))) → va_S A H0 H1 locs →
      W p l e R s m args below meth c H1 locs (cells + 1 + N') (slots + N' + N' * K') Q (F0 m (pc + 4) ls (.ref q :: rest))) : W p l e R s m args below meth c H locs cells slots Q (F0 m pc ls (.int k :: .int n :: rest)) := by
  subst hN
  subst hM
  intro T hT Xs
  obtain ⟨vm₁, cA, comp, -, fA, fC, hO, -, X', step⟩ := Xs.multianewarray2F hexec hown hclink (va_AOA.use hover) harr (g := F0 m pc ls (.int k :: .int n :: rest)) rfl (by rw [hb]; exact hdg) rfl hn hk hb1 hb2 hb3 hdf hdd hcells hslots
  have ec : some cy = some comp := hcy.symm.trans fC
  cases ec
  generalize hF : Jvm.Free.Multi.fill (T.setVm vm₁) cA cy n.toNatClampNeg k.toNatClampNeg (defaultValue ty) n.toNatClampNeg = F at X' step
  have hTh : (T.setVm vm₁).heap = H := hT
  obtain ⟨f1, f2, -, -⟩ := Jvm.Free.Multi.fill_facts (T.setVm vm₁) cA cy n.toNatClampNeg k.toNatClampNeg (defaultValue ty) n.toNatClampNeg
  rw [hF, hTh] at f1 f2
  have hold : ∀ x : Nat, x < H.size → F.heap[x]? = H[x]? := fun x hx => by
    have := Jvm.Free.Multi.fill_old (T.setVm vm₁) cA cy n.toNatClampNeg k.toNatClampNeg (defaultValue ty) (a := x) (by rw [hTh]; exact hx) n.toNatClampNeg
    rw [hF, hTh] at this
    exact this
  have hrow : ∀ j : Nat, j < n.toNatClampNeg → F.heap[H.size + 1 + j]? = some (vp_cell cy z) := fun j hj => by
    have := Jvm.Free.Multi.fill_inner (T.setVm vm₁) cA cy n.toNatClampNeg k.toNatClampNeg (defaultValue ty) n.toNatClampNeg j hj
    rw [hF, hTh, hz] at this
    exact this
  have hout : Jvm.Free.Multi.outerC cA n.toNatClampNeg H.size n.toNatClampNeg = vp_cell cA (n.toNatClampNeg, .inr (.inr (.inr (.inr (fun i => if i < n.toNatClampNeg then some (H.size + 1 + i) else none))))) := by
    rw [vp_cell_q]
    exact vr_outer cA n.toNatClampNeg H.size n.toNatClampNeg
  rw [hout] at f2
  have hlt : ∀ a, a ∈ L → a < H.size := fun a ha => by
    obtain ⟨k9, hk9⟩ := va_pl_get (X := X) (f := f) ha
    exact (hP k9 _ hk9).lt
  have hnl : ∀ i : Nat, i < n.toNatClampNeg → H.size + 1 + i ∉ L := fun i _ h => by
    have := hlt _ h
    omega
  have hnm : ∀ a, a ∈ (List.range n.toNatClampNeg).map (fun i => H.size + 1 + i) → a ∉ L := fun a ha h => by
    obtain ⟨i, -, rfl⟩ := List.mem_map.mp ha
    have := hlt _ h
    omega
  have hP0 : va_P D cl (X ++ va_pl L f) F.heap := hP.kept (fun k9 x hx => hold x.1 ((hP k9 x hx).lt))
  have hP1 : va_P D cl ((X ++ va_pl L f) ++ [(H.size, .inl (cA, n.toNatClampNeg, .inr (.inr (.inr (.inr (fun i => if i < n.toNatClampNeg then some (H.size + 1 + i) else none))))))]) F.heap := hP0.app (fun k9 x hx => by
    have h0 : k9 < 1 := (List.getElem?_eq_some_iff.mp hx).1
    rw [show k9 = 0 by omega] at hx
    cases hx
    exact f2)
  have hP2 : va_P D cl (((X ++ va_pl L f) ++ [(H.size, .inl (cA, n.toNatClampNeg, .inr (.inr (.inr (.inr (fun i => if i < n.toNatClampNeg then some (H.size + 1 + i) else none))))))]) ++ ((List.range n.toNatClampNeg).map (fun i => H.size + 1 + i)).map (fun a => (a, .inl (cy, z)))) F.heap := hP1.app (fun k9 x hx => by
    obtain ⟨a, ha, rfl⟩ := List.mem_map.mp (List.mem_of_getElem? hx)
    obtain ⟨i, hi, rfl⟩ := List.mem_map.mp ha
    exact hrow i (List.mem_range.mp hi))
  have hD2 : va_D A (((X ++ va_pl L f) ++ [(H.size, .inl (cA, n.toNatClampNeg, .inr (.inr (.inr (.inr (fun i => if i < n.toNatClampNeg then some (H.size + 1 + i) else none))))))]) ++ ((List.range n.toNatClampNeg).map (fun i => H.size + 1 + i)).map (fun a => (a, .inl (cy, z)))) := by
    have hD1 := hD.push (e := .inl (cA, n.toNatClampNeg, .inr (.inr (.inr (.inr (fun i => if i < n.toNatClampNeg then some (H.size + 1 + i) else none)))))) hP rfl (hA _ hS.1)
    generalize hW1 : (X ++ va_pl L f) ++ [(H.size, .inl (cA, n.toNatClampNeg, .inr (.inr (.inr (.inr (fun i => if i < n.toNatClampNeg then some (H.size + 1 + i) else none))))))] = W1 at hD1 hP1 ⊢
    have hle : ∀ (k9 : Nat) (x : Nat × va_E), W1[k9]? = some x → x.1 ≤ H.size := fun k9 x hx => by
      rw [← hW1] at hx
      by_cases hl : k9 < (X ++ va_pl L f).length
      · rw [List.getElem?_append_left hl] at hx
        exact Nat.le_of_lt ((hP k9 x hx).lt)
      · rw [List.getElem?_append_right (by omega)] at hx
        have h0 : k9 - (X ++ va_pl L f).length < 1 := (List.getElem?_eq_some_iff.mp hx).1
        rw [show k9 - (X ++ va_pl L f).length = 0 by omega] at hx
        cases hx
        exact Nat.le_refl _
    have hr : ∀ (k9 : Nat) (x : Nat × va_E), (((List.range n.toNatClampNeg).map (fun i => H.size + 1 + i)).map (fun a => ((a, .inl (cy, z)) : Nat × va_E)))[k9]? = some x → x.1 = H.size + 1 + k9 := fun k9 x hx => by
      rw [List.getElem?_map, List.getElem?_map] at hx
      by_cases h9 : k9 < n.toNatClampNeg
      · rw [List.getElem?_range h9] at hx
        cases hx
        rfl
      · have hn0 : (List.range n.toNatClampNeg)[k9]? = none := List.getElem?_eq_none (by rw [List.length_range]; omega)
        rw [hn0] at hx
        cases hx
    refine ⟨fun i j x y hi hj hxy => ?_, fun k9 x hx => ?_⟩
    · by_cases h1 : i < W1.length <;> by_cases h2 : j < W1.length
      · rw [List.getElem?_append_left h1] at hi
        rw [List.getElem?_append_left h2] at hj
        exact hD1.1 i j x y hi hj hxy
      · rw [List.getElem?_append_left h1] at hi
        rw [List.getElem?_append_right (by omega)] at hj
        have := hle _ _ hi
        have := hr _ _ hj
        omega
      · rw [List.getElem?_append_right (by omega)] at hi
        rw [List.getElem?_append_left h2] at hj
        have := hle _ _ hj
        have := hr _ _ hi
        omega
      · rw [List.getElem?_append_right (by omega)] at hi hj
        have := hr _ _ hi
        have := hr _ _ hj
        omega
    · by_cases h1 : k9 < W1.length
      · rw [List.getElem?_append_left h1] at hx
        exact hD1.2 k9 x hx
      · rw [List.getElem?_append_right (by omega)] at hx
        have := hr _ _ hx
        exact hA _ (by have := hS.1; omega)
  have hAr : ArrOfT s cA (.array ty) := fun N9 z9 => by
    obtain ⟨-, k9, hk9, cm9, hkk9⟩ := (hO 0 0 0).1
    exact ⟨(fun q hq => by cases hq), k9, hk9, cm9, hkk9⟩
  have hK2 : va_K D cl (tys ++ [(cA, .array ty)]) s := ⟨hK.1, fun k9 x hx => by
    by_cases hl : k9 < tys.length
    · rw [List.getElem?_append_left hl] at hx
      exact hK.2 k9 x hx
    · rw [List.getElem?_append_right (by omega)] at hx
      have h0 : k9 - tys.length < 1 := (List.getElem?_eq_some_iff.mp hx).1
      rw [show k9 - tys.length = 0 by omega] at hx
      cases hx
      exact ⟨hAr, fA⟩⟩
  obtain ⟨t, a1, b1⟩ := kk H.size (fun i => H.size + 1 + i) cA F.heap (fun i j _ _ h => by have h9 : H.size + 1 + i = H.size + 1 + j := h; omega) hnl hK2 (by rw [← vr_rows hnm]; exact vr_lay hP2) (by rw [← vr_rows hnm]; exact vr_layD hD2) ⟨by rw [f1]; have := hS.1; omega, fun x h1 h2 => (hold x (Nat.lt_of_lt_of_le h1 hS.1)).trans (hS.2.1 x h1 h2), hS.2.2⟩ F rfl X'
  refine ⟨t, step t ?_, b1⟩
  have e : T.heap.size = H.size := by rw [hT]
  rw [e]
  exact a1
end VGM
/-! ===== END ===== -/
