section
-- ===== PART A: goes FIRST, ahead of the names: the tables' words, and 'selects' of the private methods out of them =====
/-- a private method of a class that the tables say can be made, by its rows of tables_1 -/
def lw_okq (q : MethodName × Nat) : Prop := (q.1.cls ≠ "java/lang/invoke/MethodHandle" ∧ q.1.cls ≠ "java/lang/invoke/VarHandle") ∧ Cond.instantiable q.1.cls q.2 ∈ tables_1 ∧ Cond.privateMethod q.1 ∈ tables_1 ∧ Cond.instanceMethod q.1 ∈ tables_1
theorem lw_p0 : lw_okq (⟨"FreckleChart", "settle", "(I)Z"⟩, 17) := ⟨⟨by decide +kernel, by decide +kernel⟩, List.mem_of_getElem? (i := 20) (by decide +kernel), List.mem_of_getElem? (i := 452) (by decide +kernel), List.mem_of_getElem? (i := 453) (by decide +kernel)⟩
theorem lw_p1 : lw_okq (⟨"FreckleChart", "tapeInt", "(I)V"⟩, 17) := ⟨⟨by decide +kernel, by decide +kernel⟩, List.mem_of_getElem? (i := 20) (by decide +kernel), List.mem_of_getElem? (i := 496) (by decide +kernel), List.mem_of_getElem? (i := 497) (by decide +kernel)⟩
theorem lw_p2 : lw_okq (⟨"FreckleChart", "refuse", "(I)I"⟩, 17) := ⟨⟨by decide +kernel, by decide +kernel⟩, List.mem_of_getElem? (i := 20) (by decide +kernel), List.mem_of_getElem? (i := 504) (by decide +kernel), List.mem_of_getElem? (i := 505) (by decide +kernel)⟩
theorem lw_p3 : lw_okq (⟨"FreckleChart$Reader", "readWord", "()V"⟩, 10) := ⟨⟨by decide +kernel, by decide +kernel⟩, List.mem_of_getElem? (i := 73) (by decide +kernel), List.mem_of_getElem? (i := 527) (by decide +kernel), List.mem_of_getElem? (i := 528) (by decide +kernel)⟩
theorem lw_p4 : lw_okq (⟨"FreckleChart$Reader", "readNumber", "()V"⟩, 10) := ⟨⟨by decide +kernel, by decide +kernel⟩, List.mem_of_getElem? (i := 73) (by decide +kernel), List.mem_of_getElem? (i := 531) (by decide +kernel), List.mem_of_getElem? (i := 532) (by decide +kernel)⟩
theorem lw_p5 : lw_okq (⟨"FreckleChart$Reader", "readSign", "()V"⟩, 10) := ⟨⟨by decide +kernel, by decide +kernel⟩, List.mem_of_getElem? (i := 73) (by decide +kernel), List.mem_of_getElem? (i := 535) (by decide +kernel), List.mem_of_getElem? (i := 536) (by decide +kernel)⟩
theorem lw_p6 : lw_okq (⟨"FreckleChart$CoastText", "takeSize", "(LFreckleChart$Coast;)Z"⟩, 3) := ⟨⟨by decide +kernel, by decide +kernel⟩, List.mem_of_getElem? (i := 67) (by decide +kernel), List.mem_of_getElem? (i := 593) (by decide +kernel), List.mem_of_getElem? (i := 594) (by decide +kernel)⟩
theorem lw_p7 : lw_okq (⟨"FreckleChart$CoastText", "takeOdds", "(LFreckleChart$Coast;)Z"⟩, 3) := ⟨⟨by decide +kernel, by decide +kernel⟩, List.mem_of_getElem? (i := 67) (by decide +kernel), List.mem_of_getElem? (i := 622) (by decide +kernel), List.mem_of_getElem? (i := 623) (by decide +kernel)⟩
theorem lw_p8 : lw_okq (⟨"FreckleChart$CoastText", "takeRock", "(LFreckleChart$Coast;)Z"⟩, 3) := ⟨⟨by decide +kernel, by decide +kernel⟩, List.mem_of_getElem? (i := 67) (by decide +kernel), List.mem_of_getElem? (i := 627) (by decide +kernel), List.mem_of_getElem? (i := 628) (by decide +kernel)⟩
theorem lw_p9 : lw_okq (⟨"FreckleChart$CoastText", "takeCousin", "(LFreckleChart$Coast;)Z"⟩, 3) := ⟨⟨by decide +kernel, by decide +kernel⟩, List.mem_of_getElem? (i := 67) (by decide +kernel), List.mem_of_getElem? (i := 641) (by decide +kernel), List.mem_of_getElem? (i := 642) (by decide +kernel)⟩
theorem lw_p10 : lw_okq (⟨"FreckleChart$CoastText", "takePatch", "(LFreckleChart$Coast;J)Z"⟩, 3) := ⟨⟨by decide +kernel, by decide +kernel⟩, List.mem_of_getElem? (i := 67) (by decide +kernel), List.mem_of_getElem? (i := 658) (by decide +kernel), List.mem_of_getElem? (i := 659) (by decide +kernel)⟩
theorem lw_p11 : lw_okq (⟨"FreckleChart$Coast", "patchFrom", "(III)I"⟩, 19) := ⟨⟨by decide +kernel, by decide +kernel⟩, List.mem_of_getElem? (i := 219) (by decide +kernel), List.mem_of_getElem? (i := 677) (by decide +kernel), List.mem_of_getElem? (i := 678) (by decide +kernel)⟩
theorem lw_p12 : lw_okq (⟨"FreckleChart$CoastText", "takeLooks", "(LFreckleChart$Coast;I)Z"⟩, 3) := ⟨⟨by decide +kernel, by decide +kernel⟩, List.mem_of_getElem? (i := 67) (by decide +kernel), List.mem_of_getElem? (i := 681) (by decide +kernel), List.mem_of_getElem? (i := 682) (by decide +kernel)⟩
theorem lw_p13 : lw_okq (⟨"FreckleChart$CoastText", "takeInk", "(LFreckleChart$Coast;I)Z"⟩, 3) := ⟨⟨by decide +kernel, by decide +kernel⟩, List.mem_of_getElem? (i := 67) (by decide +kernel), List.mem_of_getElem? (i := 701) (by decide +kernel), List.mem_of_getElem? (i := 702) (by decide +kernel)⟩
theorem lw_p14 : lw_okq (⟨"FreckleChart", "endText", "(LFreckleChart$Reader;)V"⟩, 17) := ⟨⟨by decide +kernel, by decide +kernel⟩, List.mem_of_getElem? (i := 20) (by decide +kernel), List.mem_of_getElem? (i := 721) (by decide +kernel), List.mem_of_getElem? (i := 722) (by decide +kernel)⟩
theorem lw_p15 : lw_okq (⟨"FreckleChart", "tell", "(I)I"⟩, 17) := ⟨⟨by decide +kernel, by decide +kernel⟩, List.mem_of_getElem? (i := 20) (by decide +kernel), List.mem_of_getElem? (i := 739) (by decide +kernel), List.mem_of_getElem? (i := 740) (by decide +kernel)⟩
def lw_privs_1 : List (MethodName × Nat) := [(⟨"FreckleChart", "settle", "(I)Z"⟩, 17), (⟨"FreckleChart", "tapeInt", "(I)V"⟩, 17), (⟨"FreckleChart", "refuse", "(I)I"⟩, 17), (⟨"FreckleChart$Reader", "readWord", "()V"⟩, 10), (⟨"FreckleChart$Reader", "readNumber", "()V"⟩, 10), (⟨"FreckleChart$Reader", "readSign", "()V"⟩, 10), (⟨"FreckleChart$CoastText", "takeSize", "(LFreckleChart$Coast;)Z"⟩, 3), (⟨"FreckleChart$CoastText", "takeOdds", "(LFreckleChart$Coast;)Z"⟩, 3), (⟨"FreckleChart$CoastText", "takeRock", "(LFreckleChart$Coast;)Z"⟩, 3), (⟨"FreckleChart$CoastText", "takeCousin", "(LFreckleChart$Coast;)Z"⟩, 3), (⟨"FreckleChart$CoastText", "takePatch", "(LFreckleChart$Coast;J)Z"⟩, 3), (⟨"FreckleChart$Coast", "patchFrom", "(III)I"⟩, 19), (⟨"FreckleChart$CoastText", "takeLooks", "(LFreckleChart$Coast;I)Z"⟩, 3), (⟨"FreckleChart$CoastText", "takeInk", "(LFreckleChart$Coast;I)Z"⟩, 3), (⟨"FreckleChart", "endText", "(LFreckleChart$Reader;)V"⟩, 17), (⟨"FreckleChart", "tell", "(I)I"⟩, 17)]
theorem lw_r1 : ∀ q ∈ lw_privs_1, lw_okq q := List.forall_mem_cons.mpr ⟨lw_p0, List.forall_mem_cons.mpr ⟨lw_p1, List.forall_mem_cons.mpr ⟨lw_p2, List.forall_mem_cons.mpr ⟨lw_p3, List.forall_mem_cons.mpr ⟨lw_p4, List.forall_mem_cons.mpr ⟨lw_p5, List.forall_mem_cons.mpr ⟨lw_p6, List.forall_mem_cons.mpr ⟨lw_p7, List.forall_mem_cons.mpr ⟨lw_p8, List.forall_mem_cons.mpr ⟨lw_p9, List.forall_mem_cons.mpr ⟨lw_p10, List.forall_mem_cons.mpr ⟨lw_p11, List.forall_mem_cons.mpr ⟨lw_p12, List.forall_mem_cons.mpr ⟨lw_p13, List.forall_mem_cons.mpr ⟨lw_p14, List.forall_mem_cons.mpr ⟨lw_p15, fun _ h => absurd h List.not_mem_nil⟩⟩⟩⟩⟩⟩⟩⟩⟩⟩⟩⟩⟩⟩⟩⟩
theorem lw_p16 : lw_okq (⟨"FreckleChart$YearsText", "takeEnd", "(LFreckleChart$Years;)Z"⟩, 3) := ⟨⟨by decide +kernel, by decide +kernel⟩, List.mem_of_getElem? (i := 131) (by decide +kernel), List.mem_of_getElem? (i := 755) (by decide +kernel), List.mem_of_getElem? (i := 756) (by decide +kernel)⟩
theorem lw_p17 : lw_okq (⟨"FreckleChart$YearsText", "kindOfStep", "()I"⟩, 3) := ⟨⟨by decide +kernel, by decide +kernel⟩, List.mem_of_getElem? (i := 131) (by decide +kernel), List.mem_of_getElem? (i := 773) (by decide +kernel), List.mem_of_getElem? (i := 774) (by decide +kernel)⟩
theorem lw_p18 : lw_okq (⟨"FreckleChart$YearsText", "lineForStep", "(LFreckleChart$Years;I)I"⟩, 3) := ⟨⟨by decide +kernel, by decide +kernel⟩, List.mem_of_getElem? (i := 131) (by decide +kernel), List.mem_of_getElem? (i := 788) (by decide +kernel), List.mem_of_getElem? (i := 789) (by decide +kernel)⟩
theorem lw_p19 : lw_okq (⟨"FreckleChart$YearsText", "takeTest", "(LFreckleChart$Coast;LFreckleChart$Years;I)Z"⟩, 3) := ⟨⟨by decide +kernel, by decide +kernel⟩, List.mem_of_getElem? (i := 131) (by decide +kernel), List.mem_of_getElem? (i := 793) (by decide +kernel), List.mem_of_getElem? (i := 794) (by decide +kernel)⟩
theorem lw_p20 : lw_okq (⟨"FreckleChart$YearsText", "takeCousin", "(LFreckleChart$Coast;LFreckleChart$Years;I)Z"⟩, 3) := ⟨⟨by decide +kernel, by decide +kernel⟩, List.mem_of_getElem? (i := 131) (by decide +kernel), List.mem_of_getElem? (i := 799) (by decide +kernel), List.mem_of_getElem? (i := 800) (by decide +kernel)⟩
theorem lw_p21 : lw_okq (⟨"FreckleChart$YearsText", "takeNumber", "([IIII)Z"⟩, 3) := ⟨⟨by decide +kernel, by decide +kernel⟩, List.mem_of_getElem? (i := 131) (by decide +kernel), List.mem_of_getElem? (i := 805) (by decide +kernel), List.mem_of_getElem? (i := 806) (by decide +kernel)⟩
theorem lw_p22 : lw_okq (⟨"FreckleChart$YearsText", "takeCompares", "(LFreckleChart$Years;I)Z"⟩, 3) := ⟨⟨by decide +kernel, by decide +kernel⟩, List.mem_of_getElem? (i := 131) (by decide +kernel), List.mem_of_getElem? (i := 811) (by decide +kernel), List.mem_of_getElem? (i := 812) (by decide +kernel)⟩
theorem lw_p23 : lw_okq (⟨"FreckleChart$YearsText", "takeNumbers", "(LFreckleChart$Coast;LFreckleChart$Years;I)Z"⟩, 3) := ⟨⟨by decide +kernel, by decide +kernel⟩, List.mem_of_getElem? (i := 131) (by decide +kernel), List.mem_of_getElem? (i := 816) (by decide +kernel), List.mem_of_getElem? (i := 817) (by decide +kernel)⟩
theorem lw_p24 : lw_okq (⟨"FreckleChart", "lookForWay", "(IIII)I"⟩, 17) := ⟨⟨by decide +kernel, by decide +kernel⟩, List.mem_of_getElem? (i := 20) (by decide +kernel), List.mem_of_getElem? (i := 915) (by decide +kernel), List.mem_of_getElem? (i := 916) (by decide +kernel)⟩
theorem lw_p25 : lw_okq (⟨"FreckleChart", "lookAtVoyage", "(IIII)I"⟩, 17) := ⟨⟨by decide +kernel, by decide +kernel⟩, List.mem_of_getElem? (i := 20) (by decide +kernel), List.mem_of_getElem? (i := 919) (by decide +kernel), List.mem_of_getElem? (i := 920) (by decide +kernel)⟩
theorem lw_p26 : lw_okq (⟨"FreckleChart$Pilot", "lookAtEdges", "(LFreckleChart$Coast;)V"⟩, 6) := ⟨⟨by decide +kernel, by decide +kernel⟩, List.mem_of_getElem? (i := 150) (by decide +kernel), List.mem_of_getElem? (i := 949) (by decide +kernel), List.mem_of_getElem? (i := 950) (by decide +kernel)⟩
theorem lw_p27 : lw_okq (⟨"FreckleChart$Pilot", "spreadRings", "(III)I"⟩, 6) := ⟨⟨by decide +kernel, by decide +kernel⟩, List.mem_of_getElem? (i := 150) (by decide +kernel), List.mem_of_getElem? (i := 953) (by decide +kernel), List.mem_of_getElem? (i := 954) (by decide +kernel)⟩
theorem lw_p28 : lw_okq (⟨"FreckleChart$Pilot", "beside", "(I)I"⟩, 6) := ⟨⟨by decide +kernel, by decide +kernel⟩, List.mem_of_getElem? (i := 150) (by decide +kernel), List.mem_of_getElem? (i := 957) (by decide +kernel), List.mem_of_getElem? (i := 958) (by decide +kernel)⟩
theorem lw_p29 : lw_okq (⟨"FreckleChart$Pilot", "goAlong", "(II)V"⟩, 6) := ⟨⟨by decide +kernel, by decide +kernel⟩, List.mem_of_getElem? (i := 150) (by decide +kernel), List.mem_of_getElem? (i := 961) (by decide +kernel), List.mem_of_getElem? (i := 962) (by decide +kernel)⟩
theorem lw_p30 : lw_okq (⟨"FreckleChart", "findFewest", "(III)I"⟩, 17) := ⟨⟨by decide +kernel, by decide +kernel⟩, List.mem_of_getElem? (i := 20) (by decide +kernel), List.mem_of_getElem? (i := 1019) (by decide +kernel), List.mem_of_getElem? (i := 1020) (by decide +kernel)⟩
theorem lw_p31 : lw_okq (⟨"FreckleChart", "findCover", "()I"⟩, 17) := ⟨⟨by decide +kernel, by decide +kernel⟩, List.mem_of_getElem? (i := 20) (by decide +kernel), List.mem_of_getElem? (i := 1055) (by decide +kernel), List.mem_of_getElem? (i := 1056) (by decide +kernel)⟩
def lw_privs_2 : List (MethodName × Nat) := [(⟨"FreckleChart$YearsText", "takeEnd", "(LFreckleChart$Years;)Z"⟩, 3), (⟨"FreckleChart$YearsText", "kindOfStep", "()I"⟩, 3), (⟨"FreckleChart$YearsText", "lineForStep", "(LFreckleChart$Years;I)I"⟩, 3), (⟨"FreckleChart$YearsText", "takeTest", "(LFreckleChart$Coast;LFreckleChart$Years;I)Z"⟩, 3), (⟨"FreckleChart$YearsText", "takeCousin", "(LFreckleChart$Coast;LFreckleChart$Years;I)Z"⟩, 3), (⟨"FreckleChart$YearsText", "takeNumber", "([IIII)Z"⟩, 3), (⟨"FreckleChart$YearsText", "takeCompares", "(LFreckleChart$Years;I)Z"⟩, 3), (⟨"FreckleChart$YearsText", "takeNumbers", "(LFreckleChart$Coast;LFreckleChart$Years;I)Z"⟩, 3), (⟨"FreckleChart", "lookForWay", "(IIII)I"⟩, 17), (⟨"FreckleChart", "lookAtVoyage", "(IIII)I"⟩, 17), (⟨"FreckleChart$Pilot", "lookAtEdges", "(LFreckleChart$Coast;)V"⟩, 6), (⟨"FreckleChart$Pilot", "spreadRings", "(III)I"⟩, 6), (⟨"FreckleChart$Pilot", "beside", "(I)I"⟩, 6), (⟨"FreckleChart$Pilot", "goAlong", "(II)V"⟩, 6), (⟨"FreckleChart", "findFewest", "(III)I"⟩, 17), (⟨"FreckleChart", "findCover", "()I"⟩, 17)]
theorem lw_r2 : ∀ q ∈ lw_privs_2, lw_okq q := List.forall_mem_cons.mpr ⟨lw_p16, List.forall_mem_cons.mpr ⟨lw_p17, List.forall_mem_cons.mpr ⟨lw_p18, List.forall_mem_cons.mpr ⟨lw_p19, List.forall_mem_cons.mpr ⟨lw_p20, List.forall_mem_cons.mpr ⟨lw_p21, List.forall_mem_cons.mpr ⟨lw_p22, List.forall_mem_cons.mpr ⟨lw_p23, List.forall_mem_cons.mpr ⟨lw_p24, List.forall_mem_cons.mpr ⟨lw_p25, List.forall_mem_cons.mpr ⟨lw_p26, List.forall_mem_cons.mpr ⟨lw_p27, List.forall_mem_cons.mpr ⟨lw_p28, List.forall_mem_cons.mpr ⟨lw_p29, List.forall_mem_cons.mpr ⟨lw_p30, List.forall_mem_cons.mpr ⟨lw_p31, fun _ h => absurd h List.not_mem_nil⟩⟩⟩⟩⟩⟩⟩⟩⟩⟩⟩⟩⟩⟩⟩⟩
theorem lw_p32 : lw_okq (⟨"FreckleChart", "lookAtSeen", "(IIII)I"⟩, 17) := ⟨⟨by decide +kernel, by decide +kernel⟩, List.mem_of_getElem? (i := 20) (by decide +kernel), List.mem_of_getElem? (i := 1068) (by decide +kernel), List.mem_of_getElem? (i := 1069) (by decide +kernel)⟩
theorem lw_p33 : lw_okq (⟨"FreckleChart$Fraction", "countWays", "(II)V"⟩, 3) := ⟨⟨by decide +kernel, by decide +kernel⟩, List.mem_of_getElem? (i := 28) (by decide +kernel), List.mem_of_getElem? (i := 1131) (by decide +kernel), List.mem_of_getElem? (i := 1132) (by decide +kernel)⟩
theorem lw_p34 : lw_okq (⟨"FreckleChart$Living", "lineBehindEnd", "(LFreckleChart$Years;I)I"⟩, 9) := ⟨⟨by decide +kernel, by decide +kernel⟩, List.mem_of_getElem? (i := 177) (by decide +kernel), List.mem_of_getElem? (i := 1162) (by decide +kernel), List.mem_of_getElem? (i := 1163) (by decide +kernel)⟩
theorem lw_p35 : lw_okq (⟨"FreckleChart$Living", "isDone", "(LFreckleChart$Coast;I)Z"⟩, 9) := ⟨⟨by decide +kernel, by decide +kernel⟩, List.mem_of_getElem? (i := 177) (by decide +kernel), List.mem_of_getElem? (i := 1166) (by decide +kernel), List.mem_of_getElem? (i := 1167) (by decide +kernel)⟩
theorem lw_p36 : lw_okq (⟨"FreckleChart$Living", "isDarkened", "(LFreckleChart$Coast;II)Z"⟩, 9) := ⟨⟨by decide +kernel, by decide +kernel⟩, List.mem_of_getElem? (i := 177) (by decide +kernel), List.mem_of_getElem? (i := 1170) (by decide +kernel), List.mem_of_getElem? (i := 1171) (by decide +kernel)⟩
theorem lw_p37 : lw_okq (⟨"FreckleChart$Living", "isSailed", "(LFreckleChart$Coast;I)Z"⟩, 9) := ⟨⟨by decide +kernel, by decide +kernel⟩, List.mem_of_getElem? (i := 177) (by decide +kernel), List.mem_of_getElem? (i := 1179) (by decide +kernel), List.mem_of_getElem? (i := 1180) (by decide +kernel)⟩
theorem lw_p38 : lw_okq (⟨"FreckleChart$Living", "isDrawnAndDone", "(LFreckleChart$Coast;)Z"⟩, 9) := ⟨⟨by decide +kernel, by decide +kernel⟩, List.mem_of_getElem? (i := 177) (by decide +kernel), List.mem_of_getElem? (i := 1187) (by decide +kernel), List.mem_of_getElem? (i := 1188) (by decide +kernel)⟩
theorem lw_p39 : lw_okq (⟨"FreckleChart$Living", "draw", "(I)I"⟩, 9) := ⟨⟨by decide +kernel, by decide +kernel⟩, List.mem_of_getElem? (i := 177) (by decide +kernel), List.mem_of_getElem? (i := 1191) (by decide +kernel), List.mem_of_getElem? (i := 1192) (by decide +kernel)⟩
theorem lw_p40 : lw_okq (⟨"FreckleChart$Living", "lineBehindStep", "(LFreckleChart$Coast;I)I"⟩, 9) := ⟨⟨by decide +kernel, by decide +kernel⟩, List.mem_of_getElem? (i := 177) (by decide +kernel), List.mem_of_getElem? (i := 1197) (by decide +kernel), List.mem_of_getElem? (i := 1198) (by decide +kernel)⟩
theorem lw_p41 : lw_okq (⟨"FreckleChartModel", "empties", "(I)V"⟩, 41) := ⟨⟨by decide +kernel, by decide +kernel⟩, List.mem_of_getElem? (i := 1228) (by decide +kernel), List.mem_of_getElem? (i := 1234) (by decide +kernel), List.mem_of_getElem? (i := 1235) (by decide +kernel)⟩
theorem lw_p42 : lw_okq (⟨"FreckleChartModel", "no", "(I)Z"⟩, 41) := ⟨⟨by decide +kernel, by decide +kernel⟩, List.mem_of_getElem? (i := 1228) (by decide +kernel), List.mem_of_getElem? (i := 1378) (by decide +kernel), List.mem_of_getElem? (i := 1379) (by decide +kernel)⟩
theorem lw_p43 : lw_okq (⟨"FreckleChartModel", "placed", "(II)I"⟩, 41) := ⟨⟨by decide +kernel, by decide +kernel⟩, List.mem_of_getElem? (i := 1228) (by decide +kernel), List.mem_of_getElem? (i := 1386) (by decide +kernel), List.mem_of_getElem? (i := 1387) (by decide +kernel)⟩
theorem lw_p44 : lw_okq (⟨"FreckleChartModel", "trayed", "(I)I"⟩, 41) := ⟨⟨by decide +kernel, by decide +kernel⟩, List.mem_of_getElem? (i := 1228) (by decide +kernel), List.mem_of_getElem? (i := 1390) (by decide +kernel), List.mem_of_getElem? (i := 1391) (by decide +kernel)⟩
theorem lw_p45 : lw_okq (⟨"FreckleChartModel", "lay", "(I)V"⟩, 41) := ⟨⟨by decide +kernel, by decide +kernel⟩, List.mem_of_getElem? (i := 1228) (by decide +kernel), List.mem_of_getElem? (i := 1410) (by decide +kernel), List.mem_of_getElem? (i := 1411) (by decide +kernel)⟩
theorem lw_p46 : lw_okq (⟨"FreckleChartModel", "starts", "(II)Z"⟩, 41) := ⟨⟨by decide +kernel, by decide +kernel⟩, List.mem_of_getElem? (i := 1228) (by decide +kernel), List.mem_of_getElem? (i := 1422) (by decide +kernel), List.mem_of_getElem? (i := 1423) (by decide +kernel)⟩
theorem lw_p47 : lw_okq (⟨"FreckleChartModel", "advance", "()V"⟩, 41) := ⟨⟨by decide +kernel, by decide +kernel⟩, List.mem_of_getElem? (i := 1228) (by decide +kernel), List.mem_of_getElem? (i := 1426) (by decide +kernel), List.mem_of_getElem? (i := 1427) (by decide +kernel)⟩
def lw_privs_3 : List (MethodName × Nat) := [(⟨"FreckleChart", "lookAtSeen", "(IIII)I"⟩, 17), (⟨"FreckleChart$Fraction", "countWays", "(II)V"⟩, 3), (⟨"FreckleChart$Living", "lineBehindEnd", "(LFreckleChart$Years;I)I"⟩, 9), (⟨"FreckleChart$Living", "isDone", "(LFreckleChart$Coast;I)Z"⟩, 9), (⟨"FreckleChart$Living", "isDarkened", "(LFreckleChart$Coast;II)Z"⟩, 9), (⟨"FreckleChart$Living", "isSailed", "(LFreckleChart$Coast;I)Z"⟩, 9), (⟨"FreckleChart$Living", "isDrawnAndDone", "(LFreckleChart$Coast;)Z"⟩, 9), (⟨"FreckleChart$Living", "draw", "(I)I"⟩, 9), (⟨"FreckleChart$Living", "lineBehindStep", "(LFreckleChart$Coast;I)I"⟩, 9), (⟨"FreckleChartModel", "empties", "(I)V"⟩, 41), (⟨"FreckleChartModel", "no", "(I)Z"⟩, 41), (⟨"FreckleChartModel", "placed", "(II)I"⟩, 41), (⟨"FreckleChartModel", "trayed", "(I)I"⟩, 41), (⟨"FreckleChartModel", "lay", "(I)V"⟩, 41), (⟨"FreckleChartModel", "starts", "(II)Z"⟩, 41), (⟨"FreckleChartModel", "advance", "()V"⟩, 41)]
theorem lw_r3 : ∀ q ∈ lw_privs_3, lw_okq q := List.forall_mem_cons.mpr ⟨lw_p32, List.forall_mem_cons.mpr ⟨lw_p33, List.forall_mem_cons.mpr ⟨lw_p34, List.forall_mem_cons.mpr ⟨lw_p35, List.forall_mem_cons.mpr ⟨lw_p36, List.forall_mem_cons.mpr ⟨lw_p37, List.forall_mem_cons.mpr ⟨lw_p38, List.forall_mem_cons.mpr ⟨lw_p39, List.forall_mem_cons.mpr ⟨lw_p40, List.forall_mem_cons.mpr ⟨lw_p41, List.forall_mem_cons.mpr ⟨lw_p42, List.forall_mem_cons.mpr ⟨lw_p43, List.forall_mem_cons.mpr ⟨lw_p44, List.forall_mem_cons.mpr ⟨lw_p45, List.forall_mem_cons.mpr ⟨lw_p46, List.forall_mem_cons.mpr ⟨lw_p47, fun _ h => absurd h List.not_mem_nil⟩⟩⟩⟩⟩⟩⟩⟩⟩⟩⟩⟩⟩⟩⟩⟩
theorem lw_p48 : lw_okq (⟨"FreckleChartModel", "look2", "(I)I"⟩, 41) := ⟨⟨by decide +kernel, by decide +kernel⟩, List.mem_of_getElem? (i := 1228) (by decide +kernel), List.mem_of_getElem? (i := 1430) (by decide +kernel), List.mem_of_getElem? (i := 1431) (by decide +kernel)⟩
theorem lw_p49 : lw_okq (⟨"FreckleChartModel", "isSignByte", "(I)Z"⟩, 41) := ⟨⟨by decide +kernel, by decide +kernel⟩, List.mem_of_getElem? (i := 1228) (by decide +kernel), List.mem_of_getElem? (i := 1442) (by decide +kernel), List.mem_of_getElem? (i := 1443) (by decide +kernel)⟩
theorem lw_p50 : lw_okq (⟨"FreckleChartModel", "readPart", "()V"⟩, 41) := ⟨⟨by decide +kernel, by decide +kernel⟩, List.mem_of_getElem? (i := 1228) (by decide +kernel), List.mem_of_getElem? (i := 1446) (by decide +kernel), List.mem_of_getElem? (i := 1447) (by decide +kernel)⟩
theorem lw_p51 : lw_okq (⟨"FreckleChartModel", "isCoast", "()Z"⟩, 41) := ⟨⟨by decide +kernel, by decide +kernel⟩, List.mem_of_getElem? (i := 1228) (by decide +kernel), List.mem_of_getElem? (i := 1450) (by decide +kernel), List.mem_of_getElem? (i := 1451) (by decide +kernel)⟩
theorem lw_p52 : lw_okq (⟨"FreckleChartModel", "isWord", "(J)Z"⟩, 41) := ⟨⟨by decide +kernel, by decide +kernel⟩, List.mem_of_getElem? (i := 1228) (by decide +kernel), List.mem_of_getElem? (i := 1457) (by decide +kernel), List.mem_of_getElem? (i := 1458) (by decide +kernel)⟩
theorem lw_p53 : lw_okq (⟨"FreckleChartModel", "readCoast", "()V"⟩, 41) := ⟨⟨by decide +kernel, by decide +kernel⟩, List.mem_of_getElem? (i := 1228) (by decide +kernel), List.mem_of_getElem? (i := 1461) (by decide +kernel), List.mem_of_getElem? (i := 1462) (by decide +kernel)⟩
theorem lw_p54 : lw_okq (⟨"FreckleChartModel", "fail", "(II)V"⟩, 41) := ⟨⟨by decide +kernel, by decide +kernel⟩, List.mem_of_getElem? (i := 1228) (by decide +kernel), List.mem_of_getElem? (i := 1465) (by decide +kernel), List.mem_of_getElem? (i := 1466) (by decide +kernel)⟩
theorem lw_p55 : lw_okq (⟨"FreckleChartModel", "count", "(II)I"⟩, 41) := ⟨⟨by decide +kernel, by decide +kernel⟩, List.mem_of_getElem? (i := 1228) (by decide +kernel), List.mem_of_getElem? (i := 1469) (by decide +kernel), List.mem_of_getElem? (i := 1470) (by decide +kernel)⟩
theorem lw_p56 : lw_okq (⟨"FreckleChartModel", "stands", "(II)I"⟩, 41) := ⟨⟨by decide +kernel, by decide +kernel⟩, List.mem_of_getElem? (i := 1228) (by decide +kernel), List.mem_of_getElem? (i := 1473) (by decide +kernel), List.mem_of_getElem? (i := 1474) (by decide +kernel)⟩
theorem lw_p57 : lw_okq (⟨"FreckleChartModel", "amiss", "()V"⟩, 41) := ⟨⟨by decide +kernel, by decide +kernel⟩, List.mem_of_getElem? (i := 1228) (by decide +kernel), List.mem_of_getElem? (i := 1477) (by decide +kernel), List.mem_of_getElem? (i := 1478) (by decide +kernel)⟩
theorem lw_p58 : lw_okq (⟨"FreckleChartModel", "must", "(Z)V"⟩, 41) := ⟨⟨by decide +kernel, by decide +kernel⟩, List.mem_of_getElem? (i := 1228) (by decide +kernel), List.mem_of_getElem? (i := 1484) (by decide +kernel), List.mem_of_getElem? (i := 1485) (by decide +kernel)⟩
theorem lw_p59 : lw_okq (⟨"FreckleChartModel", "isBy", "()Z"⟩, 41) := ⟨⟨by decide +kernel, by decide +kernel⟩, List.mem_of_getElem? (i := 1228) (by decide +kernel), List.mem_of_getElem? (i := 1488) (by decide +kernel), List.mem_of_getElem? (i := 1489) (by decide +kernel)⟩
theorem lw_p60 : lw_okq (⟨"FreckleChartModel", "behindWord", "(ZII)I"⟩, 41) := ⟨⟨by decide +kernel, by decide +kernel⟩, List.mem_of_getElem? (i := 1228) (by decide +kernel), List.mem_of_getElem? (i := 1492) (by decide +kernel), List.mem_of_getElem? (i := 1493) (by decide +kernel)⟩
theorem lw_p61 : lw_okq (⟨"FreckleChartModel", "isOdds", "()Z"⟩, 41) := ⟨⟨by decide +kernel, by decide +kernel⟩, List.mem_of_getElem? (i := 1228) (by decide +kernel), List.mem_of_getElem? (i := 1496) (by decide +kernel), List.mem_of_getElem? (i := 1497) (by decide +kernel)⟩
theorem lw_p62 : lw_okq (⟨"FreckleChartModel", "readOdds", "()V"⟩, 41) := ⟨⟨by decide +kernel, by decide +kernel⟩, List.mem_of_getElem? (i := 1228) (by decide +kernel), List.mem_of_getElem? (i := 1500) (by decide +kernel), List.mem_of_getElem? (i := 1501) (by decide +kernel)⟩
theorem lw_p63 : lw_okq (⟨"FreckleChartModel", "isRock", "()Z"⟩, 41) := ⟨⟨by decide +kernel, by decide +kernel⟩, List.mem_of_getElem? (i := 1228) (by decide +kernel), List.mem_of_getElem? (i := 1504) (by decide +kernel), List.mem_of_getElem? (i := 1505) (by decide +kernel)⟩
def lw_privs_4 : List (MethodName × Nat) := [(⟨"FreckleChartModel", "look2", "(I)I"⟩, 41), (⟨"FreckleChartModel", "isSignByte", "(I)Z"⟩, 41), (⟨"FreckleChartModel", "readPart", "()V"⟩, 41), (⟨"FreckleChartModel", "isCoast", "()Z"⟩, 41), (⟨"FreckleChartModel", "isWord", "(J)Z"⟩, 41), (⟨"FreckleChartModel", "readCoast", "()V"⟩, 41), (⟨"FreckleChartModel", "fail", "(II)V"⟩, 41), (⟨"FreckleChartModel", "count", "(II)I"⟩, 41), (⟨"FreckleChartModel", "stands", "(II)I"⟩, 41), (⟨"FreckleChartModel", "amiss", "()V"⟩, 41), (⟨"FreckleChartModel", "must", "(Z)V"⟩, 41), (⟨"FreckleChartModel", "isBy", "()Z"⟩, 41), (⟨"FreckleChartModel", "behindWord", "(ZII)I"⟩, 41), (⟨"FreckleChartModel", "isOdds", "()Z"⟩, 41), (⟨"FreckleChartModel", "readOdds", "()V"⟩, 41), (⟨"FreckleChartModel", "isRock", "()Z"⟩, 41)]
theorem lw_r4 : ∀ q ∈ lw_privs_4, lw_okq q := List.forall_mem_cons.mpr ⟨lw_p48, List.forall_mem_cons.mpr ⟨lw_p49, List.forall_mem_cons.mpr ⟨lw_p50, List.forall_mem_cons.mpr ⟨lw_p51, List.forall_mem_cons.mpr ⟨lw_p52, List.forall_mem_cons.mpr ⟨lw_p53, List.forall_mem_cons.mpr ⟨lw_p54, List.forall_mem_cons.mpr ⟨lw_p55, List.forall_mem_cons.mpr ⟨lw_p56, List.forall_mem_cons.mpr ⟨lw_p57, List.forall_mem_cons.mpr ⟨lw_p58, List.forall_mem_cons.mpr ⟨lw_p59, List.forall_mem_cons.mpr ⟨lw_p60, List.forall_mem_cons.mpr ⟨lw_p61, List.forall_mem_cons.mpr ⟨lw_p62, List.forall_mem_cons.mpr ⟨lw_p63, fun _ h => absurd h List.not_mem_nil⟩⟩⟩⟩⟩⟩⟩⟩⟩⟩⟩⟩⟩⟩⟩⟩
theorem lw_p64 : lw_okq (⟨"FreckleChartModel", "readRock", "()V"⟩, 41) := ⟨⟨by decide +kernel, by decide +kernel⟩, List.mem_of_getElem? (i := 1228) (by decide +kernel), List.mem_of_getElem? (i := 1508) (by decide +kernel), List.mem_of_getElem? (i := 1509) (by decide +kernel)⟩
theorem lw_p65 : lw_okq (⟨"FreckleChartModel", "rockIn", "(II)I"⟩, 41) := ⟨⟨by decide +kernel, by decide +kernel⟩, List.mem_of_getElem? (i := 1228) (by decide +kernel), List.mem_of_getElem? (i := 1512) (by decide +kernel), List.mem_of_getElem? (i := 1513) (by decide +kernel)⟩
theorem lw_p66 : lw_okq (⟨"FreckleChartModel", "isDeep", "()Z"⟩, 41) := ⟨⟨by decide +kernel, by decide +kernel⟩, List.mem_of_getElem? (i := 1228) (by decide +kernel), List.mem_of_getElem? (i := 1516) (by decide +kernel), List.mem_of_getElem? (i := 1517) (by decide +kernel)⟩
theorem lw_p67 : lw_okq (⟨"FreckleChartModel", "wrecks", "(III)V"⟩, 41) := ⟨⟨by decide +kernel, by decide +kernel⟩, List.mem_of_getElem? (i := 1228) (by decide +kernel), List.mem_of_getElem? (i := 1520) (by decide +kernel), List.mem_of_getElem? (i := 1521) (by decide +kernel)⟩
theorem lw_p68 : lw_okq (⟨"FreckleChartModel", "isCousin", "()Z"⟩, 41) := ⟨⟨by decide +kernel, by decide +kernel⟩, List.mem_of_getElem? (i := 1228) (by decide +kernel), List.mem_of_getElem? (i := 1524) (by decide +kernel), List.mem_of_getElem? (i := 1525) (by decide +kernel)⟩
theorem lw_p69 : lw_okq (⟨"FreckleChartModel", "readCousin", "()V"⟩, 41) := ⟨⟨by decide +kernel, by decide +kernel⟩, List.mem_of_getElem? (i := 1228) (by decide +kernel), List.mem_of_getElem? (i := 1528) (by decide +kernel), List.mem_of_getElem? (i := 1529) (by decide +kernel)⟩
theorem lw_p70 : lw_okq (⟨"FreckleChartModel", "isName", "()Z"⟩, 41) := ⟨⟨by decide +kernel, by decide +kernel⟩, List.mem_of_getElem? (i := 1228) (by decide +kernel), List.mem_of_getElem? (i := 1532) (by decide +kernel), List.mem_of_getElem? (i := 1533) (by decide +kernel)⟩
theorem lw_p71 : lw_okq (⟨"FreckleChartModel", "isKept", "()Z"⟩, 41) := ⟨⟨by decide +kernel, by decide +kernel⟩, List.mem_of_getElem? (i := 1228) (by decide +kernel), List.mem_of_getElem? (i := 1536) (by decide +kernel), List.mem_of_getElem? (i := 1537) (by decide +kernel)⟩
theorem lw_p72 : lw_okq (⟨"FreckleChartModel", "isAt", "()Z"⟩, 41) := ⟨⟨by decide +kernel, by decide +kernel⟩, List.mem_of_getElem? (i := 1228) (by decide +kernel), List.mem_of_getElem? (i := 1540) (by decide +kernel), List.mem_of_getElem? (i := 1541) (by decide +kernel)⟩
theorem lw_p73 : lw_okq (⟨"FreckleChartModel", "isWide", "()Z"⟩, 41) := ⟨⟨by decide +kernel, by decide +kernel⟩, List.mem_of_getElem? (i := 1228) (by decide +kernel), List.mem_of_getElem? (i := 1544) (by decide +kernel), List.mem_of_getElem? (i := 1545) (by decide +kernel)⟩
theorem lw_p74 : lw_okq (⟨"FreckleChartModel", "isHigh", "()Z"⟩, 41) := ⟨⟨by decide +kernel, by decide +kernel⟩, List.mem_of_getElem? (i := 1228) (by decide +kernel), List.mem_of_getElem? (i := 1548) (by decide +kernel), List.mem_of_getElem? (i := 1549) (by decide +kernel)⟩
theorem lw_p75 : lw_okq (⟨"FreckleChartModel", "isInked", "()Z"⟩, 41) := ⟨⟨by decide +kernel, by decide +kernel⟩, List.mem_of_getElem? (i := 1228) (by decide +kernel), List.mem_of_getElem? (i := 1552) (by decide +kernel), List.mem_of_getElem? (i := 1553) (by decide +kernel)⟩
theorem lw_p76 : lw_okq (⟨"FreckleChartModel", "stepWord", "()I"⟩, 41) := ⟨⟨by decide +kernel, by decide +kernel⟩, List.mem_of_getElem? (i := 1228) (by decide +kernel), List.mem_of_getElem? (i := 1556) (by decide +kernel), List.mem_of_getElem? (i := 1557) (by decide +kernel)⟩
theorem lw_p77 : lw_okq (⟨"FreckleChartModel", "testWord", "()I"⟩, 41) := ⟨⟨by decide +kernel, by decide +kernel⟩, List.mem_of_getElem? (i := 1228) (by decide +kernel), List.mem_of_getElem? (i := 1560) (by decide +kernel), List.mem_of_getElem? (i := 1561) (by decide +kernel)⟩
theorem lw_p78 : lw_okq (⟨"FreckleChartModel", "isTan", "()Z"⟩, 41) := ⟨⟨by decide +kernel, by decide +kernel⟩, List.mem_of_getElem? (i := 1228) (by decide +kernel), List.mem_of_getElem? (i := 1564) (by decide +kernel), List.mem_of_getElem? (i := 1565) (by decide +kernel)⟩
theorem lw_p79 : lw_okq (⟨"FreckleChartModel", "isVeiled", "()Z"⟩, 41) := ⟨⟨by decide +kernel, by decide +kernel⟩, List.mem_of_getElem? (i := 1228) (by decide +kernel), List.mem_of_getElem? (i := 1568) (by decide +kernel), List.mem_of_getElem? (i := 1569) (by decide +kernel)⟩
def lw_privs_5 : List (MethodName × Nat) := [(⟨"FreckleChartModel", "readRock", "()V"⟩, 41), (⟨"FreckleChartModel", "rockIn", "(II)I"⟩, 41), (⟨"FreckleChartModel", "isDeep", "()Z"⟩, 41), (⟨"FreckleChartModel", "wrecks", "(III)V"⟩, 41), (⟨"FreckleChartModel", "isCousin", "()Z"⟩, 41), (⟨"FreckleChartModel", "readCousin", "()V"⟩, 41), (⟨"FreckleChartModel", "isName", "()Z"⟩, 41), (⟨"FreckleChartModel", "isKept", "()Z"⟩, 41), (⟨"FreckleChartModel", "isAt", "()Z"⟩, 41), (⟨"FreckleChartModel", "isWide", "()Z"⟩, 41), (⟨"FreckleChartModel", "isHigh", "()Z"⟩, 41), (⟨"FreckleChartModel", "isInked", "()Z"⟩, 41), (⟨"FreckleChartModel", "stepWord", "()I"⟩, 41), (⟨"FreckleChartModel", "testWord", "()I"⟩, 41), (⟨"FreckleChartModel", "isTan", "()Z"⟩, 41), (⟨"FreckleChartModel", "isVeiled", "()Z"⟩, 41)]
theorem lw_r5 : ∀ q ∈ lw_privs_5, lw_okq q := List.forall_mem_cons.mpr ⟨lw_p64, List.forall_mem_cons.mpr ⟨lw_p65, List.forall_mem_cons.mpr ⟨lw_p66, List.forall_mem_cons.mpr ⟨lw_p67, List.forall_mem_cons.mpr ⟨lw_p68, List.forall_mem_cons.mpr ⟨lw_p69, List.forall_mem_cons.mpr ⟨lw_p70, List.forall_mem_cons.mpr ⟨lw_p71, List.forall_mem_cons.mpr ⟨lw_p72, List.forall_mem_cons.mpr ⟨lw_p73, List.forall_mem_cons.mpr ⟨lw_p74, List.forall_mem_cons.mpr ⟨lw_p75, List.forall_mem_cons.mpr ⟨lw_p76, List.forall_mem_cons.mpr ⟨lw_p77, List.forall_mem_cons.mpr ⟨lw_p78, List.forall_mem_cons.mpr ⟨lw_p79, fun _ h => absurd h List.not_mem_nil⟩⟩⟩⟩⟩⟩⟩⟩⟩⟩⟩⟩⟩⟩⟩⟩
theorem lw_p80 : lw_okq (⟨"FreckleChartModel", "isEnd", "()Z"⟩, 41) := ⟨⟨by decide +kernel, by decide +kernel⟩, List.mem_of_getElem? (i := 1228) (by decide +kernel), List.mem_of_getElem? (i := 1572) (by decide +kernel), List.mem_of_getElem? (i := 1573) (by decide +kernel)⟩
theorem lw_p81 : lw_okq (⟨"FreckleChartModel", "named", "(I)I"⟩, 41) := ⟨⟨by decide +kernel, by decide +kernel⟩, List.mem_of_getElem? (i := 1228) (by decide +kernel), List.mem_of_getElem? (i := 1576) (by decide +kernel), List.mem_of_getElem? (i := 1577) (by decide +kernel)⟩
theorem lw_p82 : lw_okq (⟨"FreckleChartModel", "comes", "(IIII)V"⟩, 41) := ⟨⟨by decide +kernel, by decide +kernel⟩, List.mem_of_getElem? (i := 1228) (by decide +kernel), List.mem_of_getElem? (i := 1580) (by decide +kernel), List.mem_of_getElem? (i := 1581) (by decide +kernel)⟩
theorem lw_p83 : lw_okq (⟨"FreckleChartModel", "perhaps", "(Z)Z"⟩, 41) := ⟨⟨by decide +kernel, by decide +kernel⟩, List.mem_of_getElem? (i := 1228) (by decide +kernel), List.mem_of_getElem? (i := 1584) (by decide +kernel), List.mem_of_getElem? (i := 1585) (by decide +kernel)⟩
theorem lw_p84 : lw_okq (⟨"FreckleChartModel", "readInked", "(I)V"⟩, 41) := ⟨⟨by decide +kernel, by decide +kernel⟩, List.mem_of_getElem? (i := 1228) (by decide +kernel), List.mem_of_getElem? (i := 1588) (by decide +kernel), List.mem_of_getElem? (i := 1589) (by decide +kernel)⟩
theorem lw_p85 : lw_okq (⟨"FreckleChartModel", "isOfPatch", "(III)Z"⟩, 41) := ⟨⟨by decide +kernel, by decide +kernel⟩, List.mem_of_getElem? (i := 1228) (by decide +kernel), List.mem_of_getElem? (i := 1592) (by decide +kernel), List.mem_of_getElem? (i := 1593) (by decide +kernel)⟩
theorem lw_p86 : lw_okq (⟨"FreckleChartModel", "isSign", "(I)Z"⟩, 41) := ⟨⟨by decide +kernel, by decide +kernel⟩, List.mem_of_getElem? (i := 1228) (by decide +kernel), List.mem_of_getElem? (i := 1599) (by decide +kernel), List.mem_of_getElem? (i := 1600) (by decide +kernel)⟩
theorem lw_p87 : lw_okq (⟨"FreckleChartModel", "isWell", "()Z"⟩, 41) := ⟨⟨by decide +kernel, by decide +kernel⟩, List.mem_of_getElem? (i := 1228) (by decide +kernel), List.mem_of_getElem? (i := 1603) (by decide +kernel), List.mem_of_getElem? (i := 1604) (by decide +kernel)⟩
theorem lw_p88 : lw_okq (⟨"FreckleChartModel", "copy", "(II)V"⟩, 41) := ⟨⟨by decide +kernel, by decide +kernel⟩, List.mem_of_getElem? (i := 1228) (by decide +kernel), List.mem_of_getElem? (i := 1607) (by decide +kernel), List.mem_of_getElem? (i := 1608) (by decide +kernel)⟩
theorem lw_p89 : lw_okq (⟨"FreckleChartModel", "readStep", "(I)V"⟩, 41) := ⟨⟨by decide +kernel, by decide +kernel⟩, List.mem_of_getElem? (i := 1228) (by decide +kernel), List.mem_of_getElem? (i := 1615) (by decide +kernel), List.mem_of_getElem? (i := 1616) (by decide +kernel)⟩
theorem lw_p90 : lw_okq (⟨"FreckleChartModel", "readRest", "(I)V"⟩, 41) := ⟨⟨by decide +kernel, by decide +kernel⟩, List.mem_of_getElem? (i := 1228) (by decide +kernel), List.mem_of_getElem? (i := 1619) (by decide +kernel), List.mem_of_getElem? (i := 1620) (by decide +kernel)⟩
theorem lw_p91 : lw_okq (⟨"FreckleChartModel", "readTest", "(I)V"⟩, 41) := ⟨⟨by decide +kernel, by decide +kernel⟩, List.mem_of_getElem? (i := 1228) (by decide +kernel), List.mem_of_getElem? (i := 1623) (by decide +kernel), List.mem_of_getElem? (i := 1624) (by decide +kernel)⟩
theorem lw_p92 : lw_okq (⟨"FreckleChartModel", "readTold", "()I"⟩, 41) := ⟨⟨by decide +kernel, by decide +kernel⟩, List.mem_of_getElem? (i := 1228) (by decide +kernel), List.mem_of_getElem? (i := 1627) (by decide +kernel), List.mem_of_getElem? (i := 1628) (by decide +kernel)⟩
theorem lw_p93 : lw_okq (⟨"FreckleChartModel", "cells", "()I"⟩, 41) := ⟨⟨by decide +kernel, by decide +kernel⟩, List.mem_of_getElem? (i := 1228) (by decide +kernel), List.mem_of_getElem? (i := 1632) (by decide +kernel), List.mem_of_getElem? (i := 1633) (by decide +kernel)⟩
theorem lw_p94 : lw_okq (⟨"FreckleChartModel", "refuse", "(I)I"⟩, 41) := ⟨⟨by decide +kernel, by decide +kernel⟩, List.mem_of_getElem? (i := 1228) (by decide +kernel), List.mem_of_getElem? (i := 1641) (by decide +kernel), List.mem_of_getElem? (i := 1642) (by decide +kernel)⟩
theorem lw_p95 : lw_okq (⟨"FreckleChartModel", "veiledSet", "()I"⟩, 41) := ⟨⟨by decide +kernel, by decide +kernel⟩, List.mem_of_getElem? (i := 1228) (by decide +kernel), List.mem_of_getElem? (i := 1645) (by decide +kernel), List.mem_of_getElem? (i := 1646) (by decide +kernel)⟩
def lw_privs_6 : List (MethodName × Nat) := [(⟨"FreckleChartModel", "isEnd", "()Z"⟩, 41), (⟨"FreckleChartModel", "named", "(I)I"⟩, 41), (⟨"FreckleChartModel", "comes", "(IIII)V"⟩, 41), (⟨"FreckleChartModel", "perhaps", "(Z)Z"⟩, 41), (⟨"FreckleChartModel", "readInked", "(I)V"⟩, 41), (⟨"FreckleChartModel", "isOfPatch", "(III)Z"⟩, 41), (⟨"FreckleChartModel", "isSign", "(I)Z"⟩, 41), (⟨"FreckleChartModel", "isWell", "()Z"⟩, 41), (⟨"FreckleChartModel", "copy", "(II)V"⟩, 41), (⟨"FreckleChartModel", "readStep", "(I)V"⟩, 41), (⟨"FreckleChartModel", "readRest", "(I)V"⟩, 41), (⟨"FreckleChartModel", "readTest", "(I)V"⟩, 41), (⟨"FreckleChartModel", "readTold", "()I"⟩, 41), (⟨"FreckleChartModel", "cells", "()I"⟩, 41), (⟨"FreckleChartModel", "refuse", "(I)I"⟩, 41), (⟨"FreckleChartModel", "veiledSet", "()I"⟩, 41)]
theorem lw_r6 : ∀ q ∈ lw_privs_6, lw_okq q := List.forall_mem_cons.mpr ⟨lw_p80, List.forall_mem_cons.mpr ⟨lw_p81, List.forall_mem_cons.mpr ⟨lw_p82, List.forall_mem_cons.mpr ⟨lw_p83, List.forall_mem_cons.mpr ⟨lw_p84, List.forall_mem_cons.mpr ⟨lw_p85, List.forall_mem_cons.mpr ⟨lw_p86, List.forall_mem_cons.mpr ⟨lw_p87, List.forall_mem_cons.mpr ⟨lw_p88, List.forall_mem_cons.mpr ⟨lw_p89, List.forall_mem_cons.mpr ⟨lw_p90, List.forall_mem_cons.mpr ⟨lw_p91, List.forall_mem_cons.mpr ⟨lw_p92, List.forall_mem_cons.mpr ⟨lw_p93, List.forall_mem_cons.mpr ⟨lw_p94, List.forall_mem_cons.mpr ⟨lw_p95, fun _ h => absurd h List.not_mem_nil⟩⟩⟩⟩⟩⟩⟩⟩⟩⟩⟩⟩⟩⟩⟩⟩
theorem lw_p96 : lw_okq (⟨"FreckleChartModel", "rockCells", "()I"⟩, 41) := ⟨⟨by decide +kernel, by decide +kernel⟩, List.mem_of_getElem? (i := 1228) (by decide +kernel), List.mem_of_getElem? (i := 1649) (by decide +kernel), List.mem_of_getElem? (i := 1650) (by decide +kernel)⟩
theorem lw_p97 : lw_okq (⟨"FreckleChartModel", "isRockAt", "(I)Z"⟩, 41) := ⟨⟨by decide +kernel, by decide +kernel⟩, List.mem_of_getElem? (i := 1228) (by decide +kernel), List.mem_of_getElem? (i := 1657) (by decide +kernel), List.mem_of_getElem? (i := 1658) (by decide +kernel)⟩
theorem lw_p98 : lw_okq (⟨"FreckleChartModel", "isCellAt", "(I)Z"⟩, 41) := ⟨⟨by decide +kernel, by decide +kernel⟩, List.mem_of_getElem? (i := 1228) (by decide +kernel), List.mem_of_getElem? (i := 1665) (by decide +kernel), List.mem_of_getElem? (i := 1666) (by decide +kernel)⟩
theorem lw_p99 : lw_okq (⟨"FreckleChartModel", "isCousinAt", "(I)Z"⟩, 41) := ⟨⟨by decide +kernel, by decide +kernel⟩, List.mem_of_getElem? (i := 1228) (by decide +kernel), List.mem_of_getElem? (i := 1673) (by decide +kernel), List.mem_of_getElem? (i := 1674) (by decide +kernel)⟩
theorem lw_p100 : lw_okq (⟨"FreckleChartModel", "patchOf", "(I)I"⟩, 41) := ⟨⟨by decide +kernel, by decide +kernel⟩, List.mem_of_getElem? (i := 1228) (by decide +kernel), List.mem_of_getElem? (i := 1678) (by decide +kernel), List.mem_of_getElem? (i := 1679) (by decide +kernel)⟩
theorem lw_p101 : lw_okq (⟨"FreckleChartModel", "shownOn", "(I)I"⟩, 41) := ⟨⟨by decide +kernel, by decide +kernel⟩, List.mem_of_getElem? (i := 1228) (by decide +kernel), List.mem_of_getElem? (i := 1686) (by decide +kernel), List.mem_of_getElem? (i := 1687) (by decide +kernel)⟩
theorem lw_p102 : lw_okq (⟨"FreckleChartModel", "isTray", "(I)Z"⟩, 41) := ⟨⟨by decide +kernel, by decide +kernel⟩, List.mem_of_getElem? (i := 1228) (by decide +kernel), List.mem_of_getElem? (i := 1694) (by decide +kernel), List.mem_of_getElem? (i := 1695) (by decide +kernel)⟩
theorem lw_p103 : lw_okq (⟨"FreckleChartModel", "tans", "(II)Z"⟩, 41) := ⟨⟨by decide +kernel, by decide +kernel⟩, List.mem_of_getElem? (i := 1228) (by decide +kernel), List.mem_of_getElem? (i := 1705) (by decide +kernel), List.mem_of_getElem? (i := 1706) (by decide +kernel)⟩
theorem lw_p104 : lw_okq (⟨"FreckleChartModel", "rains", "(I)I"⟩, 41) := ⟨⟨by decide +kernel, by decide +kernel⟩, List.mem_of_getElem? (i := 1228) (by decide +kernel), List.mem_of_getElem? (i := 1714) (by decide +kernel), List.mem_of_getElem? (i := 1715) (by decide +kernel)⟩
theorem lw_p105 : lw_okq (⟨"FreckleChartModel", "becomes", "(II)Z"⟩, 41) := ⟨⟨by decide +kernel, by decide +kernel⟩, List.mem_of_getElem? (i := 1228) (by decide +kernel), List.mem_of_getElem? (i := 1722) (by decide +kernel), List.mem_of_getElem? (i := 1723) (by decide +kernel)⟩
theorem lw_p106 : lw_okq (⟨"FreckleChartModel", "inks", "(II)Z"⟩, 41) := ⟨⟨by decide +kernel, by decide +kernel⟩, List.mem_of_getElem? (i := 1228) (by decide +kernel), List.mem_of_getElem? (i := 1733) (by decide +kernel), List.mem_of_getElem? (i := 1734) (by decide +kernel)⟩
theorem lw_p107 : lw_okq (⟨"FreckleChartModel", "whyNoSail", "(IIII)I"⟩, 41) := ⟨⟨by decide +kernel, by decide +kernel⟩, List.mem_of_getElem? (i := 1228) (by decide +kernel), List.mem_of_getElem? (i := 1758) (by decide +kernel), List.mem_of_getElem? (i := 1759) (by decide +kernel)⟩
theorem lw_p108 : lw_okq (⟨"FreckleChartModel", "whyNoWay", "(III)I"⟩, 41) := ⟨⟨by decide +kernel, by decide +kernel⟩, List.mem_of_getElem? (i := 1228) (by decide +kernel), List.mem_of_getElem? (i := 1762) (by decide +kernel), List.mem_of_getElem? (i := 1763) (by decide +kernel)⟩
theorem lw_p109 : lw_okq (⟨"FreckleChartModel", "areCousins", "(I)Z"⟩, 41) := ⟨⟨by decide +kernel, by decide +kernel⟩, List.mem_of_getElem? (i := 1228) (by decide +kernel), List.mem_of_getElem? (i := 1766) (by decide +kernel), List.mem_of_getElem? (i := 1767) (by decide +kernel)⟩
theorem lw_p110 : lw_okq (⟨"FreckleChartModel", "allCousins", "()I"⟩, 41) := ⟨⟨by decide +kernel, by decide +kernel⟩, List.mem_of_getElem? (i := 1228) (by decide +kernel), List.mem_of_getElem? (i := 1770) (by decide +kernel), List.mem_of_getElem? (i := 1771) (by decide +kernel)⟩
theorem lw_p111 : lw_okq (⟨"FreckleChartModel", "sails", "(IIII)I"⟩, 41) := ⟨⟨by decide +kernel, by decide +kernel⟩, List.mem_of_getElem? (i := 1228) (by decide +kernel), List.mem_of_getElem? (i := 1775) (by decide +kernel), List.mem_of_getElem? (i := 1776) (by decide +kernel)⟩
def lw_privs_7 : List (MethodName × Nat) := [(⟨"FreckleChartModel", "rockCells", "()I"⟩, 41), (⟨"FreckleChartModel", "isRockAt", "(I)Z"⟩, 41), (⟨"FreckleChartModel", "isCellAt", "(I)Z"⟩, 41), (⟨"FreckleChartModel", "isCousinAt", "(I)Z"⟩, 41), (⟨"FreckleChartModel", "patchOf", "(I)I"⟩, 41), (⟨"FreckleChartModel", "shownOn", "(I)I"⟩, 41), (⟨"FreckleChartModel", "isTray", "(I)Z"⟩, 41), (⟨"FreckleChartModel", "tans", "(II)Z"⟩, 41), (⟨"FreckleChartModel", "rains", "(I)I"⟩, 41), (⟨"FreckleChartModel", "becomes", "(II)Z"⟩, 41), (⟨"FreckleChartModel", "inks", "(II)Z"⟩, 41), (⟨"FreckleChartModel", "whyNoSail", "(IIII)I"⟩, 41), (⟨"FreckleChartModel", "whyNoWay", "(III)I"⟩, 41), (⟨"FreckleChartModel", "areCousins", "(I)Z"⟩, 41), (⟨"FreckleChartModel", "allCousins", "()I"⟩, 41), (⟨"FreckleChartModel", "sails", "(IIII)I"⟩, 41)]
theorem lw_r7 : ∀ q ∈ lw_privs_7, lw_okq q := List.forall_mem_cons.mpr ⟨lw_p96, List.forall_mem_cons.mpr ⟨lw_p97, List.forall_mem_cons.mpr ⟨lw_p98, List.forall_mem_cons.mpr ⟨lw_p99, List.forall_mem_cons.mpr ⟨lw_p100, List.forall_mem_cons.mpr ⟨lw_p101, List.forall_mem_cons.mpr ⟨lw_p102, List.forall_mem_cons.mpr ⟨lw_p103, List.forall_mem_cons.mpr ⟨lw_p104, List.forall_mem_cons.mpr ⟨lw_p105, List.forall_mem_cons.mpr ⟨lw_p106, List.forall_mem_cons.mpr ⟨lw_p107, List.forall_mem_cons.mpr ⟨lw_p108, List.forall_mem_cons.mpr ⟨lw_p109, List.forall_mem_cons.mpr ⟨lw_p110, List.forall_mem_cons.mpr ⟨lw_p111, fun _ h => absurd h List.not_mem_nil⟩⟩⟩⟩⟩⟩⟩⟩⟩⟩⟩⟩⟩⟩⟩⟩
theorem lw_p112 : lw_okq (⟨"FreckleChartModel", "laysWay", "(III)I"⟩, 41) := ⟨⟨by decide +kernel, by decide +kernel⟩, List.mem_of_getElem? (i := 1228) (by decide +kernel), List.mem_of_getElem? (i := 1779) (by decide +kernel), List.mem_of_getElem? (i := 1780) (by decide +kernel)⟩
theorem lw_p113 : lw_okq (⟨"FreckleChartModel", "openBy", "(I)I"⟩, 41) := ⟨⟨by decide +kernel, by decide +kernel⟩, List.mem_of_getElem? (i := 1228) (by decide +kernel), List.mem_of_getElem? (i := 1783) (by decide +kernel), List.mem_of_getElem? (i := 1784) (by decide +kernel)⟩
theorem lw_p114 : lw_okq (⟨"FreckleChartModel", "chartedBy", "(I)I"⟩, 41) := ⟨⟨by decide +kernel, by decide +kernel⟩, List.mem_of_getElem? (i := 1228) (by decide +kernel), List.mem_of_getElem? (i := 1787) (by decide +kernel), List.mem_of_getElem? (i := 1788) (by decide +kernel)⟩
theorem lw_p115 : lw_okq (⟨"FreckleChartModel", "isBeside", "(II)Z"⟩, 41) := ⟨⟨by decide +kernel, by decide +kernel⟩, List.mem_of_getElem? (i := 1228) (by decide +kernel), List.mem_of_getElem? (i := 1791) (by decide +kernel), List.mem_of_getElem? (i := 1792) (by decide +kernel)⟩
theorem lw_p116 : lw_okq (⟨"FreckleChartModel", "strikesOn", "(II)I"⟩, 41) := ⟨⟨by decide +kernel, by decide +kernel⟩, List.mem_of_getElem? (i := 1228) (by decide +kernel), List.mem_of_getElem? (i := 1798) (by decide +kernel), List.mem_of_getElem? (i := 1799) (by decide +kernel)⟩
theorem lw_p117 : lw_okq (⟨"FreckleChartModel", "isStruck", "(II)Z"⟩, 41) := ⟨⟨by decide +kernel, by decide +kernel⟩, List.mem_of_getElem? (i := 1228) (by decide +kernel), List.mem_of_getElem? (i := 1802) (by decide +kernel), List.mem_of_getElem? (i := 1803) (by decide +kernel)⟩
theorem lw_p118 : lw_okq (⟨"FreckleChartModel", "nextOn", "(I)I"⟩, 41) := ⟨⟨by decide +kernel, by decide +kernel⟩, List.mem_of_getElem? (i := 1228) (by decide +kernel), List.mem_of_getElem? (i := 1806) (by decide +kernel), List.mem_of_getElem? (i := 1807) (by decide +kernel)⟩
theorem lw_p119 : lw_okq (⟨"FreckleChartModel", "fewestOf", "(III)I"⟩, 41) := ⟨⟨by decide +kernel, by decide +kernel⟩, List.mem_of_getElem? (i := 1228) (by decide +kernel), List.mem_of_getElem? (i := 1834) (by decide +kernel), List.mem_of_getElem? (i := 1835) (by decide +kernel)⟩
theorem lw_p120 : lw_okq (⟨"FreckleChartModel", "isSafe", "(IIII)Z"⟩, 41) := ⟨⟨by decide +kernel, by decide +kernel⟩, List.mem_of_getElem? (i := 1228) (by decide +kernel), List.mem_of_getElem? (i := 1838) (by decide +kernel), List.mem_of_getElem? (i := 1839) (by decide +kernel)⟩
theorem lw_p121 : lw_okq (⟨"FreckleChartModel", "whyNotTwo", "(II)I"⟩, 41) := ⟨⟨by decide +kernel, by decide +kernel⟩, List.mem_of_getElem? (i := 1228) (by decide +kernel), List.mem_of_getElem? (i := 1862) (by decide +kernel), List.mem_of_getElem? (i := 1863) (by decide +kernel)⟩
theorem lw_p122 : lw_okq (⟨"FreckleChartModel", "covering", "()I"⟩, 41) := ⟨⟨by decide +kernel, by decide +kernel⟩, List.mem_of_getElem? (i := 1228) (by decide +kernel), List.mem_of_getElem? (i := 1870) (by decide +kernel), List.mem_of_getElem? (i := 1871) (by decide +kernel)⟩
theorem lw_p123 : lw_okq (⟨"FreckleChartModel", "whyNoFits", "(IIII)I"⟩, 41) := ⟨⟨by decide +kernel, by decide +kernel⟩, List.mem_of_getElem? (i := 1228) (by decide +kernel), List.mem_of_getElem? (i := 1882) (by decide +kernel), List.mem_of_getElem? (i := 1883) (by decide +kernel)⟩
theorem lw_p124 : lw_okq (⟨"FreckleChartModel", "numberOf", "(II)J"⟩, 41) := ⟨⟨by decide +kernel, by decide +kernel⟩, List.mem_of_getElem? (i := 1228) (by decide +kernel), List.mem_of_getElem? (i := 1888) (by decide +kernel), List.mem_of_getElem? (i := 1889) (by decide +kernel)⟩
theorem lw_p125 : lw_okq (⟨"FreckleChartModel", "placesTold", "(II)I"⟩, 41) := ⟨⟨by decide +kernel, by decide +kernel⟩, List.mem_of_getElem? (i := 1228) (by decide +kernel), List.mem_of_getElem? (i := 1892) (by decide +kernel), List.mem_of_getElem? (i := 1893) (by decide +kernel)⟩
theorem lw_p126 : lw_okq (⟨"FreckleChartModel", "fitting", "(IIII)I"⟩, 41) := ⟨⟨by decide +kernel, by decide +kernel⟩, List.mem_of_getElem? (i := 1228) (by decide +kernel), List.mem_of_getElem? (i := 1896) (by decide +kernel), List.mem_of_getElem? (i := 1897) (by decide +kernel)⟩
theorem lw_p127 : lw_okq (⟨"FreckleChartModel", "begins", "(III)Z"⟩, 41) := ⟨⟨by decide +kernel, by decide +kernel⟩, List.mem_of_getElem? (i := 1228) (by decide +kernel), List.mem_of_getElem? (i := 1900) (by decide +kernel), List.mem_of_getElem? (i := 1901) (by decide +kernel)⟩
def lw_privs_8 : List (MethodName × Nat) := [(⟨"FreckleChartModel", "laysWay", "(III)I"⟩, 41), (⟨"FreckleChartModel", "openBy", "(I)I"⟩, 41), (⟨"FreckleChartModel", "chartedBy", "(I)I"⟩, 41), (⟨"FreckleChartModel", "isBeside", "(II)Z"⟩, 41), (⟨"FreckleChartModel", "strikesOn", "(II)I"⟩, 41), (⟨"FreckleChartModel", "isStruck", "(II)Z"⟩, 41), (⟨"FreckleChartModel", "nextOn", "(I)I"⟩, 41), (⟨"FreckleChartModel", "fewestOf", "(III)I"⟩, 41), (⟨"FreckleChartModel", "isSafe", "(IIII)Z"⟩, 41), (⟨"FreckleChartModel", "whyNotTwo", "(II)I"⟩, 41), (⟨"FreckleChartModel", "covering", "()I"⟩, 41), (⟨"FreckleChartModel", "whyNoFits", "(IIII)I"⟩, 41), (⟨"FreckleChartModel", "numberOf", "(II)J"⟩, 41), (⟨"FreckleChartModel", "placesTold", "(II)I"⟩, 41), (⟨"FreckleChartModel", "fitting", "(IIII)I"⟩, 41), (⟨"FreckleChartModel", "begins", "(III)Z"⟩, 41)]
theorem lw_r8 : ∀ q ∈ lw_privs_8, lw_okq q := List.forall_mem_cons.mpr ⟨lw_p112, List.forall_mem_cons.mpr ⟨lw_p113, List.forall_mem_cons.mpr ⟨lw_p114, List.forall_mem_cons.mpr ⟨lw_p115, List.forall_mem_cons.mpr ⟨lw_p116, List.forall_mem_cons.mpr ⟨lw_p117, List.forall_mem_cons.mpr ⟨lw_p118, List.forall_mem_cons.mpr ⟨lw_p119, List.forall_mem_cons.mpr ⟨lw_p120, List.forall_mem_cons.mpr ⟨lw_p121, List.forall_mem_cons.mpr ⟨lw_p122, List.forall_mem_cons.mpr ⟨lw_p123, List.forall_mem_cons.mpr ⟨lw_p124, List.forall_mem_cons.mpr ⟨lw_p125, List.forall_mem_cons.mpr ⟨lw_p126, List.forall_mem_cons.mpr ⟨lw_p127, fun _ h => absurd h List.not_mem_nil⟩⟩⟩⟩⟩⟩⟩⟩⟩⟩⟩⟩⟩⟩⟩⟩
theorem lw_p128 : lw_okq (⟨"FreckleChartModel", "plays", "(II)I"⟩, 41) := ⟨⟨by decide +kernel, by decide +kernel⟩, List.mem_of_getElem? (i := 1228) (by decide +kernel), List.mem_of_getElem? (i := 1920) (by decide +kernel), List.mem_of_getElem? (i := 1921) (by decide +kernel)⟩
theorem lw_p129 : lw_okq (⟨"FreckleChartModel", "allShown", "()I"⟩, 41) := ⟨⟨by decide +kernel, by decide +kernel⟩, List.mem_of_getElem? (i := 1228) (by decide +kernel), List.mem_of_getElem? (i := 1924) (by decide +kernel), List.mem_of_getElem? (i := 1925) (by decide +kernel)⟩
theorem lw_p130 : lw_okq (⟨"FreckleChartModel", "odds", "(III)Z"⟩, 41) := ⟨⟨by decide +kernel, by decide +kernel⟩, List.mem_of_getElem? (i := 1228) (by decide +kernel), List.mem_of_getElem? (i := 1937) (by decide +kernel), List.mem_of_getElem? (i := 1938) (by decide +kernel)⟩
theorem lw_p131 : lw_okq (⟨"FreckleChartModel", "fraction", "(JJ)Z"⟩, 41) := ⟨⟨by decide +kernel, by decide +kernel⟩, List.mem_of_getElem? (i := 1228) (by decide +kernel), List.mem_of_getElem? (i := 1941) (by decide +kernel), List.mem_of_getElem? (i := 1942) (by decide +kernel)⟩
theorem lw_p132 : lw_okq (⟨"FreckleChartModel", "runsYears", "(I)V"⟩, 41) := ⟨⟨by decide +kernel, by decide +kernel⟩, List.mem_of_getElem? (i := 1228) (by decide +kernel), List.mem_of_getElem? (i := 1961) (by decide +kernel), List.mem_of_getElem? (i := 1962) (by decide +kernel)⟩
theorem lw_p133 : lw_okq (⟨"FreckleChartModel", "doAll", "(II)V"⟩, 41) := ⟨⟨by decide +kernel, by decide +kernel⟩, List.mem_of_getElem? (i := 1228) (by decide +kernel), List.mem_of_getElem? (i := 1965) (by decide +kernel), List.mem_of_getElem? (i := 1966) (by decide +kernel)⟩
theorem lw_p134 : lw_okq (⟨"FreckleChartModel", "doOne", "(I)V"⟩, 41) := ⟨⟨by decide +kernel, by decide +kernel⟩, List.mem_of_getElem? (i := 1228) (by decide +kernel), List.mem_of_getElem? (i := 1969) (by decide +kernel), List.mem_of_getElem? (i := 1970) (by decide +kernel)⟩
theorem lw_p135 : lw_okq (⟨"FreckleChartModel", "does", "(I)Z"⟩, 41) := ⟨⟨by decide +kernel, by decide +kernel⟩, List.mem_of_getElem? (i := 1228) (by decide +kernel), List.mem_of_getElem? (i := 1973) (by decide +kernel), List.mem_of_getElem? (i := 1974) (by decide +kernel)⟩
theorem lw_p136 : lw_okq (⟨"FreckleChartModel", "isTanned", "(II)Z"⟩, 41) := ⟨⟨by decide +kernel, by decide +kernel⟩, List.mem_of_getElem? (i := 1228) (by decide +kernel), List.mem_of_getElem? (i := 1977) (by decide +kernel), List.mem_of_getElem? (i := 1978) (by decide +kernel)⟩
theorem lw_p137 : lw_okq (⟨"FreckleChartModel", "isAny", "()Z"⟩, 41) := ⟨⟨by decide +kernel, by decide +kernel⟩, List.mem_of_getElem? (i := 1228) (by decide +kernel), List.mem_of_getElem? (i := 1981) (by decide +kernel), List.mem_of_getElem? (i := 1982) (by decide +kernel)⟩
theorem lw_p138 : lw_okq (⟨"FreckleChartModel", "draw", "(I)I"⟩, 41) := ⟨⟨by decide +kernel, by decide +kernel⟩, List.mem_of_getElem? (i := 1228) (by decide +kernel), List.mem_of_getElem? (i := 1985) (by decide +kernel), List.mem_of_getElem? (i := 1986) (by decide +kernel)⟩
theorem lw_p139 : lw_okq (⟨"FreckleChartModel", "isSo", "(I)Z"⟩, 41) := ⟨⟨by decide +kernel, by decide +kernel⟩, List.mem_of_getElem? (i := 1228) (by decide +kernel), List.mem_of_getElem? (i := 1990) (by decide +kernel), List.mem_of_getElem? (i := 1991) (by decide +kernel)⟩
def lw_privs_9 : List (MethodName × Nat) := [(⟨"FreckleChartModel", "plays", "(II)I"⟩, 41), (⟨"FreckleChartModel", "allShown", "()I"⟩, 41), (⟨"FreckleChartModel", "odds", "(III)Z"⟩, 41), (⟨"FreckleChartModel", "fraction", "(JJ)Z"⟩, 41), (⟨"FreckleChartModel", "runsYears", "(I)V"⟩, 41), (⟨"FreckleChartModel", "doAll", "(II)V"⟩, 41), (⟨"FreckleChartModel", "doOne", "(I)V"⟩, 41), (⟨"FreckleChartModel", "does", "(I)Z"⟩, 41), (⟨"FreckleChartModel", "isTanned", "(II)Z"⟩, 41), (⟨"FreckleChartModel", "isAny", "()Z"⟩, 41), (⟨"FreckleChartModel", "draw", "(I)I"⟩, 41), (⟨"FreckleChartModel", "isSo", "(I)Z"⟩, 41)]
theorem lw_r9 : ∀ q ∈ lw_privs_9, lw_okq q := List.forall_mem_cons.mpr ⟨lw_p128, List.forall_mem_cons.mpr ⟨lw_p129, List.forall_mem_cons.mpr ⟨lw_p130, List.forall_mem_cons.mpr ⟨lw_p131, List.forall_mem_cons.mpr ⟨lw_p132, List.forall_mem_cons.mpr ⟨lw_p133, List.forall_mem_cons.mpr ⟨lw_p134, List.forall_mem_cons.mpr ⟨lw_p135, List.forall_mem_cons.mpr ⟨lw_p136, List.forall_mem_cons.mpr ⟨lw_p137, List.forall_mem_cons.mpr ⟨lw_p138, List.forall_mem_cons.mpr ⟨lw_p139, fun _ h => absurd h List.not_mem_nil⟩⟩⟩⟩⟩⟩⟩⟩⟩⟩⟩⟩
def lw_privs : List (MethodName × Nat) := lw_privs_1 ++ (lw_privs_2 ++ (lw_privs_3 ++ (lw_privs_4 ++ (lw_privs_5 ++ (lw_privs_6 ++ (lw_privs_7 ++ (lw_privs_8 ++ (lw_privs_9))))))))
def lw_tbl : List Cond := k2_sels lw_privs ++ tables_1
theorem lw_privs_ok : ∀ q ∈ lw_privs, lw_okq q := by
  show ∀ q ∈ lw_privs_1 ++ (lw_privs_2 ++ (lw_privs_3 ++ (lw_privs_4 ++ (lw_privs_5 ++ (lw_privs_6 ++ (lw_privs_7 ++ (lw_privs_8 ++ (lw_privs_9)))))))), lw_okq q
  exact List.forall_mem_append.mpr ⟨lw_r1, List.forall_mem_append.mpr ⟨lw_r2, List.forall_mem_append.mpr ⟨lw_r3, List.forall_mem_append.mpr ⟨lw_r4, List.forall_mem_append.mpr ⟨lw_r5, List.forall_mem_append.mpr ⟨lw_r6, List.forall_mem_append.mpr ⟨lw_r7, List.forall_mem_append.mpr ⟨lw_r8, lw_r9⟩⟩⟩⟩⟩⟩⟩⟩
-- ===== end of PART A; then your names; then what follows =====
end
section
-- the words that can be handed on
def xW : List Cond := lw_tbl.filter goodWord
/-- a word by its place, without a walk over all tables -/
def xlk (h : Nat) : Option Cond := if h < 140 then (k2_sels lw_privs)[h]? else match (h - 140) / 240 with
  | 0 => tables_1_1[(h - 140) % 240]?
  | 1 => tables_1_2[(h - 140) % 240]?
  | 2 => tables_1_3[(h - 140) % 240]?
  | 3 => tables_1_4[(h - 140) % 240]?
  | 4 => tables_1_5[(h - 140) % 240]?
  | 5 => tables_1_6[(h - 140) % 240]?
  | 6 => tables_1_7[(h - 140) % 240]?
  | 7 => tables_1_8[(h - 140) % 240]?
  | _ => tables_1_9[(h - 140) % 240]?
theorem xlk_in {h : Nat} {w : Cond} (q : xlk h = some w) : w ∈ lw_tbl := by
  unfold xlk at q
  unfold lw_tbl tables_1
  split at q
  · exact List.mem_append_left _ (List.mem_of_getElem? q)
  · split at q
    · exact List.mem_append_right _ (List.mem_append_left _ (List.mem_of_getElem? q))
    · exact List.mem_append_right _ (List.mem_append_right _ (List.mem_append_left _ (List.mem_of_getElem? q)))
    · exact List.mem_append_right _ (List.mem_append_right _ (List.mem_append_right _ (List.mem_append_left _ (List.mem_of_getElem? q))))
    · exact List.mem_append_right _ (List.mem_append_right _ (List.mem_append_right _ (List.mem_append_right _ (List.mem_append_left _ (List.mem_of_getElem? q)))))
    · exact List.mem_append_right _ (List.mem_append_right _ (List.mem_append_right _ (List.mem_append_right _ (List.mem_append_right _ (List.mem_append_left _ (List.mem_of_getElem? q))))))
    · exact List.mem_append_right _ (List.mem_append_right _ (List.mem_append_right _ (List.mem_append_right _ (List.mem_append_right _ (List.mem_append_right _ (List.mem_append_left _ (List.mem_of_getElem? q)))))))
    · exact List.mem_append_right _ (List.mem_append_right _ (List.mem_append_right _ (List.mem_append_right _ (List.mem_append_right _ (List.mem_append_right _ (List.mem_append_right _ (List.mem_append_left _ (List.mem_of_getElem? q))))))))
    · exact List.mem_append_right _ (List.mem_append_right _ (List.mem_append_right _ (List.mem_append_right _ (List.mem_append_right _ (List.mem_append_right _ (List.mem_append_right _ (List.mem_append_right _ (List.mem_append_left _ (List.mem_of_getElem? q)))))))))
    · exact List.mem_append_right _ (List.mem_append_right _ (List.mem_append_right _ (List.mem_append_right _ (List.mem_append_right _ (List.mem_append_right _ (List.mem_append_right _ (List.mem_append_right _ (List.mem_append_right _ (List.mem_of_getElem? q)))))))))
def xw (h : Nat) (w : Cond) : Bool := decide (xlk h = some w) && goodWord w
theorem xw_in {h : Nat} {w : Cond} (q : xw h w = true) : w ∈ xW := by
  unfold xw at q
  rw [Bool.and_eq_true] at q
  exact List.mem_filter.mpr ⟨xlk_in (of_decide_eq_true q.1), q.2⟩
def cR0 : String := "FreckleChart$Coast"
def cT0 : u_T := fun k => match k with
  | 0 => ("FreckleChart$Coast", "wide", "I", false)
  | 1 => ("FreckleChart$Coast", "high", "I", false)
  | 2 => ("FreckleChart$Coast", "odds", "I", false)
  | 3 => ("FreckleChart$Coast", "rocks", "I", false)
  | 4 => ("FreckleChart$Coast", "rockCells", "[I", true)
  | 5 => ("FreckleChart$Coast", "rockDepths", "[I", true)
  | 6 => ("FreckleChart$Coast", "shallow", "[I", true)
  | 7 => ("FreckleChart$Coast", "cousins", "I", false)
  | 8 => ("FreckleChart$Coast", "names", "[J", true)
  | 9 => ("FreckleChart$Coast", "firstCells", "[I", true)
  | 10 => ("FreckleChart$Coast", "patchWides", "[I", true)
  | 11 => ("FreckleChart$Coast", "patchHighs", "[I", true)
  | 12 => ("FreckleChart$Coast", "patches", "[I", true)
  | 13 => ("FreckleChart$Coast", "tans", "[I", true)
  | 14 => ("FreckleChart$Coast", "inked", "[I", true)
  | 15 => ("FreckleChart$Coast", "veiled", "I", false)
  | 16 => ("FreckleChart$Coast", "struck", "I", false)
  | 17 => ("FreckleChart$Coast", "cameIn", "I", false)
  | _ => ("FreckleChart$Coast", "years", "LFreckleChart$Years;", true)
def cR1 : String := "FreckleChart$CoastText"
def cT1 : u_T := fun k => match k with
  | 0 => ("FreckleChart$CoastText", "reader", "LFreckleChart$Reader;", true)
  | 1 => ("FreckleChart$CoastText", "sizeTold", "Z", false)
  | _ => ("FreckleChart$CoastText", "oddsTold", "Z", false)
def cR2 : String := "FreckleChart$Fraction"
def cT2 : u_T := fun k => match k with
  | 0 => ("FreckleChart$Fraction", "above", "J", false)
  | 1 => ("FreckleChart$Fraction", "below", "J", false)
  | _ => ("FreckleChart$Fraction", "ways", "[J", true)
def cR3 : String := "FreckleChart$Living"
def cT3 : u_T := fun k => match k with
  | 0 => ("FreckleChart$Living", "pilot", "LFreckleChart$Pilot;", true)
  | 1 => ("FreckleChart$Living", "roundsLeft", "[I", true)
  | 2 => ("FreckleChart$Living", "drawn", "I", false)
  | 3 => ("FreckleChart$Living", "steps", "I", false)
  | 4 => ("FreckleChart$Living", "missed", "I", false)
  | 5 => ("FreckleChart$Living", "struck", "I", false)
  | 6 => ("FreckleChart$Living", "cameIn", "I", false)
  | 7 => ("FreckleChart$Living", "darkened", "I", false)
  | _ => ("FreckleChart$Living", "isLeft", "Z", false)
def cR4 : String := "FreckleChart$Pilot"
def cT4 : u_T := fun k => match k with
  | 0 => ("FreckleChart$Pilot", "cells", "[I", true)
  | 1 => ("FreckleChart$Pilot", "length", "I", false)
  | 2 => ("FreckleChart$Pilot", "rings", "[I", true)
  | 3 => ("FreckleChart$Pilot", "wide", "I", false)
  | 4 => ("FreckleChart$Pilot", "firstColumn", "I", false)
  | _ => ("FreckleChart$Pilot", "lastColumn", "I", false)
def cR5 : String := "FreckleChart$Reader"
def cT5 : u_T := fun k => match k with
  | 0 => ("FreckleChart$Reader", "text", "[B", true)
  | 1 => ("FreckleChart$Reader", "length", "I", false)
  | 2 => ("FreckleChart$Reader", "next", "I", false)
  | 3 => ("FreckleChart$Reader", "place", "I", false)
  | 4 => ("FreckleChart$Reader", "kind", "I", false)
  | 5 => ("FreckleChart$Reader", "code", "J", false)
  | 6 => ("FreckleChart$Reader", "number", "I", false)
  | 7 => ("FreckleChart$Reader", "sign", "I", false)
  | 8 => ("FreckleChart$Reader", "fault", "I", false)
  | _ => ("FreckleChart$Reader", "faultPlace", "I", false)
def cR6 : String := "FreckleChart$Trays"
def cT6 : u_T := fun k => match k with
  | 0 => ("FreckleChart$Trays", "rows", "[[J", true)
  | 1 => ("FreckleChart$Trays", "sorts", "[I", true)
  | _ => ("FreckleChart$Trays", "lengths", "[I", true)
def cR7 : String := "FreckleChart$Years"
def cT7 : u_T := fun k => match k with
  | 0 => ("FreckleChart$Years", "there", "Z", false)
  | 1 => ("FreckleChart$Years", "steps", "I", false)
  | 2 => ("FreckleChart$Years", "lines", "I", false)
  | 3 => ("FreckleChart$Years", "kinds", "[I", true)
  | 4 => ("FreckleChart$Years", "whose", "[I", true)
  | 5 => ("FreckleChart$Years", "firsts", "[I", true)
  | 6 => ("FreckleChart$Years", "seconds", "[I", true)
  | 7 => ("FreckleChart$Years", "thirds", "[I", true)
  | _ => ("FreckleChart$Years", "partners", "[I", true)
def cR8 : String := "FreckleChart$YearsText"
def cT8 : u_T := fun k => match k with
  | 0 => ("FreckleChart$YearsText", "reader", "LFreckleChart$Reader;", true)
  | 1 => ("FreckleChart$YearsText", "opened", "[I", true)
  | _ => ("FreckleChart$YearsText", "nested", "I", false)
def cR9 : String := "FreckleChart"
def cT9 : u_T := fun k => match k with
  | 0 => ("FreckleChart", "fraction", "LFreckleChart$Fraction;", true)
  | 1 => ("FreckleChart", "trays", "LFreckleChart$Trays;", true)
  | 2 => ("FreckleChart", "tape", "[B", true)
  | 3 => ("FreckleChart", "coastText", "LFreckleChart$CoastText;", true)
  | 4 => ("FreckleChart", "yearsText", "LFreckleChart$YearsText;", true)
  | 5 => ("FreckleChart", "pilot", "LFreckleChart$Pilot;", true)
  | 6 => ("FreckleChart", "living", "LFreckleChart$Living;", true)
  | 7 => ("FreckleChart", "latestLived", "[I", true)
  | 8 => ("FreckleChart", "coast", "LFreckleChart$Coast;", true)
  | 9 => ("FreckleChart", "draftCoast", "LFreckleChart$Coast;", true)
  | 10 => ("FreckleChart", "kept", "[LFreckleChart$Coast;", true)
  | 11 => ("FreckleChart", "marks", "I", false)
  | 12 => ("FreckleChart", "taped", "I", false)
  | 13 => ("FreckleChart", "latestStatus", "I", false)
  | 14 => ("FreckleChart", "latestFault", "I", false)
  | 15 => ("FreckleChart", "latestFaultPlace", "I", false)
  | _ => ("FreckleChart", "hasLived", "Z", false)
def cR10 : String := "FreckleChartModel"
def cT10 : u_T := fun k => match k with
  | 0 => ("FreckleChartModel", "status", "I", false)
  | 1 => ("FreckleChartModel", "thrown", "I", false)
  | 2 => ("FreckleChartModel", "above", "J", false)
  | 3 => ("FreckleChartModel", "under", "J", false)
  | 4 => ("FreckleChartModel", "traySort", "[I", true)
  | 5 => ("FreckleChartModel", "trayMany", "[I", true)
  | 6 => ("FreckleChartModel", "numbers", "[J", true)
  | 7 => ("FreckleChartModel", "tape", "[B", true)
  | 8 => ("FreckleChartModel", "taped", "I", false)
  | 9 => ("FreckleChartModel", "textEnd", "I", false)
  | 10 => ("FreckleChartModel", "faultKind", "I", false)
  | 11 => ("FreckleChartModel", "faultAt", "I", false)
  | 12 => ("FreckleChartModel", "bad", "I", false)
  | 13 => ("FreckleChartModel", "badAt", "I", false)
  | 14 => ("FreckleChartModel", "token", "I", false)
  | 15 => ("FreckleChartModel", "at", "I", false)
  | 16 => ("FreckleChartModel", "behind", "I", false)
  | 17 => ("FreckleChartModel", "number", "I", false)
  | 18 => ("FreckleChartModel", "letters", "I", false)
  | 19 => ("FreckleChartModel", "word", "J", false)
  | 20 => ("FreckleChartModel", "c", "[I", true)
  | 21 => ("FreckleChartModel", "before", "[I", true)
  | 22 => ("FreckleChartModel", "words", "[J", true)
  | 23 => ("FreckleChartModel", "markMany", "I", false)
  | 24 => ("FreckleChartModel", "toldCoast", "Z", false)
  | 25 => ("FreckleChartModel", "toldOdds", "Z", false)
  | 26 => ("FreckleChartModel", "newSteps", "I", false)
  | 27 => ("FreckleChartModel", "fars", "[I", true)
  | 28 => ("FreckleChartModel", "fitMany", "I", false)
  | 29 => ("FreckleChartModel", "firstMove", "I", false)
  | 30 => ("FreckleChartModel", "chances", "[J", true)
  | 31 => ("FreckleChartModel", "livedLast", "[I", true)
  | 32 => ("FreckleChartModel", "hasLived", "Z", false)
  | 33 => ("FreckleChartModel", "isOver", "Z", false)
  | 34 => ("FreckleChartModel", "random", "I", false)
  | 35 => ("FreckleChartModel", "done", "I", false)
  | 36 => ("FreckleChartModel", "missed", "I", false)
  | 37 => ("FreckleChartModel", "struckAhead", "I", false)
  | 38 => ("FreckleChartModel", "cameAhead", "I", false)
  | 39 => ("FreckleChartModel", "darker", "I", false)
  | _ => ("FreckleChartModel", "leftOver", "I", false)
abbrev xcl : List vw_C := [(cR0, cT0, 19), (cR1, cT1, 3), (cR2, cT2, 3), (cR3, cT3, 9), (cR4, cT4, 6), (cR5, cT5, 10), (cR6, cT6, 3), (cR7, cT7, 9), (cR8, cT8, 3), (cR9, cT9, 17), (cR10, cT10, 41)]
def xtyl : List (List FieldType) := [[.int, .int, .int, .int, .array (.int), .array (.int), .array (.int), .int, .array (.long), .array (.int), .array (.int), .array (.int), .array (.int), .array (.int), .array (.int), .int, .int, .int, .object "FreckleChart$Years"],
  [.object "FreckleChart$Reader", .boolean, .boolean],
  [.long, .long, .array (.long)],
  [.object "FreckleChart$Pilot", .array (.int), .int, .int, .int, .int, .int, .int, .boolean],
  [.array (.int), .int, .array (.int), .int, .int, .int],
  [.array (.byte), .int, .int, .int, .int, .long, .int, .int, .int, .int],
  [.array (.array (.long)), .array (.int), .array (.int)],
  [.boolean, .int, .int, .array (.int), .array (.int), .array (.int), .array (.int), .array (.int), .array (.int)],
  [.object "FreckleChart$Reader", .array (.int), .int],
  [.object "FreckleChart$Fraction", .object "FreckleChart$Trays", .array (.byte), .object "FreckleChart$CoastText", .object "FreckleChart$YearsText", .object "FreckleChart$Pilot", .object "FreckleChart$Living", .array (.int), .object "FreckleChart$Coast", .object "FreckleChart$Coast", .array (.object "FreckleChart$Coast"), .int, .int, .int, .int, .int, .boolean],
  [.int, .int, .long, .long, .array (.int), .array (.int), .array (.long), .array (.byte), .int, .int, .int, .int, .int, .int, .int, .int, .int, .int, .int, .long, .array (.int), .array (.int), .array (.long), .int, .boolean, .boolean, .int, .array (.int), .int, .int, .array (.long), .array (.int), .boolean, .boolean, .int, .int, .int, .int, .int, .int, .int]]
def xty (t k : Nat) : FieldType := (xtyl.getD t []).getD k .int
def xkdl : List (List Nat) := [[0, 0, 0, 0, 2, 2, 2, 0, 2, 2, 2, 2, 2, 2, 2, 0, 0, 0, 2],
  [2, 0, 0],
  [1, 1, 2],
  [2, 2, 0, 0, 0, 0, 0, 0, 0],
  [2, 0, 2, 0, 0, 0],
  [2, 0, 0, 0, 0, 1, 0, 0, 0, 0],
  [2, 2, 2],
  [0, 0, 0, 2, 2, 2, 2, 2, 2],
  [2, 2, 0],
  [2, 2, 2, 2, 2, 2, 2, 2, 2, 2, 2, 0, 0, 0, 0, 0, 0],
  [0, 0, 1, 1, 2, 2, 2, 2, 0, 0, 0, 0, 0, 0, 0, 0, 0, 0, 0, 1, 2, 2, 2, 0, 0, 0, 0, 2, 0, 0, 2, 2, 0, 0, 0, 0, 0, 0, 0, 0, 0]]
/-- a field: 0 an int of a kind, 1 a long, 2 a reference -/
def xkd (t k : Nat) : Nat := (xkdl.getD t []).getD k 9
def xlyl : List (List Nat) := [[476, 478, 480, 482, 484, 486, 488, 490, 492, 494, 496, 498, 500, 502, 504, 506, 508, 510, 512],
  [263, 265, 267],
  [178, 180, 182],
  [339, 341, 343, 345, 347, 349, 351, 353, 355],
  [303, 305, 307, 309, 311, 313],
  [237, 239, 241, 243, 245, 247, 249, 251, 253, 255],
  [198, 200, 202],
  [395, 397, 399, 401, 403, 405, 407, 409, 411],
  [282, 284, 286],
  [533, 535, 537, 539, 541, 543, 545, 547, 549, 551, 553, 555, 557, 559, 561, 563, 565],
  [1418, 1420, 1422, 1424, 1426, 1428, 1430, 1432, 1434, 1436, 1438, 1440, 1442, 1444, 1446, 1448, 1450, 1452, 1454, 1456, 1458, 1460, 1462, 1464, 1466, 1468, 1470, 1472, 1474, 1476, 1478, 1480, 1482, 1484, 1486, 1488, 1490, 1492, 1494, 1496, 1498]]
def nfl : List Nat := [19, 3, 3, 9, 6, 10, 3, 9, 3, 17, 41]
def nfc (t : Nat) : Nat := nfl.getD t 0
/-- what an array of a kind holds -/
def xaty (t : Nat) : FieldType := match t with
  | 100 => .int
  | 101 => .long
  | 102 => .byte
  | 103 => .object "FreckleChart$Coast"
  | _ => .array .long
-- methods: name, code, locals, what it returns; the place of its code word
abbrev XM : Type := MethodName × ByteArray × Nat × Option FieldType
def mlkl : List Nat := [1, 1, 1, 1, 1, 1, 1, 1, 1, 1, 1, 2, 1, 1, 1, 1, 4, 5, 1, 2, 5, 6, 4, 3, 3, 4, 6, 6, 6, 3, 3, 2, 6, 3, 2, 2, 1, 1, 1, 2,
  5, 1, 1, 2, 1, 2, 2, 3, 2, 2, 1, 2, 2, 2, 3, 1, 2, 1, 2, 3, 3, 4, 4, 2, 7, 4, 6, 2, 2, 6, 7, 3, 2, 3, 2, 5, 2, 3, 1, 2,
  2, 2, 2, 2, 3, 9, 3, 2, 3, 2, 1, 5, 4, 5, 5, 3, 5, 2, 2, 1, 3, 3, 3, 3, 2, 2, 2, 4, 3, 3, 2, 4, 3, 4, 3, 3, 3, 6, 6, 6,
  2, 1, 4, 2, 4, 6, 3, 6, 2, 4, 1, 3, 5, 4, 4, 2, 2, 2, 5, 6, 7, 5, 9, 6, 4, 6, 4, 2, 4, 2, 5, 1, 6, 9, 2, 5, 7, 5, 3, 10,
  10, 2, 6, 3, 7, 6, 7, 7, 7, 7, 11, 4, 3, 2, 6, 4, 6, 4, 5, 3, 2, 4, 5, 3, 2, 6, 3, 1, 2, 2, 4, 1, 1, 1, 5, 2, 5, 4, 2, 3,
  3, 9, 6, 3, 2, 2, 3, 2, 2, 1, 1, 2, 1, 1, 8, 3, 1, 3, 4, 3, 1, 6, 2, 1, 4, 1, 1, 1, 4, 5, 1, 5, 1, 6, 1, 1, 1, 1, 1, 1,
  1, 1, 1, 1, 1, 3, 6, 2, 5, 7, 2, 2, 1, 4, 3, 5, 3, 3, 2, 1, 2, 2, 3, 3, 3, 2, 3, 2, 3, 2, 4, 2, 4, 3, 2, 3, 3, 2, 4, 3,
  3, 3, 3, 3, 3, 4, 5, 2, 6, 6, 4, 2, 1, 6, 8, 4, 4, 3, 1, 4, 4, 3, 2, 2, 5, 7, 6, 5, 6, 5, 5, 5, 4, 2, 3, 3, 2, 5, 2, 5,
  6, 3, 5, 9, 4, 4, 7, 9, 2, 10, 3, 2, 6, 9, 11, 2, 3, 2, 2, 2, 4, 5, 4, 3, 2, 2, 5, 2, 7, 1, 1, 4]
def mlk (k : Nat) : Nat := mlkl.getD k 0
def mck (k : Nat) : Nat := match k with
  | 0 => 64
  | 2 => 1
  | 3 => 7
  | 4 => 2
  | 5 => 1
  | 6 => 3
  | 7 => 2
  | 8 => 4
  | 9 => 17
  | 10 => 6
  | 187 => 18
  | 189 => 10
  | 351 => 600000
  | _ => 0
def msk (k : Nat) : Nat := match k with
  | 0 => 4156
  | 2 => 16
  | 3 => 252
  | 4 => 910
  | 5 => 900
  | 6 => 913
  | 7 => 61
  | 8 => 127
  | 9 => 452
  | 10 => 360
  | 187 => 471
  | 189 => 3027
  | 351 => 7302250
  | _ => 0
def xicl : List Nat := [163, 166, 171, 190, 210, 216, 274, 293, 320, 362, 368, 417, 421, 571, 575, 579, 583, 587, 590, 594, 598, 602, 606, 610, 613, 617, 623, 627, 634, 638,
  642, 646, 650, 654, 657, 660, 665, 669, 673, 677, 683, 687, 691, 697, 701, 704, 707, 712, 715, 718, 721, 725, 735, 739, 744, 748, 754, 759, 764, 769,
  773, 778, 783, 787, 791, 796, 800, 806, 811, 815, 819, 823, 827, 833, 838, 843, 847, 851, 855, 863, 867, 870, 876, 881, 885, 889, 897, 902, 906, 910,
  915, 930, 935, 941, 947, 953, 958, 964, 968, 972, 976, 979, 983, 989, 995, 999, 1003, 1007, 1012, 1016, 1020, 1024, 1029, 1034, 1040, 1044, 1048, 1053, 1057, 1061,
  1065, 1069, 1073, 1078, 1082, 1086, 1091, 1095, 1099, 1103, 1106, 1111, 1115, 1120, 1124, 1131, 1135, 1140, 1144, 1148, 1152, 1157, 1161, 1166, 1172, 1176, 1180, 1185, 1189, 1193,
  1197, 1202, 1206, 1210, 1213, 1217, 1221, 1225, 1230, 1235, 1239, 1246, 1249, 1253, 1256, 1261, 1265, 1269, 1273, 1278, 1281, 1285, 1289, 1294, 1298, 1304, 1308, 1312, 1321, 1329,
  1333, 1339, 1342, 1346, 1350, 1354, 1358, 1362, 1366, 1371, 1376, 1504, 1508, 1512, 1516, 1520, 1524, 1528, 1532, 1535, 1539, 1544, 1548, 1552, 1556, 1560, 1564, 1568, 1572, 1575,
  1580, 1584, 1588, 1592, 1595, 1599, 1603, 1607, 1611, 1615, 1619, 1622, 1626, 1630, 1634, 1638, 1642, 1646, 1650, 1654, 1658, 1662, 1666, 1670, 1674, 1678, 1682, 1686, 1690, 1694,
  1698, 1702, 1706, 1710, 1714, 1718, 1722, 1726, 1730, 1734, 1737, 1741, 1745, 1749, 1753, 1757, 1761, 1765, 1769, 1774, 1778, 1783, 1787, 1791, 1795, 1799, 1803, 1807, 1811, 1815,
  1820, 1824, 1828, 1832, 1836, 1842, 1847, 1852, 1856, 1860, 1864, 1868, 1871, 1875, 1879, 1883, 1887, 1891, 1896, 1900, 1904, 1908, 1912, 1917, 1921, 1925, 1929, 1933, 1936, 1940,
  1944, 1948, 1952, 1956, 1960, 1964, 1968, 1972, 1976, 1980, 1984, 1988, 1992, 1996, 2000, 2004, 2008, 2012, 2016, 2020, 2024, 2030, 2034, 2038, 2042, 2045, 2049, 2053, 2057, 2062,
  2066, 2070, 2074, 2079, 2083, 2086, 2090, 2094, 2098, 2103, 2107, 2111, 2115, 2119, 2123, 2127, 2132, 2136, 2140, 2144, 2148]
/-- hints: the places of a method's words, how many arguments, its kind (0 virtual, 1 static, 2 a constructor) -/
def xhl : List (Nat × Nat × Nat × Nat × Nat × Nat) := [(163, 141, 162, 0, 0, 2), (166, 0, 165, 0, 0, 2), (171, 142, 170, 0, 0, 2), (190, 143, 189, 0, 0, 2), (210, 144, 209, 0, 0, 2), (216, 145, 215, 0, 0, 2),
  (274, 146, 273, 0, 0, 2), (293, 147, 292, 0, 0, 2), (320, 148, 319, 0, 0, 2), (362, 149, 361, 0, 0, 2), (368, 150, 367, 0, 0, 2), (417, 149, 415, 416, 0, 0),
  (421, 150, 419, 420, 0, 0), (571, 141, 569, 570, 0, 0), (575, 141, 573, 574, 0, 0), (579, 141, 577, 578, 0, 0), (583, 141, 581, 582, 3, 0), (587, 143, 585, 586, 3, 0),
  (590, 143, 589, 0, 1, 1), (594, 141, 593, 0, 1, 0), (598, 141, 596, 597, 3, 0), (602, 143, 600, 601, 3, 0), (606, 143, 604, 605, 2, 0), (610, 143, 608, 609, 2, 0),
  (613, 143, 612, 0, 2, 1), (617, 141, 615, 616, 2, 0), (623, 141, 621, 622, 5, 0), (627, 143, 625, 626, 5, 0), (634, 141, 632, 633, 5, 0), (638, 141, 637, 1, 1, 0),
  (642, 141, 640, 641, 1, 0), (646, 141, 645, 2, 1, 0), (650, 144, 648, 649, 3, 0), (654, 145, 652, 653, 2, 0), (657, 153, 656, 0, 2, 1), (660, 153, 659, 0, 2, 1),
  (665, 145, 663, 664, 0, 0), (669, 145, 668, 3, 0, 0), (673, 145, 672, 4, 0, 0), (677, 145, 676, 5, 0, 0), (683, 145, 681, 682, 1, 0), (687, 154, 685, 686, 0, 0),
  (691, 154, 689, 690, 0, 0), (697, 154, 695, 696, 1, 0), (701, 154, 699, 700, 0, 0), (704, 155, 703, 0, 2, 1), (707, 154, 706, 0, 2, 1), (712, 156, 711, 0, 3, 1),
  (715, 157, 714, 0, 2, 1), (718, 157, 717, 0, 2, 1), (721, 157, 720, 0, 1, 1), (725, 157, 724, 0, 2, 1), (735, 144, 734, 6, 1, 0), (739, 145, 737, 738, 1, 0),
  (744, 145, 742, 743, 2, 0), (748, 145, 746, 747, 0, 0), (754, 145, 752, 753, 1, 0), (759, 145, 757, 758, 0, 0), (764, 144, 763, 7, 1, 0), (769, 144, 768, 8, 1, 0),
  (773, 149, 771, 772, 1, 0), (778, 149, 776, 777, 2, 0), (783, 144, 782, 9, 1, 0), (787, 145, 785, 786, 0, 0), (791, 145, 790, 0, 2, 1), (796, 149, 794, 795, 1, 0),
  (800, 144, 799, 10, 2, 0), (806, 149, 804, 805, 1, 0), (811, 149, 809, 810, 1, 0), (815, 149, 813, 814, 4, 0), (819, 149, 818, 11, 3, 0), (823, 144, 822, 12, 2, 0),
  (827, 149, 825, 826, 1, 0), (833, 149, 831, 832, 2, 0), (838, 149, 836, 837, 1, 0), (843, 144, 842, 13, 2, 0), (847, 149, 845, 846, 1, 0), (851, 149, 849, 850, 2, 0),
  (855, 158, 854, 0, 1, 1), (863, 141, 862, 14, 1, 0), (867, 149, 865, 866, 1, 0), (870, 149, 869, 0, 2, 1), (876, 150, 874, 875, 1, 0), (881, 141, 880, 15, 1, 0),
  (885, 141, 883, 884, 1, 0), (889, 146, 887, 888, 4, 0), (897, 146, 896, 16, 1, 0), (902, 150, 900, 901, 1, 0), (906, 150, 904, 905, 2, 0), (910, 150, 908, 909, 1, 0),
  (915, 146, 914, 17, 0, 0), (930, 146, 929, 18, 2, 0), (935, 146, 934, 19, 3, 0), (941, 146, 940, 20, 3, 0), (947, 146, 946, 21, 4, 0), (953, 146, 952, 22, 2, 0),
  (958, 146, 957, 23, 3, 0), (964, 141, 962, 963, 1, 0), (968, 141, 966, 967, 1, 0), (972, 149, 970, 971, 0, 0), (976, 141, 974, 975, 2, 0), (979, 141, 978, 0, 3, 1),
  (983, 141, 981, 982, 1, 0), (989, 141, 987, 988, 2, 0), (995, 141, 993, 994, 1, 0), (999, 149, 997, 998, 1, 0), (1003, 149, 1001, 1002, 1, 0), (1007, 141, 1005, 1006, 1, 0),
  (1012, 141, 1010, 1011, 2, 0), (1016, 149, 1014, 1015, 2, 0), (1020, 141, 1018, 1019, 1, 0), (1024, 149, 1022, 1023, 1, 0), (1029, 141, 1027, 1028, 2, 0), (1034, 141, 1032, 1033, 2, 0),
  (1040, 141, 1038, 1039, 1, 0), (1044, 149, 1042, 1043, 1, 0), (1048, 141, 1046, 1047, 2, 0), (1053, 141, 1051, 1052, 4, 0), (1057, 141, 1056, 24, 4, 0), (1061, 141, 1060, 25, 4, 0),
  (1065, 149, 1063, 1064, 1, 0), (1069, 149, 1067, 1068, 0, 0), (1073, 149, 1071, 1072, 1, 0), (1078, 149, 1076, 1077, 1, 0), (1082, 149, 1080, 1081, 1, 0), (1086, 147, 1084, 1085, 4, 0),
  (1091, 147, 1090, 26, 1, 0), (1095, 147, 1094, 27, 3, 0), (1099, 147, 1098, 28, 1, 0), (1103, 147, 1102, 29, 2, 0), (1106, 147, 1105, 0, 1, 1), (1111, 147, 1109, 1110, 2, 0),
  (1115, 147, 1113, 1114, 2, 0), (1120, 141, 1118, 1119, 3, 0), (1124, 149, 1122, 1123, 3, 0), (1131, 141, 1129, 1130, 1, 0), (1135, 141, 1133, 1134, 1, 0), (1140, 141, 1138, 1139, 1, 0),
  (1144, 141, 1142, 1143, 3, 0), (1148, 141, 1146, 1147, 4, 0), (1152, 141, 1150, 1151, 4, 0), (1157, 141, 1155, 1156, 3, 0), (1161, 141, 1160, 30, 3, 0), (1166, 147, 1164, 1165, 5, 0),
  (1172, 141, 1170, 1171, 3, 0), (1176, 141, 1174, 1175, 3, 0), (1180, 141, 1178, 1179, 1, 0), (1185, 141, 1183, 1184, 1, 0), (1189, 141, 1187, 1188, 2, 0), (1193, 141, 1191, 1192, 0, 0),
  (1197, 141, 1196, 31, 0, 0), (1202, 141, 1200, 1201, 0, 0), (1206, 141, 1204, 1205, 4, 0), (1210, 141, 1209, 32, 4, 0), (1213, 141, 1212, 0, 2, 1), (1217, 143, 1215, 1216, 2, 0),
  (1221, 149, 1219, 1220, 3, 0), (1225, 149, 1223, 1224, 2, 0), (1230, 149, 1228, 1229, 2, 0), (1235, 141, 1233, 1234, 5, 0), (1239, 141, 1237, 1238, 2, 0), (1246, 141, 1244, 1245, 1, 0),
  (1249, 141, 1248, 0, 3, 1), (1253, 149, 1251, 1252, 0, 0), (1256, 141, 1255, 0, 4, 1), (1261, 141, 1259, 1260, 1, 0), (1265, 141, 1263, 1264, 3, 0), (1269, 142, 1267, 1268, 3, 0),
  (1273, 142, 1272, 33, 2, 0), (1278, 142, 1276, 1277, 2, 0), (1281, 142, 1280, 0, 2, 1), (1285, 141, 1283, 1284, 2, 0), (1289, 141, 1287, 1288, 1, 0), (1294, 141, 1292, 1293, 1, 0),
  (1298, 148, 1296, 1297, 2, 0), (1304, 148, 1303, 34, 2, 0), (1308, 148, 1307, 35, 2, 0), (1312, 148, 1311, 36, 3, 0), (1321, 148, 1320, 37, 2, 0), (1329, 148, 1328, 38, 1, 0),
  (1333, 148, 1332, 39, 1, 0), (1339, 148, 1338, 40, 2, 0), (1342, 148, 1341, 0, 2, 1), (1346, 148, 1345, 0, 3, 1), (1350, 141, 1348, 1349, 1, 0), (1354, 141, 1352, 1353, 2, 0),
  (1358, 149, 1356, 1357, 0, 0), (1362, 141, 1360, 1361, 0, 0), (1366, 141, 1364, 1365, 0, 0), (1371, 151, 1370, 0, 0, 2), (1376, 151, 1375, 41, 1, 0), (1504, 151, 1502, 1503, 0, 0),
  (1508, 151, 1506, 1507, 0, 0), (1512, 151, 1510, 1511, 0, 0), (1516, 151, 1514, 1515, 3, 0), (1520, 151, 1519, 42, 1, 0), (1524, 151, 1522, 1523, 3, 0), (1528, 151, 1527, 43, 2, 0),
  (1532, 151, 1531, 44, 1, 0), (1535, 151, 1534, 0, 2, 1), (1539, 151, 1537, 1538, 2, 0), (1544, 151, 1542, 1543, 5, 0), (1548, 151, 1546, 1547, 5, 0), (1552, 151, 1551, 45, 1, 0),
  (1556, 151, 1554, 1555, 1, 0), (1560, 151, 1558, 1559, 1, 0), (1564, 151, 1563, 46, 2, 0), (1568, 151, 1567, 47, 0, 0), (1572, 151, 1571, 48, 1, 0), (1575, 151, 1574, 0, 1, 1),
  (1580, 151, 1579, 0, 1, 1), (1584, 151, 1583, 49, 1, 0), (1588, 151, 1587, 50, 0, 0), (1592, 151, 1591, 51, 0, 0), (1595, 151, 1594, 0, 6, 1), (1599, 151, 1598, 52, 1, 0),
  (1603, 151, 1602, 53, 0, 0), (1607, 151, 1606, 54, 2, 0), (1611, 151, 1610, 55, 2, 0), (1615, 151, 1614, 56, 2, 0), (1619, 151, 1618, 57, 0, 0), (1622, 151, 1621, 0, 3, 1),
  (1626, 151, 1625, 58, 1, 0), (1630, 151, 1629, 59, 0, 0), (1634, 151, 1633, 60, 3, 0), (1638, 151, 1637, 61, 0, 0), (1642, 151, 1641, 62, 0, 0), (1646, 151, 1645, 63, 0, 0),
  (1650, 151, 1649, 64, 0, 0), (1654, 151, 1653, 65, 2, 0), (1658, 151, 1657, 66, 0, 0), (1662, 151, 1661, 67, 3, 0), (1666, 151, 1665, 68, 0, 0), (1670, 151, 1669, 69, 0, 0),
  (1674, 151, 1673, 70, 0, 0), (1678, 151, 1677, 71, 0, 0), (1682, 151, 1681, 72, 0, 0), (1686, 151, 1685, 73, 0, 0), (1690, 151, 1689, 74, 0, 0), (1694, 151, 1693, 75, 0, 0),
  (1698, 151, 1697, 76, 0, 0), (1702, 151, 1701, 77, 0, 0), (1706, 151, 1705, 78, 0, 0), (1710, 151, 1709, 79, 0, 0), (1714, 151, 1713, 80, 0, 0), (1718, 151, 1717, 81, 1, 0),
  (1722, 151, 1721, 82, 4, 0), (1726, 151, 1725, 83, 1, 0), (1730, 151, 1729, 84, 1, 0), (1734, 151, 1733, 85, 3, 0), (1737, 151, 1736, 0, 2, 1), (1741, 151, 1740, 86, 1, 0),
  (1745, 151, 1744, 87, 0, 0), (1749, 151, 1748, 88, 2, 0), (1753, 151, 1751, 1752, 1, 0), (1757, 151, 1756, 89, 1, 0), (1761, 151, 1760, 90, 1, 0), (1765, 151, 1764, 91, 1, 0),
  (1769, 151, 1768, 92, 0, 0), (1774, 151, 1773, 93, 0, 0), (1778, 151, 1776, 1777, 1, 0), (1783, 151, 1782, 94, 1, 0), (1787, 151, 1786, 95, 0, 0), (1791, 151, 1790, 96, 0, 0),
  (1795, 151, 1793, 1794, 2, 0), (1799, 151, 1798, 97, 1, 0), (1803, 151, 1801, 1802, 1, 0), (1807, 151, 1806, 98, 1, 0), (1811, 151, 1809, 1810, 2, 0), (1815, 151, 1814, 99, 1, 0),
  (1820, 151, 1819, 100, 1, 0), (1824, 151, 1822, 1823, 1, 0), (1828, 151, 1827, 101, 1, 0), (1832, 151, 1830, 1831, 1, 0), (1836, 151, 1835, 102, 1, 0), (1842, 151, 1840, 1841, 2, 0),
  (1847, 151, 1846, 103, 2, 0), (1852, 151, 1850, 1851, 1, 0), (1856, 151, 1855, 104, 1, 0), (1860, 151, 1858, 1859, 2, 0), (1864, 151, 1863, 105, 2, 0), (1868, 151, 1866, 1867, 2, 0),
  (1871, 151, 1870, 0, 1, 1), (1875, 151, 1874, 106, 2, 0), (1879, 151, 1877, 1878, 1, 0), (1883, 151, 1881, 1882, 2, 0), (1887, 151, 1885, 1886, 3, 0), (1891, 151, 1889, 1890, 1, 0),
  (1896, 151, 1894, 1895, 4, 0), (1900, 151, 1899, 107, 4, 0), (1904, 151, 1903, 108, 3, 0), (1908, 151, 1907, 109, 1, 0), (1912, 151, 1911, 110, 0, 0), (1917, 151, 1916, 111, 4, 0),
  (1921, 151, 1920, 112, 3, 0), (1925, 151, 1924, 113, 1, 0), (1929, 151, 1928, 114, 1, 0), (1933, 151, 1932, 115, 2, 0), (1936, 153, 1935, 0, 1, 1), (1940, 151, 1939, 116, 2, 0),
  (1944, 151, 1943, 117, 2, 0), (1948, 151, 1947, 118, 1, 0), (1952, 151, 1950, 1951, 1, 0), (1956, 151, 1954, 1955, 1, 0), (1960, 151, 1958, 1959, 3, 0), (1964, 151, 1962, 1963, 4, 0),
  (1968, 151, 1966, 1967, 4, 0), (1972, 151, 1970, 1971, 3, 0), (1976, 151, 1975, 119, 3, 0), (1980, 151, 1979, 120, 4, 0), (1984, 151, 1982, 1983, 3, 0), (1988, 151, 1986, 1987, 3, 0),
  (1992, 151, 1990, 1991, 1, 0), (1996, 151, 1994, 1995, 1, 0), (2000, 151, 1998, 1999, 2, 0), (2004, 151, 2003, 121, 2, 0), (2008, 151, 2006, 2007, 0, 0), (2012, 151, 2011, 122, 0, 0),
  (2016, 151, 2014, 2015, 0, 0), (2020, 151, 2018, 2019, 4, 0), (2024, 151, 2023, 123, 4, 0), (2030, 151, 2029, 124, 2, 0), (2034, 151, 2033, 125, 2, 0), (2038, 151, 2037, 126, 4, 0),
  (2042, 151, 2041, 127, 3, 0), (2045, 151, 2044, 0, 4, 1), (2049, 151, 2047, 2048, 5, 0), (2053, 151, 2051, 2052, 2, 0), (2057, 151, 2055, 2056, 1, 0), (2062, 151, 2061, 128, 2, 0),
  (2066, 151, 2065, 129, 0, 0), (2070, 151, 2068, 2069, 1, 0), (2074, 151, 2072, 2073, 3, 0), (2079, 151, 2078, 130, 3, 0), (2083, 151, 2082, 131, 2, 0), (2086, 153, 2085, 0, 1, 1),
  (2090, 151, 2088, 2089, 2, 0), (2094, 151, 2092, 2093, 1, 0), (2098, 151, 2096, 2097, 1, 0), (2103, 151, 2102, 132, 1, 0), (2107, 151, 2106, 133, 2, 0), (2111, 151, 2110, 134, 1, 0),
  (2115, 151, 2114, 135, 1, 0), (2119, 151, 2118, 136, 2, 0), (2123, 151, 2122, 137, 0, 0), (2127, 151, 2126, 138, 1, 0), (2132, 151, 2131, 139, 1, 0), (2136, 151, 2134, 2135, 1, 0),
  (2140, 151, 2138, 2139, 2, 0), (2144, 151, 2142, 2143, 0, 0), (2148, 151, 2146, 2147, 0, 0)]
def xh (k : Nat) : Nat × Nat × Nat × Nat × Nat × Nat := xhl.getD k (0, 0, 0, 0, 0, 0)
def xkhl : List (Nat × Nat) := [(359, 149), (207, 144), (168, 142), (317, 148), (290, 147), (213, 145), (187, 143), (365, 150),
  (271, 146), (160, 141), (1368, 151)]
def xnl : List (String × Nat × MethodName) := [("FreckleChart", 11, ⟨"FreckleChart$Fraction", "<init>", "()V"⟩),
  ("FreckleChart", 18, ⟨"FreckleChart$Trays", "<init>", "()V"⟩),
  ("FreckleChart", 29, ⟨"FreckleChart$CoastText", "<init>", "()V"⟩),
  ("FreckleChart$CoastText", 11, ⟨"FreckleChart$Reader", "<init>", "()V"⟩),
  ("FreckleChart", 36, ⟨"FreckleChart$YearsText", "<init>", "()V"⟩),
  ("FreckleChart$YearsText", 11, ⟨"FreckleChart$Reader", "<init>", "()V"⟩),
  ("FreckleChart", 43, ⟨"FreckleChart$Pilot", "<init>", "()V"⟩),
  ("FreckleChart", 50, ⟨"FreckleChart$Living", "<init>", "()V"⟩),
  ("FreckleChart$Living", 11, ⟨"FreckleChart$Pilot", "<init>", "()V"⟩),
  ("FreckleChart$Coast", 45, ⟨"FreckleChart$Years", "<init>", "()V"⟩)]
def xah : List Nat := [205, 185, 258]
def xch : List Nat := [630, 629, 152, 165, 166, 515, 193]
/-- a method, out of its code word -/
def xm (k : Nat) : XM := match xlk (xh k).1 with
  | some (.code y b ml rt) => (y, b, ml, rt)
  | _ => (⟨"", "", ""⟩, code, 0, none)
def xmok (k : Nat) : Bool := match xlk (xh k).1 with
  | some (.code _ _ _ _) => goodWord (.code (xm k).1 (xm k).2.1 (xm k).2.2.1 (xm k).2.2.2)
  | _ => false
theorem xm_in {k : Nat} (h : xmok k = true) : Cond.code (xm k).1 (xm k).2.1 (xm k).2.2.1 (xm k).2.2.2 ∈ xW := by
  unfold xmok at h
  split at h
  · rename_i y b ml rt hx
    refine List.mem_filter.mpr ⟨xlk_in (h := (xh k).1) ?_, h⟩
    rw [hx]
    unfold xm
    rw [hx]
  · cases h
-- switches: (number, where to) and else
def xswl : List (List (Int32 × Nat) × Nat) := [([(0, 28), (1, 33), (2, 38)], 42),
  ([(1, 88), (2, 119), (3, 132), (4, 132), (5, 140), (6, 132), (7, 171), (8, 245), (9, 245), (10, 232)], 245),
  ([(0, 52), (1, 64), (2, 76), (3, 88), (4, 100), (5, 112), (6, 124), (7, 136), (8, 148)], 160),
  ([(0, 60), (1, 74), (2, 88), (3, 102), (4, 116), (5, 137), (6, 151)], 165),
  ([(1, 72), (2, 82), (3, 97), (4, 105), (5, 113), (6, 130), (7, 145), (8, 152)], 158),
  ([(9, 48), (10, 53), (11, 92), (12, 69), (13, 69), (14, 69)], 92),
  ([(12, 64), (13, 83)], 101),
  ([(0, 256), (1, 269), (2, 283), (3, 297), (4, 340), (5, 413), (6, 447), (7, 510), (8, 573), (9, 596), (10, 619), (11, 642), (12, 665), (13, 698), (14, 721), (15, 754), (16, 777), (17, 800), (18, 833), (19, 856), (20, 905), (21, 938), (22, 961), (23, 994), (24, 1047), (25, 1090), (26, 1113), (27, 1136), (28, 1159), (29, 1202), (30, 1255), (31, 1308), (32, 1351), (33, 1394), (34, 1437), (35, 1460), (36, 1483), (37, 1516), (38, 1529), (39, 1542), (40, 1595), (41, 1658), (42, 1691), (43, 1714), (44, 1737), (45, 1780), (46, 1813), (47, 1836), (48, 1859), (49, 1882), (50, 1915), (51, 1928)], 1941)]
def xswt (b : Nat) : List (Int32 × Nat) × Nat := xswl.getD b ([], 0)
-- string constants
def xstl : List (String × Nat × String) := [("FreckleChart$CoastText", 38, "coast"),
  ("FreckleChart$CoastText", 90, "by"),
  ("FreckleChart$CoastText", 48, "odds"),
  ("FreckleChart$CoastText", 53, "rock"),
  ("FreckleChart$CoastText", 107, "deep"),
  ("FreckleChart$CoastText", 58, "cousin"),
  ("FreckleChart$Reader", 80, "coast by odds rock deep cousin at wide high tan veiled inked "),
  ("FreckleChart$Reader", 86, "sun rain veil bare ink wash sail any when shows loop end stop "),
  ("FreckleChart$CoastText", 132, "at"),
  ("FreckleChart$CoastText", 134, "wide"),
  ("FreckleChart$CoastText", 138, "high"),
  ("FreckleChart$CoastText", 149, "tan"),
  ("FreckleChart$CoastText", 155, "veiled"),
  ("FreckleChart$CoastText", 161, "inked"),
  ("FreckleChart$YearsText", 42, "end"),
  ("FreckleChart$YearsText", 92, "sun"),
  ("FreckleChart$YearsText", 94, "rain"),
  ("FreckleChart$YearsText", 96, "veil"),
  ("FreckleChart$YearsText", 98, "bare"),
  ("FreckleChart$YearsText", 100, "ink"),
  ("FreckleChart$YearsText", 102, "wash"),
  ("FreckleChart$YearsText", 104, "sail"),
  ("FreckleChart$YearsText", 106, "any"),
  ("FreckleChart$YearsText", 108, "when"),
  ("FreckleChart$YearsText", 110, "loop"),
  ("FreckleChart$YearsText", 112, "stop"),
  ("FreckleChart$YearsText", 144, "shows"),
  ("FreckleChart$YearsText", 146, "tan"),
  ("FreckleChart$YearsText", 152, "veiled")]
def xstb : List (List Nat) := [[99, 111, 97, 115, 116],
  [98, 121],
  [111, 100, 100, 115],
  [114, 111, 99, 107],
  [100, 101, 101, 112],
  [99, 111, 117, 115, 105, 110],
  [99, 111, 97, 115, 116, 32, 98, 121, 32, 111, 100, 100, 115, 32, 114, 111, 99, 107, 32, 100, 101, 101, 112, 32, 99, 111, 117, 115, 105, 110, 32, 97, 116, 32, 119, 105, 100, 101, 32, 104, 105, 103, 104, 32, 116, 97, 110, 32, 118, 101, 105, 108, 101, 100, 32, 105, 110, 107, 101, 100, 32],
  [115, 117, 110, 32, 114, 97, 105, 110, 32, 118, 101, 105, 108, 32, 98, 97, 114, 101, 32, 105, 110, 107, 32, 119, 97, 115, 104, 32, 115, 97, 105, 108, 32, 97, 110, 121, 32, 119, 104, 101, 110, 32, 115, 104, 111, 119, 115, 32, 108, 111, 111, 112, 32, 101, 110, 100, 32, 115, 116, 111, 112, 32],
  [97, 116],
  [119, 105, 100, 101],
  [104, 105, 103, 104],
  [116, 97, 110],
  [118, 101, 105, 108, 101, 100],
  [105, 110, 107, 101, 100],
  [101, 110, 100],
  [115, 117, 110],
  [114, 97, 105, 110],
  [118, 101, 105, 108],
  [98, 97, 114, 101],
  [105, 110, 107],
  [119, 97, 115, 104],
  [115, 97, 105, 108],
  [97, 110, 121],
  [119, 104, 101, 110],
  [108, 111, 111, 112],
  [115, 116, 111, 112],
  [115, 104, 111, 119, 115],
  [116, 97, 110],
  [118, 101, 105, 108, 101, 100]]
def strLen (i : Nat) : Nat := (xstb.getD i []).length
def strAt (i j : Nat) : Int32 := nI ((xstb.getD i []).getD j 0)
def va_AOA (ty : FieldType) (U : State) : Prop := (Cond.arrayOver (.array ty)).before #[] U = true
theorem va_AOA.use {ty : FieldType} {A : Array Value} {U : State} (h : va_AOA ty U) : (Cond.arrayOver (.array ty)).before A U = true := h
theorem va_AOA.spec {ty : FieldType} {U : State} (h : va_AOA ty U) : ∃ comp c k, U.vm.findClass (FieldType.array ty).toString = some comp ∧ (U.vm.classes.findIdx? fun (x : Class) => match x.kind with | .array component _ => component == comp | _ => false) = some c ∧ U.vm.classes[c]? = some k ∧ k.kind = .array comp (.array ty) ∧ U.vm.findClass ("[" ++ (FieldType.array ty).toString) = some c := by
  unfold va_AOA Cond.before at h
  simp only [Cond.holds, Cond.value, beq_iff_eq] at h
  cases hc : U.vm.findClass (FieldType.array ty).toString with
  | none => simp [hc] at h
  | some comp =>
    simp only [hc, Option.bind_some, Option.bind_eq_some_iff, Option.map_eq_some_iff] at h
    obtain ⟨c, hi, k, hk, hb⟩ := h
    obtain ⟨hlt, hp, -⟩ := Array.findIdx?_eq_some_iff_getElem.mp hi
    have hkk : U.vm.classes[c] = k := (Array.getElem?_eq_some_iff.mp hk).2
    rw [hkk] at hp
    cases hkind : k.kind with
    | array component ty =>
      rw [hkind] at hb hp
      simp at hb hp
      exact ⟨comp, c, k, rfl, hi, hk, by rw [hkind, hp, hb.1], hb.2⟩
    | _ => rw [hkind] at hb; simp at hb
theorem va_AOA.moved {ty : FieldType} {u U : State} (hvm : u.vm.Alike U.vm) (h : va_AOA ty u) : va_AOA ty U := by
  obtain ⟨comp, c, k, h1, h2, h3, h4, h5⟩ := h.spec
  obtain ⟨k', hk', he⟩ := hvm.2.2 _ _ h3
  have hi : (U.vm.classes.findIdx? fun (x : Class) => match x.kind with | .array component _ => component == comp | _ => false) = some c := by
    have e1 := va_idx_bare U.vm comp
    have e2 := va_idx_bare u.vm comp
    have e3 : U.vm.bare = u.vm.bare := by first | exact hvm.bare_eq | exact hvm.bare_eq.symm
    rw [e3] at e1
    exact e1.symm.trans (e2.trans h2)
  have hkind : k'.kind = .array comp (.array ty) := by rw [he]; exact h4
  have f1 : U.vm.findClass (FieldType.array ty).toString = some comp := by rw [hvm.findClass]; exact h1
  have f2 : U.vm.findClass ("[" ++ (FieldType.array ty).toString) = some c := by rw [hvm.findClass]; exact h5
  unfold va_AOA Cond.before Cond.holds
  simp only [Cond.value]
  rw [f1, Option.bind_some]
  refine (congrArg (fun o : Option Nat => (o.bind (fun c => (U.vm.classes[c]?).map fun (k : Class) => match k.kind with | .array _ ty' => decide (ty' = FieldType.array ty) && decide (U.vm.findClass ("[" ++ (FieldType.array ty).toString) = some c) | _ => false) == some true)) hi).trans ?_
  simp [hk', hkind, f2]

/-! ===== BEGIN new T[n][m]: the outer array a place, the inner ones among the pooled ===== -/
/-- f, but v at every address of l -/
def vr_up {α : Type} (f : Nat → α) (l : List Nat) (v : α) : Nat → α := fun a => if a ∈ l then v else f a
theorem vr_up_in {α : Type} {f : Nat → α} {l : List Nat} {v : α} {a : Nat} (h : a ∈ l) : vr_up f l v a = v := if_pos h
theorem vr_up_ne {α : Type} {f : Nat → α} {l : List Nat} {v : α} {a : Nat} (h : a ∉ l) : vr_up f l v a = f a := if_neg h
theorem vr_rows {L l : List Nat} {f : Nat → va_E} {e : va_E} (h : ∀ a, a ∈ l → a ∉ L) : va_pl L f ++ l.map (fun a => (a, e)) = va_pl (L ++ l) (vr_up f l e) := by
  unfold va_pl
  rw [List.map_append]
  congr 1
  · apply List.map_congr_left
    intro a ha
    rw [vr_up_ne (fun q => h a q ha)]
  · apply List.map_congr_left
    intro a ha
    rw [vr_up_in ha]
theorem vr_lay {X rows : va_W} {x : Nat × va_E} {pl : va_W} {D : va_G} {cl : List vw_C} {H : Heap} (hP : va_P D cl (((X ++ pl) ++ [x]) ++ rows) H) : va_P D cl ((X ++ [x]) ++ (pl ++ rows)) H := by
  rw [List.append_assoc (X ++ pl)] at hP
  have h := va_P.swap hP
  rw [← List.append_assoc X] at h
  have h2 := va_P.swap h
  rw [List.append_assoc (X ++ [x])] at h2
  exact h2
theorem vr_layD {X rows : va_W} {x : Nat × va_E} {pl : va_W} {A : Nat → Prop} (hD : va_D A (((X ++ pl) ++ [x]) ++ rows)) : va_D A ((X ++ [x]) ++ (pl ++ rows)) := by
  rw [List.append_assoc (X ++ pl)] at hD
  have h := va_D.swap hD
  rw [← List.append_assoc X] at h
  have h2 := va_D.swap h
  rw [List.append_assoc (X ++ [x])] at h2
  exact h2
theorem vr_outer (c : ClassId) (N h0 : Nat) : ∀ i : Nat, Jvm.Free.Multi.outerC c N h0 i = arrV c N (fun j => va_rf (if j < i then some (h0 + 1 + j) else none))
  | 0 => by
    show ({ cls := c, slots := Array.replicate N .null, vm := .none } : Cell) = _
    rw [arrV_new]
    refine congrArg (arrV c N) (funext fun j => ?_)
    simp [va_rf]
  | i + 1 => by
    show (Jvm.Free.Multi.outerC c N h0 i).setSlot i (.ref (h0 + 1 + i)) = _
    rw [vr_outer c N h0 i, arrV_store]
    refine congrArg (arrV c N) (funext fun j => ?_)
    by_cases e : j = i
    · subst e
      simp [updV, va_rf]
    · by_cases h : j < i
      · simp [updV, e, h, Nat.lt_succ_of_lt h]
      · simp [updV, e, h, show ¬ j < i + 1 by omega]
section VGM
variable {p : Program} {l : Launch} {e : Env} {R : Room} {s : State} {m : MethodId} {args : Array Value} {below : List Frame} {meth : Method} {c : Code} {H : Heap} {locs : List Loc} {cells slots : Nat} {Q : State → Prop}
variable {cc : ByteArray} {pc : Nat} {ls : Array Slot} {rest : List Value} {D : va_G} {cl : List vw_C} {A : Nat → Prop} {a : Nat} {tys : List (ClassId × FieldType)} {ws : va_W} {H0 : Heap}
theorem va_mna {X : va_W} {L : List Nat} {f : Nat → va_E} {cc : ByteArray} (hexec : p.tables.exec = Jvm.exec) (hb : c.code = cc) {own : String} {index : Nat} {ty : FieldType} {cy : ClassId} (hown : s.vm.findClass own = some m.cls) (hclink : (Cond.classLink own index ("[" ++ (FieldType.array ty).toString)).before args s = true) (hover : va_AOA ty s) (harr : (Cond.arrayClass ty).before args s = true) (hcy : s.vm.findClass (FieldType.array ty).toString = some cy)
    (hK : va_K D cl tys s) (hP : va_P D cl (X ++ va_pl L f) H) (hD : va_D A (X ++ va_pl L f)) (hS : va_S A H0 H locs) (hA : ∀ q, H0.size ≤ q → A q) {n k : Int32} {N' K' : Nat} {z : vp_A} (hn : ¬ n < 0) (hk : ¬ k < 0) (hN : n.toNatClampNeg = N') (hM : k.toNatClampNeg = K')
    (hb1 : N' * 4 ≤ 536870912) (hb2 : K' * componentBytes ty ≤ 536870912) (hb3 : K' ≤ 536870912) (hdf : fits ty (defaultValue ty) = true) (hdd : (defaultValue ty).isDefault = true) (hcells : cells + (1 + N') ≤ R.cells) (hslots : slots + (N' + N' * K') ≤ R.slots) (hz : ∀ c : ClassId, Jvm.Free.Multi.innerC c K' (defaultValue ty) = vp_cell c z) (hdg : decode cc pc = .ok (.multianewarray index 2, 4))
    (kk : ∀ (q : Nat) (r : Nat → Nat) (cA : ClassId) (H1 : Heap), (∀ i j : Nat, i < N' → j < N' → r i = r j → i = j) → (∀ i : Nat, i < N' → r i ∉ L) → va_K D cl (tys ++ [(cA, .array ty)]) s →
      va_P D cl ((X ++ [(q, .inl (cA, N', .inr (.inr (.inr (.inr (fun i => if i < N' then some (r i) else none))))))]) ++ va_pl (L ++ (List.range N').map r) (vr_up f ((List.range N').map r) (.inl (cy, z)))) H1 → va_D A ((X ++ [(q, .inl (cA, N', .inr (.inr (.inr (.inr (fun i => if i < N' then some (r i) else none))))))]) ++ va_pl (L ++ (List.range N').map r) (vr_up f ((List.range N').map r) (.inl (cy, z)))) → va_S A H0 H1 locs →
      W p l e R s m args below meth c H1 locs (cells + 1 + N') (slots + N' + N' * K') Q (F0 m (pc + 4) ls (.ref q :: rest))) : W p l e R s m args below meth c H locs cells slots Q (F0 m pc ls (.int k :: .int n :: rest)) := by
  subst hN
  subst hM
  intro T hT Xs
  obtain ⟨vm₁, cA, comp, -, fA, fC, hO, -, X', step⟩ := Xs.multianewarray2F hexec hown hclink (va_AOA.use hover) harr (g := F0 m pc ls (.int k :: .int n :: rest)) rfl (by rw [hb]; exact hdg) rfl hn hk hb1 hb2 hb3 hdf hdd hcells hslots
  have ec : some cy = some comp := hcy.symm.trans fC
  cases ec
  generalize hF : Jvm.Free.Multi.fill (T.setVm vm₁) cA cy n.toNatClampNeg k.toNatClampNeg (defaultValue ty) n.toNatClampNeg = F at X' step
  have hTh : (T.setVm vm₁).heap = H := hT
  obtain ⟨f1, f2, -, -⟩ := Jvm.Free.Multi.fill_facts (T.setVm vm₁) cA cy n.toNatClampNeg k.toNatClampNeg (defaultValue ty) n.toNatClampNeg
  rw [hF, hTh] at f1 f2
  have hold : ∀ x : Nat, x < H.size → F.heap[x]? = H[x]? := fun x hx => by
    have := Jvm.Free.Multi.fill_old (T.setVm vm₁) cA cy n.toNatClampNeg k.toNatClampNeg (defaultValue ty) (a := x) (by rw [hTh]; exact hx) n.toNatClampNeg
    rw [hF, hTh] at this
    exact this
  have hrow : ∀ j : Nat, j < n.toNatClampNeg → F.heap[H.size + 1 + j]? = some (vp_cell cy z) := fun j hj => by
    have := Jvm.Free.Multi.fill_inner (T.setVm vm₁) cA cy n.toNatClampNeg k.toNatClampNeg (defaultValue ty) n.toNatClampNeg j hj
    rw [hF, hTh, hz] at this
    exact this
  have hout : Jvm.Free.Multi.outerC cA n.toNatClampNeg H.size n.toNatClampNeg = vp_cell cA (n.toNatClampNeg, .inr (.inr (.inr (.inr (fun i => if i < n.toNatClampNeg then some (H.size + 1 + i) else none))))) := by
    rw [vp_cell_q]
    exact vr_outer cA n.toNatClampNeg H.size n.toNatClampNeg
  rw [hout] at f2
  have hlt : ∀ a, a ∈ L → a < H.size := fun a ha => by
    obtain ⟨k9, hk9⟩ := va_pl_get (X := X) (f := f) ha
    exact (hP k9 _ hk9).lt
  have hnl : ∀ i : Nat, i < n.toNatClampNeg → H.size + 1 + i ∉ L := fun i _ h => by
    have := hlt _ h
    omega
  have hnm : ∀ a, a ∈ (List.range n.toNatClampNeg).map (fun i => H.size + 1 + i) → a ∉ L := fun a ha h => by
    obtain ⟨i, -, rfl⟩ := List.mem_map.mp ha
    have := hlt _ h
    omega
  have hP0 : va_P D cl (X ++ va_pl L f) F.heap := hP.kept (fun k9 x hx => hold x.1 ((hP k9 x hx).lt))
  have hP1 : va_P D cl ((X ++ va_pl L f) ++ [(H.size, .inl (cA, n.toNatClampNeg, .inr (.inr (.inr (.inr (fun i => if i < n.toNatClampNeg then some (H.size + 1 + i) else none))))))]) F.heap := hP0.app (fun k9 x hx => by
    have h0 : k9 < 1 := (List.getElem?_eq_some_iff.mp hx).1
    rw [show k9 = 0 by omega] at hx
    cases hx
    exact f2)
  have hP2 : va_P D cl (((X ++ va_pl L f) ++ [(H.size, .inl (cA, n.toNatClampNeg, .inr (.inr (.inr (.inr (fun i => if i < n.toNatClampNeg then some (H.size + 1 + i) else none))))))]) ++ ((List.range n.toNatClampNeg).map (fun i => H.size + 1 + i)).map (fun a => (a, .inl (cy, z)))) F.heap := hP1.app (fun k9 x hx => by
    obtain ⟨a, ha, rfl⟩ := List.mem_map.mp (List.mem_of_getElem? hx)
    obtain ⟨i, hi, rfl⟩ := List.mem_map.mp ha
    exact hrow i (List.mem_range.mp hi))
  have hD2 : va_D A (((X ++ va_pl L f) ++ [(H.size, .inl (cA, n.toNatClampNeg, .inr (.inr (.inr (.inr (fun i => if i < n.toNatClampNeg then some (H.size + 1 + i) else none))))))]) ++ ((List.range n.toNatClampNeg).map (fun i => H.size + 1 + i)).map (fun a => (a, .inl (cy, z)))) := by
    have hD1 := hD.push (e := .inl (cA, n.toNatClampNeg, .inr (.inr (.inr (.inr (fun i => if i < n.toNatClampNeg then some (H.size + 1 + i) else none)))))) hP rfl (hA _ hS.1)
    generalize hW1 : (X ++ va_pl L f) ++ [(H.size, .inl (cA, n.toNatClampNeg, .inr (.inr (.inr (.inr (fun i => if i < n.toNatClampNeg then some (H.size + 1 + i) else none))))))] = W1 at hD1 hP1 ⊢
    have hle : ∀ (k9 : Nat) (x : Nat × va_E), W1[k9]? = some x → x.1 ≤ H.size := fun k9 x hx => by
      rw [← hW1] at hx
      by_cases hl : k9 < (X ++ va_pl L f).length
      · rw [List.getElem?_append_left hl] at hx
        exact Nat.le_of_lt ((hP k9 x hx).lt)
      · rw [List.getElem?_append_right (by omega)] at hx
        have h0 : k9 - (X ++ va_pl L f).length < 1 := (List.getElem?_eq_some_iff.mp hx).1
        rw [show k9 - (X ++ va_pl L f).length = 0 by omega] at hx
        cases hx
        exact Nat.le_refl _
    have hr : ∀ (k9 : Nat) (x : Nat × va_E), (((List.range n.toNatClampNeg).map (fun i => H.size + 1 + i)).map (fun a => ((a, .inl (cy, z)) : Nat × va_E)))[k9]? = some x → x.1 = H.size + 1 + k9 := fun k9 x hx => by
      rw [List.getElem?_map, List.getElem?_map] at hx
      by_cases h9 : k9 < n.toNatClampNeg
      · rw [List.getElem?_range h9] at hx
        cases hx
        rfl
      · have hn0 : (List.range n.toNatClampNeg)[k9]? = none := List.getElem?_eq_none (by rw [List.length_range]; omega)
        rw [hn0] at hx
        cases hx
    refine ⟨fun i j x y hi hj hxy => ?_, fun k9 x hx => ?_⟩
    · by_cases h1 : i < W1.length <;> by_cases h2 : j < W1.length
      · rw [List.getElem?_append_left h1] at hi
        rw [List.getElem?_append_left h2] at hj
        exact hD1.1 i j x y hi hj hxy
      · rw [List.getElem?_append_left h1] at hi
        rw [List.getElem?_append_right (by omega)] at hj
        have := hle _ _ hi
        have := hr _ _ hj
        omega
      · rw [List.getElem?_append_right (by omega)] at hi
        rw [List.getElem?_append_left h2] at hj
        have := hle _ _ hj
        have := hr _ _ hi
        omega
      · rw [List.getElem?_append_right (by omega)] at hi hj
        have := hr _ _ hi
        have := hr _ _ hj
        omega
    · by_cases h1 : k9 < W1.length
      · rw [List.getElem?_append_left h1] at hx
        exact hD1.2 k9 x hx
      · rw [List.getElem?_append_right (by omega)] at hx
        have := hr _ _ hx
        exact hA _ (by have := hS.1; omega)
  have hAr : ArrOfT s cA (.array ty) := fun N9 z9 => by
    obtain ⟨-, k9, hk9, cm9, hkk9⟩ := (hO 0 0 0).1
    exact ⟨(fun q hq => by cases hq), k9, hk9, cm9, hkk9⟩
  have hK2 : va_K D cl (tys ++ [(cA, .array ty)]) s := ⟨hK.1, fun k9 x hx => by
    by_cases hl : k9 < tys.length
    · rw [List.getElem?_append_left hl] at hx
      exact hK.2 k9 x hx
    · rw [List.getElem?_append_right (by omega)] at hx
      have h0 : k9 - tys.length < 1 := (List.getElem?_eq_some_iff.mp hx).1
      rw [show k9 - tys.length = 0 by omega] at hx
      cases hx
      exact ⟨hAr, fA⟩⟩
  obtain ⟨t, a1, b1⟩ := kk H.size (fun i => H.size + 1 + i) cA F.heap (fun i j _ _ h => by have h9 : H.size + 1 + i = H.size + 1 + j := h; omega) hnl hK2 (by rw [← vr_rows hnm]; exact vr_lay hP2) (by rw [← vr_rows hnm]; exact vr_layD hD2) ⟨by rw [f1]; have := hS.1; omega, fun x h1 h2 => (hold x (Nat.lt_of_lt_of_le h1 hS.1)).trans (hS.2.1 x h1 h2), hS.2.2⟩ F rfl X'
  refine ⟨t, step t ?_, b1⟩
  have e : T.heap.size = H.size := by rw [hT]
  rw [e]
  exact a1
end VGM
/-! ===== END ===== -/
end
section
/-! THE ABSTRACT MACHINE: its heap is (S, I, J, r): shapes, ints, longs, references; an address is a place in S. -/
abbrev XS : Type := List (Nat × Nat)
abbrev XI : Type := Nat → Nat → Int32
abbrev XJ : Type := Nat → Nat → Int64
abbrev XR : Type := Nat → Nat → Option Nat
abbrev XV : Type := List Value
abbrev XQ : Type := Option Value → XS → XI → XJ → XR → Prop
abbrev XK : Type := XV → XV → XS → XI → XJ → XR → Nat → Nat → Prop
abbrev XN : Type := Nat → XK
abbrev XC : Type := Nat → XV → XS → XI → XJ → XR → XQ → Prop
abbrev XO : Type := Nat × Nat × Nat × Nat × Nat × Nat × Nat × Nat × Int32 × Int64
def up2 {α : Type} (f : Nat → Nat → α) (a i : Nat) (v : α) : Nat → Nat → α := fun x y => if x = a then (if y = i then v else f x y) else f x y
def cp2 {α : Type} (f : Nat → Nat → α) (a sp b dp n : Nat) : Nat → Nat → α := fun x y => if x = b then (if dp ≤ y ∧ y < dp + n then f a (sp + (y - dp)) else f b y) else f x y
def isL2 : Value → Bool
  | .long _ => true
  | .double _ => true
  | _ => false
def lget (L : XV) (i : Nat) : Value := L.getD i (.float 0)
def lset1 (L : XV) (i : Nat) (v : Value) : XV := (if i = 0 then L else if isL2 (lget L (i - 1)) then L.set (i - 1) (.float 0) else L).set i v
def lset2 (L : XV) (i : Nat) (v : Value) : XV := (lset1 L i v).set (i + 1) (.float 0)
def xpd : XV → XV
  | [] => []
  | .long x :: vs => .long x :: .float 0 :: xpd vs
  | .double x :: vs => .double x :: .float 0 :: xpd vs
  | v :: vs => v :: xpd vs
def xent (args : XV) (n : Nat) : XV := xpd args ++ List.replicate (n - (xpd args).length) (.float 0)
def xsz : XV → Nat
  | [] => 0
  | v :: vs => v.category + xsz vs
def ibin (d : Nat) (x y : Int32) : Int32 := match d with
  | 0 => x + y
  | 1 => x - y
  | 2 => x * y
  | 3 => x &&& y
  | 4 => x ||| y
  | 5 => x ^^^ y
  | 6 => x <<< (y &&& 31)
  | 7 => x >>> (y &&& 31)
  | _ => (x.toUInt32 >>> (y.toUInt32 &&& Int32.toUInt32 31)).toInt32
def lbin (d : Nat) (x y : Int64) : Int64 := match d with
  | 0 => x + y
  | 1 => x - y
  | 2 => x * y
  | 3 => x &&& y
  | _ => x ||| y
def icnd (d : Nat) (x y : Int32) : Prop := match d with
  | 0 => x = y
  | 1 => ¬ x = y
  | 2 => x < y
  | 3 => y ≤ x
  | 4 => y < x
  | _ => x ≤ y
def xsw (nx : XN) (L st : XV) (S : XS) (I : XI) (J : XJ) (r : XR) (cu su : Nat) (x : Int32) (dflt : Nat) : List (Int32 × Nat) → Prop
  | [] => nx dflt L st S I J r cu su
  | (k, t) :: rest => (x = k → nx t L st S I J r cu su) ∧ (¬ x = k → xsw nx L st S I J r cu su x dflt rest)
/-- what one instruction asks: K is what comes behind it, nx where it may jump to, cl a call, Q the method's end; mc ms: what it may make -/
def xst (sc : Nat × (Nat → Int32)) (cl : XC) (nx : XN) (Q : XQ) (mc ms : Nat) (K : XK) : XO → XK
  | (op, _, a, b, d, _, n, e, z, w) => fun L st S I J r cu su => match op with
    | 0 => K L (.int z :: st) S I J r cu su
    | 1 => K L (.long w :: st) S I J r cu su
    | 2 => K L (.retAddr b :: st) S I J r cu su
    | 3 => K L (.null :: st) S I J r cu su
    | 4 => match lget L a with
      | .int x => K L (.int x :: st) S I J r cu su
      | _ => False
    | 5 => match lget L a with
      | .long x => K L (.long x :: st) S I J r cu su
      | _ => False
    | 6 => match lget L a with
      | .ref x => K L (.ref x :: st) S I J r cu su
      | .retAddr x => K L (.retAddr x :: st) S I J r cu su
      | _ => False
    | 7 => match st with
      | .int x :: st => K (lset1 L a (.int x)) st S I J r cu su
      | _ => False
    | 8 => match st with
      | .long x :: st => K (lset2 L a (.long x)) st S I J r cu su
      | _ => False
    | 9 => match st with
      | .ref x :: st => K (lset1 L a (.ref x)) st S I J r cu su
      | .null :: st => K (lset1 L a .null) st S I J r cu su
      | _ => False
    | 10 => match lget L a with
      | .int x => K (lset1 L a (.int (x + z))) st S I J r cu su
      | _ => False
    | 11 => match st with
      | .int y :: .int x :: st => K L (.int (ibin d x y) :: st) S I J r cu su
      | _ => False
    | 12 => match st with
      | .int y :: .int x :: st => ¬ y = 0 ∧ K L (.int (if d = 0 then x / y else x - x / y * y) :: st) S I J r cu su
      | _ => False
    | 13 => match st with
      | .int x :: st => K L (.int (-x) :: st) S I J r cu su
      | _ => False
    | 14 => match st with
      | .long y :: .long x :: st => K L (.long (lbin d x y) :: st) S I J r cu su
      | _ => False
    | 15 => match st with
      | .long y :: .long x :: st => ¬ y = 0 ∧ K L (.long (if d = 0 then x / y else x - x / y * y) :: st) S I J r cu su
      | _ => False
    | 16 => match st with
      | .int y :: .long x :: st => K L (.long (x <<< (y.toInt64 &&& 63)) :: st) S I J r cu su
      | _ => False
    | 17 => match d, st with
      | 0, .int x :: st => K L (.long x.toInt64 :: st) S I J r cu su
      | 1, .long x :: st => K L (.int x.toInt32 :: st) S I J r cu su
      | 2, .int x :: st => K L (.int x.toInt8.toInt32 :: st) S I J r cu su
      | 3, .int x :: st => K L (.int x.toInt16.toInt32 :: st) S I J r cu su
      | 4, .int x :: st => K L (.int (x.toUInt32 % 65536).toInt32 :: st) S I J r cu su
      | 5, .long x :: st => K L (.long (-x) :: st) S I J r cu su
      | _, _ => False
    | 18 => match st with
      | .long y :: .long x :: st => K L (.int (lg_cmp x y) :: st) S I J r cu su
      | _ => False
    | 19 => match st with
      | v :: st => v.category = 1 ∧ K L (v :: v :: st) S I J r cu su
      | _ => False
    | 20 => match st with
      | v :: u :: st => v.category = 1 ∧ u.category = 1 ∧ K L (v :: u :: v :: u :: st) S I J r cu su
      | _ => False
    | 21 => match st with
      | v :: st => v.category = 1 ∧ K L st S I J r cu su
      | _ => False
    | 22 => match st with
      | .int x :: st => (icnd d x 0 → nx a L st S I J r cu su) ∧ (¬ icnd d x 0 → K L st S I J r cu su)
      | _ => False
    | 23 => match st with
      | .int y :: .int x :: st => (icnd d x y → nx a L st S I J r cu su) ∧ (¬ icnd d x y → K L st S I J r cu su)
      | _ => False
    | 24 => nx a L st S I J r cu su
    | 25 => match d, st with
      | 0, .null :: st => nx a L st S I J r cu su
      | 0, .ref _ :: st => K L st S I J r cu su
      | 1, .null :: st => K L st S I J r cu su
      | 1, .ref _ :: st => nx a L st S I J r cu su
      | _, _ => False
    | 26 => match st with
      | .int x :: st => xsw nx L st S I J r cu su x (xswt b).2 (xswt b).1
      | _ => False
    | 27 => match d, st with
      | 0, [.int x] => Q (some (.int x)) S I J r
      | 1, [.int x] => (x = 0 ∨ x = 1) ∧ Q (some (.int x)) S I J r
      | 2, [.long x] => Q (some (.long x)) S I J r
      | 3, [] => Q none S I J r
      | 4, [.int x] => x.toInt8.toInt32 = x ∧ Q (some (.int x)) S I J r
      | 5, [.int x] => x.toUInt32.toUInt16.toUInt32.toInt32 = x ∧ Q (some (.int x)) S I J r
      | _, _ => False
    | 28 => cu + 1 ≤ mc ∧ su + nfc b ≤ ms ∧ K L (.ref S.length :: st) (S ++ [(b, 0)]) (fun q k => if q = S.length then 0 else I q k) (fun q k => if q = S.length then 0 else J q k) (fun q k => if q = S.length then none else r q k) (cu + 1) (su + nfc b)
    | 29 => match st with
      | .int n :: st => 0 ≤ n ∧ n.toNatClampNeg ≤ 4000 ∧ cu + 1 ≤ mc ∧ su + n.toNatClampNeg ≤ ms ∧ K L (.ref S.length :: st) (S ++ [(b, n.toNatClampNeg)]) (fun q k => if q = S.length then 0 else I q k) (fun q k => if q = S.length then 0 else J q k) (fun q k => if q = S.length then none else r q k) (cu + 1) (su + n.toNatClampNeg)
      | _ => False
    | 30 => match st with
      | .int n :: st => 0 ≤ n ∧ n.toNatClampNeg ≤ 4000 ∧ cu + 1 ≤ mc ∧ su + n.toNatClampNeg ≤ ms ∧ K L (.ref S.length :: st) (S ++ [(103, n.toNatClampNeg)]) (fun q k => if q = S.length then 0 else I q k) (fun q k => if q = S.length then 0 else J q k) (fun q k => if q = S.length then none else r q k) (cu + 1) (su + n.toNatClampNeg)
      | _ => False
    | 31 => match st with
      | .int k :: .int n :: st => (∃ q n1 : Nat, S[q]? = some (101, n1)) ∧ n = 4 ∧ k = 60 ∧ cu + 5 ≤ mc ∧ su + 244 ≤ ms ∧ K L (.ref S.length :: st) (S ++ [(104, 4), (101, 60), (101, 60), (101, 60), (101, 60)]) (fun q k => if S.length ≤ q then 0 else I q k) (fun q k => if S.length ≤ q then 0 else J q k) (fun q k => if q = S.length then (if k < 4 then some (S.length + 1 + k) else none) else if S.length < q then none else r q k) (cu + 5) (su + 244)
      | _ => False
    | 32 => match st with
      | .ref q :: st => ∃ t n : Nat, S[q]? = some (t, n) ∧ 100 ≤ t ∧ K L (.int (nI n) :: st) S I J r cu su
      | _ => False
    | 33 => match st with
      | .int i :: .ref q :: st => ∃ n : Nat, S[q]? = some (100, n) ∧ vp_in i n ∧ K L (.int (I q i.toNatClampNeg) :: st) S I J r cu su
      | _ => False
    | 34 => match st with
      | .int x :: .int i :: .ref q :: st => ∃ n : Nat, S[q]? = some (100, n) ∧ vp_in i n ∧ K L st S (up2 I q i.toNatClampNeg x) J r cu su
      | _ => False
    | 35 => match st with
      | .int i :: .ref q :: st => ∃ n : Nat, S[q]? = some (101, n) ∧ vp_in i n ∧ K L (.long (J q i.toNatClampNeg) :: st) S I J r cu su
      | _ => False
    | 36 => match st with
      | .long x :: .int i :: .ref q :: st => ∃ n : Nat, S[q]? = some (101, n) ∧ vp_in i n ∧ K L st S I (up2 J q i.toNatClampNeg x) r cu su
      | _ => False
    | 37 => match st with
      | .int i :: .ref q :: st => ∃ n : Nat, S[q]? = some (102, n) ∧ vp_in i n ∧ K L (.int (I q i.toNatClampNeg) :: st) S I J r cu su
      | _ => False
    | 38 => match st with
      | .int x :: .int i :: .ref q :: st => ∃ n : Nat, S[q]? = some (102, n) ∧ vp_in i n ∧ K L st S (up2 I q i.toNatClampNeg x.toInt8.toInt32) J r cu su
      | _ => False
    | 39 => match st with
      | .int i :: .ref q :: st => ∃ t n : Nat, S[q]? = some (t, n) ∧ 103 ≤ t ∧ vp_in i n ∧ K L (va_rf (r q i.toNatClampNeg) :: st) S I J r cu su
      | _ => False
    | 40 => match st with
      | .ref v :: .int i :: .ref q :: st => ∃ n : Nat, S[q]? = some (103, n) ∧ S[v]? = some (0, 0) ∧ vp_in i n ∧ K L st S I J (up2 r q i.toNatClampNeg (some v)) cu su
      | _ => False
    | 42 => match st with
      | .ref q :: st => S[q]? = some (b, 0) ∧ K L (.int (I q d) :: st) S I J r cu su
      | _ => False
    | 43 => match st with
      | .ref q :: st => S[q]? = some (b, 0) ∧ K L (.long (J q d) :: st) S I J r cu su
      | _ => False
    | 44 => match st with
      | .ref q :: st => S[q]? = some (b, 0) ∧ K L (va_rf (r q d) :: st) S I J r cu su
      | _ => False
    | 45 => match st with
      | .int x :: .ref q :: st => S[q]? = some (b, 0) ∧ K L st S (up2 I q d x) J r cu su
      | _ => False
    | 46 => match st with
      | .long x :: .ref q :: st => S[q]? = some (b, 0) ∧ K L st S I (up2 J q d x) r cu su
      | _ => False
    | 47 => match st with
      | .ref x :: .ref q :: st => S[q]? = some (b, 0) ∧ K L st S I J (up2 r q d (some x)) cu su
      | _ => False
    | 48 => n ≤ st.length ∧ xsz (st.drop n) ≤ 8 ∧ (d = 1 ∨ ∃ (q : Nat) (As : XV), (st.take n).reverse = .ref q :: As ∧ S[q]? = some (e, 0)) ∧
        cl b (st.take n).reverse S I J r (fun v S I J r => K L (v.toList ++ st.drop n) S I J r cu su)
    | 49 => match st with
      | .ref q :: st => xsz st ≤ 8 ∧ K L st S I J r cu su
      | _ => False
    | 50 => match st with
      | .int n :: .int dp :: .ref q1 :: .int sp :: .ref q0 :: st => xsz st ≤ 8 ∧ ∃ n0 n1 : Nat, S[q0]? = some (100 + d, n0) ∧ S[q1]? = some (100 + d, n1) ∧ 0 ≤ sp ∧ 0 ≤ dp ∧ 0 ≤ n ∧ sp.toNatClampNeg + n.toNatClampNeg ≤ n0 ∧ dp.toNatClampNeg + n.toNatClampNeg ≤ n1 ∧
          K L st S (if d = 1 then I else cp2 I q0 sp.toNatClampNeg q1 dp.toNatClampNeg n.toNatClampNeg) (if d = 1 then cp2 J q0 sp.toNatClampNeg q1 dp.toNatClampNeg n.toNatClampNeg else J) r cu su
      | _ => False
    | 51 => match st with
      | .retAddr i :: st => i < 29 ∧ K L (.retAddr (1000 + i) :: st) S I J r cu su
      | _ => False
    | 52 => match st with
      | .retAddr i :: st => i < 29 ∧ K L (.int 0 :: st) S I J r cu su
      | _ => False
    | 53 => match st with
      | .retAddr i :: st => i = 3000 ∧ K L (.int (nI sc.1) :: st) S I J r cu su
      | _ => False
    | 54 => match st with
      | .int j :: .retAddr i :: st => i = 3000 ∧ vp_in j sc.1 ∧ K L (.int (sc.2 j.toNatClampNeg) :: st) S I J r cu su
      | _ => False
    | 55 => cu + mck b ≤ mc ∧ su + msk b ≤ ms ∧ n ≤ st.length ∧ xsz (st.drop n) ≤ 8 ∧ (d = 1 ∨ ∃ (q : Nat) (As : XV), (st.take n).reverse = .ref q :: As ∧ S[q]? = some (e, 0)) ∧
        cl b (st.take n).reverse S I J r (fun v S I J r => K L (v.toList ++ st.drop n) S I J r (cu + mck b) (su + msk b))
    | 56 => match st with
      | .retAddr i :: st => 1000 ≤ i ∧ i < 1029 ∧ K L (.int (nI (strLen (i - 1000))) :: st) S I J r cu su
      | _ => False
    | 57 => match st with
      | .int j :: .retAddr i :: st => 1000 ≤ i ∧ i < 1029 ∧ vp_in j (strLen (i - 1000)) ∧ K L (.int (strAt (i - 1000) j.toNatClampNeg) :: st) S I J r cu su
      | _ => False
    | 58 => K L (.int 1 :: st) S I J r cu su
    | 59 => K L (.retAddr 2000 :: st) S I J r cu su
    | 60 => n ≤ st.length ∧ xsz (st.drop n) ≤ 8 ∧ (∃ (i : Nat) (As : XV), (st.take n).reverse = .retAddr i :: As ∧ i < 29) ∧
        cl b (st.take n).reverse S I J r (fun v S I J r => K L (v.toList ++ st.drop n) S I J r cu su)
    | 61 => match st with
      | .int x :: .ref q :: st => (x = 0 ∨ x = 1) ∧ S[q]? = some (b, 0) ∧ K L st S (up2 I q d x) J r cu su
      | _ => False
    | _ => False
def xwp (sc : Nat × (Nat → Int32)) (cl : XC) (nx : XN) (Q : XQ) (mc ms : Nat) : List XO → XK
  | [] => fun _ _ _ _ _ _ _ _ => False
  | i :: is => xst sc cl nx Q mc ms (xwp sc cl nx Q mc ms is) i
theorem o_0 {sc : Nat × (Nat → Int32)} {cl : XC} {nx : XN} {Q : XQ} {mc ms : Nat} {K : XK} {l a b d h n e : Nat} {z : Int32} {w : Int64} {L st : XV} {S : XS} {I : XI} {J : XJ} {r : XR} {cu su : Nat} : xst sc cl nx Q mc ms K (0, l, a, b, d, h, n, e, z, w) L st S I J r cu su = (K L (.int z :: st) S I J r cu su) := rfl
theorem o_1 {sc : Nat × (Nat → Int32)} {cl : XC} {nx : XN} {Q : XQ} {mc ms : Nat} {K : XK} {l a b d h n e : Nat} {z : Int32} {w : Int64} {L st : XV} {S : XS} {I : XI} {J : XJ} {r : XR} {cu su : Nat} : xst sc cl nx Q mc ms K (1, l, a, b, d, h, n, e, z, w) L st S I J r cu su = (K L (.long w :: st) S I J r cu su) := rfl
theorem o_2 {sc : Nat × (Nat → Int32)} {cl : XC} {nx : XN} {Q : XQ} {mc ms : Nat} {K : XK} {l a b d h n e : Nat} {z : Int32} {w : Int64} {L st : XV} {S : XS} {I : XI} {J : XJ} {r : XR} {cu su : Nat} : xst sc cl nx Q mc ms K (2, l, a, b, d, h, n, e, z, w) L st S I J r cu su = (K L (.retAddr b :: st) S I J r cu su) := rfl
theorem o_3 {sc : Nat × (Nat → Int32)} {cl : XC} {nx : XN} {Q : XQ} {mc ms : Nat} {K : XK} {l a b d h n e : Nat} {z : Int32} {w : Int64} {L st : XV} {S : XS} {I : XI} {J : XJ} {r : XR} {cu su : Nat} : xst sc cl nx Q mc ms K (3, l, a, b, d, h, n, e, z, w) L st S I J r cu su = (K L (.null :: st) S I J r cu su) := rfl
theorem o_4 {sc : Nat × (Nat → Int32)} {cl : XC} {nx : XN} {Q : XQ} {mc ms : Nat} {K : XK} {l a b d h n e : Nat} {z : Int32} {w : Int64} {L st : XV} {S : XS} {I : XI} {J : XJ} {r : XR} {cu su : Nat} : xst sc cl nx Q mc ms K (4, l, a, b, d, h, n, e, z, w) L st S I J r cu su = (match lget L a with
      | .int x => K L (.int x :: st) S I J r cu su
      | _ => False) := rfl
theorem o_5 {sc : Nat × (Nat → Int32)} {cl : XC} {nx : XN} {Q : XQ} {mc ms : Nat} {K : XK} {l a b d h n e : Nat} {z : Int32} {w : Int64} {L st : XV} {S : XS} {I : XI} {J : XJ} {r : XR} {cu su : Nat} : xst sc cl nx Q mc ms K (5, l, a, b, d, h, n, e, z, w) L st S I J r cu su = (match lget L a with
      | .long x => K L (.long x :: st) S I J r cu su
      | _ => False) := rfl
theorem o_6 {sc : Nat × (Nat → Int32)} {cl : XC} {nx : XN} {Q : XQ} {mc ms : Nat} {K : XK} {l a b d h n e : Nat} {z : Int32} {w : Int64} {L st : XV} {S : XS} {I : XI} {J : XJ} {r : XR} {cu su : Nat} : xst sc cl nx Q mc ms K (6, l, a, b, d, h, n, e, z, w) L st S I J r cu su = (match lget L a with
      | .ref x => K L (.ref x :: st) S I J r cu su
      | .retAddr x => K L (.retAddr x :: st) S I J r cu su
      | _ => False) := rfl
theorem o_7 {sc : Nat × (Nat → Int32)} {cl : XC} {nx : XN} {Q : XQ} {mc ms : Nat} {K : XK} {l a b d h n e : Nat} {z : Int32} {w : Int64} {L st : XV} {S : XS} {I : XI} {J : XJ} {r : XR} {cu su : Nat} {x : Int32} : xst sc cl nx Q mc ms K (7, l, a, b, d, h, n, e, z, w) L (.int x :: st) S I J r cu su = (K (lset1 L a (.int x)) st S I J r cu su) := rfl
theorem o_8 {sc : Nat × (Nat → Int32)} {cl : XC} {nx : XN} {Q : XQ} {mc ms : Nat} {K : XK} {l a b d h n e : Nat} {z : Int32} {w : Int64} {L st : XV} {S : XS} {I : XI} {J : XJ} {r : XR} {cu su : Nat} {x : Int64} : xst sc cl nx Q mc ms K (8, l, a, b, d, h, n, e, z, w) L (.long x :: st) S I J r cu su = (K (lset2 L a (.long x)) st S I J r cu su) := rfl
theorem o_9 {sc : Nat × (Nat → Int32)} {cl : XC} {nx : XN} {Q : XQ} {mc ms : Nat} {K : XK} {l a b d h n e : Nat} {z : Int32} {w : Int64} {L st : XV} {S : XS} {I : XI} {J : XJ} {r : XR} {cu su : Nat} {x : Nat} : xst sc cl nx Q mc ms K (9, l, a, b, d, h, n, e, z, w) L (.ref x :: st) S I J r cu su = (K (lset1 L a (.ref x)) st S I J r cu su) := rfl
theorem o_9n {sc : Nat × (Nat → Int32)} {cl : XC} {nx : XN} {Q : XQ} {mc ms : Nat} {K : XK} {l a b d h n e : Nat} {z : Int32} {w : Int64} {L st : XV} {S : XS} {I : XI} {J : XJ} {r : XR} {cu su : Nat}  : xst sc cl nx Q mc ms K (9, l, a, b, d, h, n, e, z, w) L (.null :: st) S I J r cu su = (K (lset1 L a .null) st S I J r cu su) := rfl
theorem o_10 {sc : Nat × (Nat → Int32)} {cl : XC} {nx : XN} {Q : XQ} {mc ms : Nat} {K : XK} {l a b d h n e : Nat} {z : Int32} {w : Int64} {L st : XV} {S : XS} {I : XI} {J : XJ} {r : XR} {cu su : Nat} : xst sc cl nx Q mc ms K (10, l, a, b, d, h, n, e, z, w) L st S I J r cu su = (match lget L a with
      | .int x => K (lset1 L a (.int (x + z))) st S I J r cu su
      | _ => False) := rfl
theorem o_11 {sc : Nat × (Nat → Int32)} {cl : XC} {nx : XN} {Q : XQ} {mc ms : Nat} {K : XK} {l a b d h n e : Nat} {z : Int32} {w : Int64} {L st : XV} {S : XS} {I : XI} {J : XJ} {r : XR} {cu su : Nat} {y : Int32} {x : Int32} : xst sc cl nx Q mc ms K (11, l, a, b, d, h, n, e, z, w) L (.int y :: .int x :: st) S I J r cu su = (K L (.int (ibin d x y) :: st) S I J r cu su) := rfl
theorem o_12 {sc : Nat × (Nat → Int32)} {cl : XC} {nx : XN} {Q : XQ} {mc ms : Nat} {K : XK} {l a b d h n e : Nat} {z : Int32} {w : Int64} {L st : XV} {S : XS} {I : XI} {J : XJ} {r : XR} {cu su : Nat} {y : Int32} {x : Int32} : xst sc cl nx Q mc ms K (12, l, a, b, d, h, n, e, z, w) L (.int y :: .int x :: st) S I J r cu su = (¬ y = 0 ∧ K L (.int (if d = 0 then x / y else x - x / y * y) :: st) S I J r cu su) := rfl
theorem o_13 {sc : Nat × (Nat → Int32)} {cl : XC} {nx : XN} {Q : XQ} {mc ms : Nat} {K : XK} {l a b d h n e : Nat} {z : Int32} {w : Int64} {L st : XV} {S : XS} {I : XI} {J : XJ} {r : XR} {cu su : Nat} {x : Int32} : xst sc cl nx Q mc ms K (13, l, a, b, d, h, n, e, z, w) L (.int x :: st) S I J r cu su = (K L (.int (-x) :: st) S I J r cu su) := rfl
theorem o_14 {sc : Nat × (Nat → Int32)} {cl : XC} {nx : XN} {Q : XQ} {mc ms : Nat} {K : XK} {l a b d h n e : Nat} {z : Int32} {w : Int64} {L st : XV} {S : XS} {I : XI} {J : XJ} {r : XR} {cu su : Nat} {y : Int64} {x : Int64} : xst sc cl nx Q mc ms K (14, l, a, b, d, h, n, e, z, w) L (.long y :: .long x :: st) S I J r cu su = (K L (.long (lbin d x y) :: st) S I J r cu su) := rfl
theorem o_15 {sc : Nat × (Nat → Int32)} {cl : XC} {nx : XN} {Q : XQ} {mc ms : Nat} {K : XK} {l a b d h n e : Nat} {z : Int32} {w : Int64} {L st : XV} {S : XS} {I : XI} {J : XJ} {r : XR} {cu su : Nat} {y : Int64} {x : Int64} : xst sc cl nx Q mc ms K (15, l, a, b, d, h, n, e, z, w) L (.long y :: .long x :: st) S I J r cu su = (¬ y = 0 ∧ K L (.long (if d = 0 then x / y else x - x / y * y) :: st) S I J r cu su) := rfl
theorem o_16 {sc : Nat × (Nat → Int32)} {cl : XC} {nx : XN} {Q : XQ} {mc ms : Nat} {K : XK} {l a b d h n e : Nat} {z : Int32} {w : Int64} {L st : XV} {S : XS} {I : XI} {J : XJ} {r : XR} {cu su : Nat} {y : Int32} {x : Int64} : xst sc cl nx Q mc ms K (16, l, a, b, d, h, n, e, z, w) L (.int y :: .long x :: st) S I J r cu su = (K L (.long (x <<< (y.toInt64 &&& 63)) :: st) S I J r cu su) := rfl
theorem o_17_0 {sc : Nat × (Nat → Int32)} {cl : XC} {nx : XN} {Q : XQ} {mc ms : Nat} {K : XK} {l a b h n e : Nat} {z : Int32} {w : Int64} {L st : XV} {S : XS} {I : XI} {J : XJ} {r : XR} {cu su : Nat} {x : Int32} : xst sc cl nx Q mc ms K (17, l, a, b, 0, h, n, e, z, w) L (.int x :: st) S I J r cu su = (K L (.long x.toInt64 :: st) S I J r cu su) := rfl
theorem o_17_1 {sc : Nat × (Nat → Int32)} {cl : XC} {nx : XN} {Q : XQ} {mc ms : Nat} {K : XK} {l a b h n e : Nat} {z : Int32} {w : Int64} {L st : XV} {S : XS} {I : XI} {J : XJ} {r : XR} {cu su : Nat} {x : Int64} : xst sc cl nx Q mc ms K (17, l, a, b, 1, h, n, e, z, w) L (.long x :: st) S I J r cu su = (K L (.int x.toInt32 :: st) S I J r cu su) := rfl
theorem o_17_2 {sc : Nat × (Nat → Int32)} {cl : XC} {nx : XN} {Q : XQ} {mc ms : Nat} {K : XK} {l a b h n e : Nat} {z : Int32} {w : Int64} {L st : XV} {S : XS} {I : XI} {J : XJ} {r : XR} {cu su : Nat} {x : Int32} : xst sc cl nx Q mc ms K (17, l, a, b, 2, h, n, e, z, w) L (.int x :: st) S I J r cu su = (K L (.int x.toInt8.toInt32 :: st) S I J r cu su) := rfl
theorem o_17_3 {sc : Nat × (Nat → Int32)} {cl : XC} {nx : XN} {Q : XQ} {mc ms : Nat} {K : XK} {l a b h n e : Nat} {z : Int32} {w : Int64} {L st : XV} {S : XS} {I : XI} {J : XJ} {r : XR} {cu su : Nat} {x : Int32} : xst sc cl nx Q mc ms K (17, l, a, b, 3, h, n, e, z, w) L (.int x :: st) S I J r cu su = (K L (.int x.toInt16.toInt32 :: st) S I J r cu su) := rfl
theorem o_17_4 {sc : Nat × (Nat → Int32)} {cl : XC} {nx : XN} {Q : XQ} {mc ms : Nat} {K : XK} {l a b h n e : Nat} {z : Int32} {w : Int64} {L st : XV} {S : XS} {I : XI} {J : XJ} {r : XR} {cu su : Nat} {x : Int32} : xst sc cl nx Q mc ms K (17, l, a, b, 4, h, n, e, z, w) L (.int x :: st) S I J r cu su = (K L (.int (x.toUInt32 % 65536).toInt32 :: st) S I J r cu su) := rfl
theorem o_17_5 {sc : Nat × (Nat → Int32)} {cl : XC} {nx : XN} {Q : XQ} {mc ms : Nat} {K : XK} {l a b h n e : Nat} {z : Int32} {w : Int64} {L st : XV} {S : XS} {I : XI} {J : XJ} {r : XR} {cu su : Nat} {x : Int64} : xst sc cl nx Q mc ms K (17, l, a, b, 5, h, n, e, z, w) L (.long x :: st) S I J r cu su = (K L (.long (-x) :: st) S I J r cu su) := rfl
theorem o_18 {sc : Nat × (Nat → Int32)} {cl : XC} {nx : XN} {Q : XQ} {mc ms : Nat} {K : XK} {l a b d h n e : Nat} {z : Int32} {w : Int64} {L st : XV} {S : XS} {I : XI} {J : XJ} {r : XR} {cu su : Nat} {y : Int64} {x : Int64} : xst sc cl nx Q mc ms K (18, l, a, b, d, h, n, e, z, w) L (.long y :: .long x :: st) S I J r cu su = (K L (.int (lg_cmp x y) :: st) S I J r cu su) := rfl
theorem o_19 {sc : Nat × (Nat → Int32)} {cl : XC} {nx : XN} {Q : XQ} {mc ms : Nat} {K : XK} {l a b d h n e : Nat} {z : Int32} {w : Int64} {L st : XV} {S : XS} {I : XI} {J : XJ} {r : XR} {cu su : Nat} {v u : Value} : xst sc cl nx Q mc ms K (19, l, a, b, d, h, n, e, z, w) L (v :: st) S I J r cu su = (v.category = 1 ∧ K L (v :: v :: st) S I J r cu su) := rfl
theorem o_20 {sc : Nat × (Nat → Int32)} {cl : XC} {nx : XN} {Q : XQ} {mc ms : Nat} {K : XK} {l a b d h n e : Nat} {z : Int32} {w : Int64} {L st : XV} {S : XS} {I : XI} {J : XJ} {r : XR} {cu su : Nat} {v u : Value} : xst sc cl nx Q mc ms K (20, l, a, b, d, h, n, e, z, w) L (v :: u :: st) S I J r cu su = (v.category = 1 ∧ u.category = 1 ∧ K L (v :: u :: v :: u :: st) S I J r cu su) := rfl
theorem o_21 {sc : Nat × (Nat → Int32)} {cl : XC} {nx : XN} {Q : XQ} {mc ms : Nat} {K : XK} {l a b d h n e : Nat} {z : Int32} {w : Int64} {L st : XV} {S : XS} {I : XI} {J : XJ} {r : XR} {cu su : Nat} {v u : Value} : xst sc cl nx Q mc ms K (21, l, a, b, d, h, n, e, z, w) L (v :: st) S I J r cu su = (v.category = 1 ∧ K L st S I J r cu su) := rfl
theorem o_22 {sc : Nat × (Nat → Int32)} {cl : XC} {nx : XN} {Q : XQ} {mc ms : Nat} {K : XK} {l a b d h n e : Nat} {z : Int32} {w : Int64} {L st : XV} {S : XS} {I : XI} {J : XJ} {r : XR} {cu su : Nat} {x : Int32} : xst sc cl nx Q mc ms K (22, l, a, b, d, h, n, e, z, w) L (.int x :: st) S I J r cu su = ((icnd d x 0 → nx a L st S I J r cu su) ∧ (¬ icnd d x 0 → K L st S I J r cu su)) := rfl
theorem o_23 {sc : Nat × (Nat → Int32)} {cl : XC} {nx : XN} {Q : XQ} {mc ms : Nat} {K : XK} {l a b d h n e : Nat} {z : Int32} {w : Int64} {L st : XV} {S : XS} {I : XI} {J : XJ} {r : XR} {cu su : Nat} {y : Int32} {x : Int32} : xst sc cl nx Q mc ms K (23, l, a, b, d, h, n, e, z, w) L (.int y :: .int x :: st) S I J r cu su = ((icnd d x y → nx a L st S I J r cu su) ∧ (¬ icnd d x y → K L st S I J r cu su)) := rfl
theorem o_24 {sc : Nat × (Nat → Int32)} {cl : XC} {nx : XN} {Q : XQ} {mc ms : Nat} {K : XK} {l a b d h n e : Nat} {z : Int32} {w : Int64} {L st : XV} {S : XS} {I : XI} {J : XJ} {r : XR} {cu su : Nat} : xst sc cl nx Q mc ms K (24, l, a, b, d, h, n, e, z, w) L st S I J r cu su = (nx a L st S I J r cu su) := rfl
theorem o_25_0 {sc : Nat × (Nat → Int32)} {cl : XC} {nx : XN} {Q : XQ} {mc ms : Nat} {K : XK} {l a b h n e : Nat} {z : Int32} {w : Int64} {L st : XV} {S : XS} {I : XI} {J : XJ} {r : XR} {cu su : Nat}  : xst sc cl nx Q mc ms K (25, l, a, b, 0, h, n, e, z, w) L (.null :: st) S I J r cu su = (nx a L st S I J r cu su) := rfl
theorem o_25_1 {sc : Nat × (Nat → Int32)} {cl : XC} {nx : XN} {Q : XQ} {mc ms : Nat} {K : XK} {l a b h n e : Nat} {z : Int32} {w : Int64} {L st : XV} {S : XS} {I : XI} {J : XJ} {r : XR} {cu su : Nat} {x : Nat} : xst sc cl nx Q mc ms K (25, l, a, b, 0, h, n, e, z, w) L (.ref x :: st) S I J r cu su = (K L st S I J r cu su) := rfl
theorem o_25_2 {sc : Nat × (Nat → Int32)} {cl : XC} {nx : XN} {Q : XQ} {mc ms : Nat} {K : XK} {l a b h n e : Nat} {z : Int32} {w : Int64} {L st : XV} {S : XS} {I : XI} {J : XJ} {r : XR} {cu su : Nat}  : xst sc cl nx Q mc ms K (25, l, a, b, 1, h, n, e, z, w) L (.null :: st) S I J r cu su = (K L st S I J r cu su) := rfl
theorem o_25_3 {sc : Nat × (Nat → Int32)} {cl : XC} {nx : XN} {Q : XQ} {mc ms : Nat} {K : XK} {l a b h n e : Nat} {z : Int32} {w : Int64} {L st : XV} {S : XS} {I : XI} {J : XJ} {r : XR} {cu su : Nat} {x : Nat} : xst sc cl nx Q mc ms K (25, l, a, b, 1, h, n, e, z, w) L (.ref x :: st) S I J r cu su = (nx a L st S I J r cu su) := rfl
theorem o_26 {sc : Nat × (Nat → Int32)} {cl : XC} {nx : XN} {Q : XQ} {mc ms : Nat} {K : XK} {l a b d h n e : Nat} {z : Int32} {w : Int64} {L st : XV} {S : XS} {I : XI} {J : XJ} {r : XR} {cu su : Nat} {x : Int32} : xst sc cl nx Q mc ms K (26, l, a, b, d, h, n, e, z, w) L (.int x :: st) S I J r cu su = (xsw nx L st S I J r cu su x (xswt b).2 (xswt b).1) := rfl
theorem o_27_0 {sc : Nat × (Nat → Int32)} {cl : XC} {nx : XN} {Q : XQ} {mc ms : Nat} {K : XK} {l a b h n e : Nat} {z : Int32} {w : Int64} {L st : XV} {S : XS} {I : XI} {J : XJ} {r : XR} {cu su : Nat} {x : Int32} : xst sc cl nx Q mc ms K (27, l, a, b, 0, h, n, e, z, w) L ([.int x]) S I J r cu su = (Q (some (.int x)) S I J r) := rfl
theorem o_27_1 {sc : Nat × (Nat → Int32)} {cl : XC} {nx : XN} {Q : XQ} {mc ms : Nat} {K : XK} {l a b h n e : Nat} {z : Int32} {w : Int64} {L st : XV} {S : XS} {I : XI} {J : XJ} {r : XR} {cu su : Nat} {x : Int32} : xst sc cl nx Q mc ms K (27, l, a, b, 1, h, n, e, z, w) L ([.int x]) S I J r cu su = ((x = 0 ∨ x = 1) ∧ Q (some (.int x)) S I J r) := rfl
theorem o_27_2 {sc : Nat × (Nat → Int32)} {cl : XC} {nx : XN} {Q : XQ} {mc ms : Nat} {K : XK} {l a b h n e : Nat} {z : Int32} {w : Int64} {L st : XV} {S : XS} {I : XI} {J : XJ} {r : XR} {cu su : Nat} {x : Int64} : xst sc cl nx Q mc ms K (27, l, a, b, 2, h, n, e, z, w) L ([.long x]) S I J r cu su = (Q (some (.long x)) S I J r) := rfl
theorem o_27_3 {sc : Nat × (Nat → Int32)} {cl : XC} {nx : XN} {Q : XQ} {mc ms : Nat} {K : XK} {l a b h n e : Nat} {z : Int32} {w : Int64} {L st : XV} {S : XS} {I : XI} {J : XJ} {r : XR} {cu su : Nat}  : xst sc cl nx Q mc ms K (27, l, a, b, 3, h, n, e, z, w) L ([]) S I J r cu su = (Q none S I J r) := rfl
theorem o_27_4 {sc : Nat × (Nat → Int32)} {cl : XC} {nx : XN} {Q : XQ} {mc ms : Nat} {K : XK} {l a b h n e : Nat} {z : Int32} {w : Int64} {L st : XV} {S : XS} {I : XI} {J : XJ} {r : XR} {cu su : Nat} {x : Int32} : xst sc cl nx Q mc ms K (27, l, a, b, 4, h, n, e, z, w) L ([.int x]) S I J r cu su = (x.toInt8.toInt32 = x ∧ Q (some (.int x)) S I J r) := rfl
theorem o_27_5 {sc : Nat × (Nat → Int32)} {cl : XC} {nx : XN} {Q : XQ} {mc ms : Nat} {K : XK} {l a b h n e : Nat} {z : Int32} {w : Int64} {L st : XV} {S : XS} {I : XI} {J : XJ} {r : XR} {cu su : Nat} {x : Int32} : xst sc cl nx Q mc ms K (27, l, a, b, 5, h, n, e, z, w) L ([.int x]) S I J r cu su = (x.toUInt32.toUInt16.toUInt32.toInt32 = x ∧ Q (some (.int x)) S I J r) := rfl
theorem o_28 {sc : Nat × (Nat → Int32)} {cl : XC} {nx : XN} {Q : XQ} {mc ms : Nat} {K : XK} {l a b d h n e : Nat} {z : Int32} {w : Int64} {L st : XV} {S : XS} {I : XI} {J : XJ} {r : XR} {cu su : Nat} : xst sc cl nx Q mc ms K (28, l, a, b, d, h, n, e, z, w) L st S I J r cu su = (cu + 1 ≤ mc ∧ su + nfc b ≤ ms ∧ K L (.ref S.length :: st) (S ++ [(b, 0)]) (fun q k => if q = S.length then 0 else I q k) (fun q k => if q = S.length then 0 else J q k) (fun q k => if q = S.length then none else r q k) (cu + 1) (su + nfc b)) := rfl
theorem o_29 {sc : Nat × (Nat → Int32)} {cl : XC} {nx : XN} {Q : XQ} {mc ms : Nat} {K : XK} {l a b d h n0 e : Nat} {z : Int32} {w : Int64} {L st : XV} {S : XS} {I : XI} {J : XJ} {r : XR} {cu su : Nat} {n : Int32} : xst sc cl nx Q mc ms K (29, l, a, b, d, h, n0, e, z, w) L (.int n :: st) S I J r cu su = (0 ≤ n ∧ n.toNatClampNeg ≤ 4000 ∧ cu + 1 ≤ mc ∧ su + n.toNatClampNeg ≤ ms ∧ K L (.ref S.length :: st) (S ++ [(b, n.toNatClampNeg)]) (fun q k => if q = S.length then 0 else I q k) (fun q k => if q = S.length then 0 else J q k) (fun q k => if q = S.length then none else r q k) (cu + 1) (su + n.toNatClampNeg)) := rfl
theorem o_30 {sc : Nat × (Nat → Int32)} {cl : XC} {nx : XN} {Q : XQ} {mc ms : Nat} {K : XK} {l a b d h n0 e : Nat} {z : Int32} {w : Int64} {L st : XV} {S : XS} {I : XI} {J : XJ} {r : XR} {cu su : Nat} {n : Int32} : xst sc cl nx Q mc ms K (30, l, a, b, d, h, n0, e, z, w) L (.int n :: st) S I J r cu su = (0 ≤ n ∧ n.toNatClampNeg ≤ 4000 ∧ cu + 1 ≤ mc ∧ su + n.toNatClampNeg ≤ ms ∧ K L (.ref S.length :: st) (S ++ [(103, n.toNatClampNeg)]) (fun q k => if q = S.length then 0 else I q k) (fun q k => if q = S.length then 0 else J q k) (fun q k => if q = S.length then none else r q k) (cu + 1) (su + n.toNatClampNeg)) := rfl
theorem o_31 {sc : Nat × (Nat → Int32)} {cl : XC} {nx : XN} {Q : XQ} {mc ms : Nat} {K : XK} {l a b d h n0 e : Nat} {z : Int32} {w : Int64} {L st : XV} {S : XS} {I : XI} {J : XJ} {r : XR} {cu su : Nat} {k : Int32} {n : Int32} : xst sc cl nx Q mc ms K (31, l, a, b, d, h, n0, e, z, w) L (.int k :: .int n :: st) S I J r cu su = ((∃ q n1 : Nat, S[q]? = some (101, n1)) ∧ n = 4 ∧ k = 60 ∧ cu + 5 ≤ mc ∧ su + 244 ≤ ms ∧ K L (.ref S.length :: st) (S ++ [(104, 4), (101, 60), (101, 60), (101, 60), (101, 60)]) (fun q k => if S.length ≤ q then 0 else I q k) (fun q k => if S.length ≤ q then 0 else J q k) (fun q k => if q = S.length then (if k < 4 then some (S.length + 1 + k) else none) else if S.length < q then none else r q k) (cu + 5) (su + 244)) := rfl
theorem o_32 {sc : Nat × (Nat → Int32)} {cl : XC} {nx : XN} {Q : XQ} {mc ms : Nat} {K : XK} {l a b d h n e : Nat} {z : Int32} {w : Int64} {L st : XV} {S : XS} {I : XI} {J : XJ} {r : XR} {cu su : Nat} {q : Nat} : xst sc cl nx Q mc ms K (32, l, a, b, d, h, n, e, z, w) L (.ref q :: st) S I J r cu su = (∃ t n : Nat, S[q]? = some (t, n) ∧ 100 ≤ t ∧ K L (.int (nI n) :: st) S I J r cu su) := rfl
theorem o_33 {sc : Nat × (Nat → Int32)} {cl : XC} {nx : XN} {Q : XQ} {mc ms : Nat} {K : XK} {l a b d h n e : Nat} {z : Int32} {w : Int64} {L st : XV} {S : XS} {I : XI} {J : XJ} {r : XR} {cu su : Nat} {i : Int32} {q : Nat} : xst sc cl nx Q mc ms K (33, l, a, b, d, h, n, e, z, w) L (.int i :: .ref q :: st) S I J r cu su = (∃ n : Nat, S[q]? = some (100, n) ∧ vp_in i n ∧ K L (.int (I q i.toNatClampNeg) :: st) S I J r cu su) := rfl
theorem o_34 {sc : Nat × (Nat → Int32)} {cl : XC} {nx : XN} {Q : XQ} {mc ms : Nat} {K : XK} {l a b d h n e : Nat} {z : Int32} {w : Int64} {L st : XV} {S : XS} {I : XI} {J : XJ} {r : XR} {cu su : Nat} {x : Int32} {i : Int32} {q : Nat} : xst sc cl nx Q mc ms K (34, l, a, b, d, h, n, e, z, w) L (.int x :: .int i :: .ref q :: st) S I J r cu su = (∃ n : Nat, S[q]? = some (100, n) ∧ vp_in i n ∧ K L st S (up2 I q i.toNatClampNeg x) J r cu su) := rfl
theorem o_35 {sc : Nat × (Nat → Int32)} {cl : XC} {nx : XN} {Q : XQ} {mc ms : Nat} {K : XK} {l a b d h n e : Nat} {z : Int32} {w : Int64} {L st : XV} {S : XS} {I : XI} {J : XJ} {r : XR} {cu su : Nat} {i : Int32} {q : Nat} : xst sc cl nx Q mc ms K (35, l, a, b, d, h, n, e, z, w) L (.int i :: .ref q :: st) S I J r cu su = (∃ n : Nat, S[q]? = some (101, n) ∧ vp_in i n ∧ K L (.long (J q i.toNatClampNeg) :: st) S I J r cu su) := rfl
theorem o_36 {sc : Nat × (Nat → Int32)} {cl : XC} {nx : XN} {Q : XQ} {mc ms : Nat} {K : XK} {l a b d h n e : Nat} {z : Int32} {w : Int64} {L st : XV} {S : XS} {I : XI} {J : XJ} {r : XR} {cu su : Nat} {x : Int64} {i : Int32} {q : Nat} : xst sc cl nx Q mc ms K (36, l, a, b, d, h, n, e, z, w) L (.long x :: .int i :: .ref q :: st) S I J r cu su = (∃ n : Nat, S[q]? = some (101, n) ∧ vp_in i n ∧ K L st S I (up2 J q i.toNatClampNeg x) r cu su) := rfl
theorem o_37 {sc : Nat × (Nat → Int32)} {cl : XC} {nx : XN} {Q : XQ} {mc ms : Nat} {K : XK} {l a b d h n e : Nat} {z : Int32} {w : Int64} {L st : XV} {S : XS} {I : XI} {J : XJ} {r : XR} {cu su : Nat} {i : Int32} {q : Nat} : xst sc cl nx Q mc ms K (37, l, a, b, d, h, n, e, z, w) L (.int i :: .ref q :: st) S I J r cu su = (∃ n : Nat, S[q]? = some (102, n) ∧ vp_in i n ∧ K L (.int (I q i.toNatClampNeg) :: st) S I J r cu su) := rfl
theorem o_38 {sc : Nat × (Nat → Int32)} {cl : XC} {nx : XN} {Q : XQ} {mc ms : Nat} {K : XK} {l a b d h n e : Nat} {z : Int32} {w : Int64} {L st : XV} {S : XS} {I : XI} {J : XJ} {r : XR} {cu su : Nat} {x : Int32} {i : Int32} {q : Nat} : xst sc cl nx Q mc ms K (38, l, a, b, d, h, n, e, z, w) L (.int x :: .int i :: .ref q :: st) S I J r cu su = (∃ n : Nat, S[q]? = some (102, n) ∧ vp_in i n ∧ K L st S (up2 I q i.toNatClampNeg x.toInt8.toInt32) J r cu su) := rfl
theorem o_39 {sc : Nat × (Nat → Int32)} {cl : XC} {nx : XN} {Q : XQ} {mc ms : Nat} {K : XK} {l a b d h n e : Nat} {z : Int32} {w : Int64} {L st : XV} {S : XS} {I : XI} {J : XJ} {r : XR} {cu su : Nat} {i : Int32} {q : Nat} : xst sc cl nx Q mc ms K (39, l, a, b, d, h, n, e, z, w) L (.int i :: .ref q :: st) S I J r cu su = (∃ t n : Nat, S[q]? = some (t, n) ∧ 103 ≤ t ∧ vp_in i n ∧ K L (va_rf (r q i.toNatClampNeg) :: st) S I J r cu su) := rfl
theorem o_40 {sc : Nat × (Nat → Int32)} {cl : XC} {nx : XN} {Q : XQ} {mc ms : Nat} {K : XK} {l a b d h n e : Nat} {z : Int32} {w : Int64} {L st : XV} {S : XS} {I : XI} {J : XJ} {r : XR} {cu su : Nat} {v : Nat} {i : Int32} {q : Nat} : xst sc cl nx Q mc ms K (40, l, a, b, d, h, n, e, z, w) L (.ref v :: .int i :: .ref q :: st) S I J r cu su = (∃ n : Nat, S[q]? = some (103, n) ∧ S[v]? = some (0, 0) ∧ vp_in i n ∧ K L st S I J (up2 r q i.toNatClampNeg (some v)) cu su) := rfl
theorem o_42 {sc : Nat × (Nat → Int32)} {cl : XC} {nx : XN} {Q : XQ} {mc ms : Nat} {K : XK} {l a b d h n e : Nat} {z : Int32} {w : Int64} {L st : XV} {S : XS} {I : XI} {J : XJ} {r : XR} {cu su : Nat} {q : Nat} : xst sc cl nx Q mc ms K (42, l, a, b, d, h, n, e, z, w) L (.ref q :: st) S I J r cu su = (S[q]? = some (b, 0) ∧ K L (.int (I q d) :: st) S I J r cu su) := rfl
theorem o_43 {sc : Nat × (Nat → Int32)} {cl : XC} {nx : XN} {Q : XQ} {mc ms : Nat} {K : XK} {l a b d h n e : Nat} {z : Int32} {w : Int64} {L st : XV} {S : XS} {I : XI} {J : XJ} {r : XR} {cu su : Nat} {q : Nat} : xst sc cl nx Q mc ms K (43, l, a, b, d, h, n, e, z, w) L (.ref q :: st) S I J r cu su = (S[q]? = some (b, 0) ∧ K L (.long (J q d) :: st) S I J r cu su) := rfl
theorem o_44 {sc : Nat × (Nat → Int32)} {cl : XC} {nx : XN} {Q : XQ} {mc ms : Nat} {K : XK} {l a b d h n e : Nat} {z : Int32} {w : Int64} {L st : XV} {S : XS} {I : XI} {J : XJ} {r : XR} {cu su : Nat} {q : Nat} : xst sc cl nx Q mc ms K (44, l, a, b, d, h, n, e, z, w) L (.ref q :: st) S I J r cu su = (S[q]? = some (b, 0) ∧ K L (va_rf (r q d) :: st) S I J r cu su) := rfl
theorem o_45 {sc : Nat × (Nat → Int32)} {cl : XC} {nx : XN} {Q : XQ} {mc ms : Nat} {K : XK} {l a b d h n e : Nat} {z : Int32} {w : Int64} {L st : XV} {S : XS} {I : XI} {J : XJ} {r : XR} {cu su : Nat} {x : Int32} {q : Nat} : xst sc cl nx Q mc ms K (45, l, a, b, d, h, n, e, z, w) L (.int x :: .ref q :: st) S I J r cu su = (S[q]? = some (b, 0) ∧ K L st S (up2 I q d x) J r cu su) := rfl
theorem o_46 {sc : Nat × (Nat → Int32)} {cl : XC} {nx : XN} {Q : XQ} {mc ms : Nat} {K : XK} {l a b d h n e : Nat} {z : Int32} {w : Int64} {L st : XV} {S : XS} {I : XI} {J : XJ} {r : XR} {cu su : Nat} {x : Int64} {q : Nat} : xst sc cl nx Q mc ms K (46, l, a, b, d, h, n, e, z, w) L (.long x :: .ref q :: st) S I J r cu su = (S[q]? = some (b, 0) ∧ K L st S I (up2 J q d x) r cu su) := rfl
theorem o_47 {sc : Nat × (Nat → Int32)} {cl : XC} {nx : XN} {Q : XQ} {mc ms : Nat} {K : XK} {l a b d h n e : Nat} {z : Int32} {w : Int64} {L st : XV} {S : XS} {I : XI} {J : XJ} {r : XR} {cu su : Nat} {x : Nat} {q : Nat} : xst sc cl nx Q mc ms K (47, l, a, b, d, h, n, e, z, w) L (.ref x :: .ref q :: st) S I J r cu su = (S[q]? = some (b, 0) ∧ K L st S I J (up2 r q d (some x)) cu su) := rfl
theorem o_48 {sc : Nat × (Nat → Int32)} {cl : XC} {nx : XN} {Q : XQ} {mc ms : Nat} {K : XK} {l a b d h n e : Nat} {z : Int32} {w : Int64} {L st : XV} {S : XS} {I : XI} {J : XJ} {r : XR} {cu su : Nat} : xst sc cl nx Q mc ms K (48, l, a, b, d, h, n, e, z, w) L st S I J r cu su = (n ≤ st.length ∧ xsz (st.drop n) ≤ 8 ∧ (d = 1 ∨ ∃ (q : Nat) (As : XV), (st.take n).reverse = .ref q :: As ∧ S[q]? = some (e, 0)) ∧
        cl b (st.take n).reverse S I J r (fun v S I J r => K L (v.toList ++ st.drop n) S I J r cu su)) := rfl
theorem o_49 {sc : Nat × (Nat → Int32)} {cl : XC} {nx : XN} {Q : XQ} {mc ms : Nat} {K : XK} {l a b d h n e : Nat} {z : Int32} {w : Int64} {L st : XV} {S : XS} {I : XI} {J : XJ} {r : XR} {cu su : Nat} {q : Nat} : xst sc cl nx Q mc ms K (49, l, a, b, d, h, n, e, z, w) L (.ref q :: st) S I J r cu su = (xsz st ≤ 8 ∧ K L st S I J r cu su) := rfl
theorem o_50 {sc : Nat × (Nat → Int32)} {cl : XC} {nx : XN} {Q : XQ} {mc ms : Nat} {K : XK} {l a b d h n0 e : Nat} {z : Int32} {w : Int64} {L st : XV} {S : XS} {I : XI} {J : XJ} {r : XR} {cu su : Nat} {n : Int32} {dp : Int32} {q1 : Nat} {sp : Int32} {q0 : Nat} : xst sc cl nx Q mc ms K (50, l, a, b, d, h, n0, e, z, w) L (.int n :: .int dp :: .ref q1 :: .int sp :: .ref q0 :: st) S I J r cu su = (xsz st ≤ 8 ∧ ∃ n0 n1 : Nat, S[q0]? = some (100 + d, n0) ∧ S[q1]? = some (100 + d, n1) ∧ 0 ≤ sp ∧ 0 ≤ dp ∧ 0 ≤ n ∧ sp.toNatClampNeg + n.toNatClampNeg ≤ n0 ∧ dp.toNatClampNeg + n.toNatClampNeg ≤ n1 ∧
          K L st S (if d = 1 then I else cp2 I q0 sp.toNatClampNeg q1 dp.toNatClampNeg n.toNatClampNeg) (if d = 1 then cp2 J q0 sp.toNatClampNeg q1 dp.toNatClampNeg n.toNatClampNeg else J) r cu su) := rfl
theorem o_51 {sc : Nat × (Nat → Int32)} {cl : XC} {nx : XN} {Q : XQ} {mc ms : Nat} {K : XK} {l a b d h n e : Nat} {z : Int32} {w : Int64} {L st : XV} {S : XS} {I : XI} {J : XJ} {r : XR} {cu su : Nat} {i : Nat} : xst sc cl nx Q mc ms K (51, l, a, b, d, h, n, e, z, w) L (.retAddr i :: st) S I J r cu su = (i < 29 ∧ K L (.retAddr (1000 + i) :: st) S I J r cu su) := rfl
theorem o_52 {sc : Nat × (Nat → Int32)} {cl : XC} {nx : XN} {Q : XQ} {mc ms : Nat} {K : XK} {l a b d h n e : Nat} {z : Int32} {w : Int64} {L st : XV} {S : XS} {I : XI} {J : XJ} {r : XR} {cu su : Nat} {i : Nat} : xst sc cl nx Q mc ms K (52, l, a, b, d, h, n, e, z, w) L (.retAddr i :: st) S I J r cu su = (i < 29 ∧ K L (.int 0 :: st) S I J r cu su) := rfl
theorem o_53 {sc : Nat × (Nat → Int32)} {cl : XC} {nx : XN} {Q : XQ} {mc ms : Nat} {K : XK} {l a b d h n e : Nat} {z : Int32} {w : Int64} {L st : XV} {S : XS} {I : XI} {J : XJ} {r : XR} {cu su : Nat} {i : Nat} : xst sc cl nx Q mc ms K (53, l, a, b, d, h, n, e, z, w) L (.retAddr i :: st) S I J r cu su = (i = 3000 ∧ K L (.int (nI sc.1) :: st) S I J r cu su) := rfl
theorem o_54 {sc : Nat × (Nat → Int32)} {cl : XC} {nx : XN} {Q : XQ} {mc ms : Nat} {K : XK} {l a b d h n e : Nat} {z : Int32} {w : Int64} {L st : XV} {S : XS} {I : XI} {J : XJ} {r : XR} {cu su : Nat} {j : Int32} {i : Nat} : xst sc cl nx Q mc ms K (54, l, a, b, d, h, n, e, z, w) L (.int j :: .retAddr i :: st) S I J r cu su = (i = 3000 ∧ vp_in j sc.1 ∧ K L (.int (sc.2 j.toNatClampNeg) :: st) S I J r cu su) := rfl
theorem o_55 {sc : Nat × (Nat → Int32)} {cl : XC} {nx : XN} {Q : XQ} {mc ms : Nat} {K : XK} {l a b d h n e : Nat} {z : Int32} {w : Int64} {L st : XV} {S : XS} {I : XI} {J : XJ} {r : XR} {cu su : Nat} : xst sc cl nx Q mc ms K (55, l, a, b, d, h, n, e, z, w) L st S I J r cu su = (cu + mck b ≤ mc ∧ su + msk b ≤ ms ∧ n ≤ st.length ∧ xsz (st.drop n) ≤ 8 ∧ (d = 1 ∨ ∃ (q : Nat) (As : XV), (st.take n).reverse = .ref q :: As ∧ S[q]? = some (e, 0)) ∧
        cl b (st.take n).reverse S I J r (fun v S I J r => K L (v.toList ++ st.drop n) S I J r (cu + mck b) (su + msk b))) := rfl
theorem o_56 {sc : Nat × (Nat → Int32)} {cl : XC} {nx : XN} {Q : XQ} {mc ms : Nat} {K : XK} {l a b d h n e : Nat} {z : Int32} {w : Int64} {L st : XV} {S : XS} {I : XI} {J : XJ} {r : XR} {cu su : Nat} {i : Nat} : xst sc cl nx Q mc ms K (56, l, a, b, d, h, n, e, z, w) L (.retAddr i :: st) S I J r cu su = (1000 ≤ i ∧ i < 1029 ∧ K L (.int (nI (strLen (i - 1000))) :: st) S I J r cu su) := rfl
theorem o_57 {sc : Nat × (Nat → Int32)} {cl : XC} {nx : XN} {Q : XQ} {mc ms : Nat} {K : XK} {l a b d h n e : Nat} {z : Int32} {w : Int64} {L st : XV} {S : XS} {I : XI} {J : XJ} {r : XR} {cu su : Nat} {j : Int32} {i : Nat} : xst sc cl nx Q mc ms K (57, l, a, b, d, h, n, e, z, w) L (.int j :: .retAddr i :: st) S I J r cu su = (1000 ≤ i ∧ i < 1029 ∧ vp_in j (strLen (i - 1000)) ∧ K L (.int (strAt (i - 1000) j.toNatClampNeg) :: st) S I J r cu su) := rfl
theorem o_58 {sc : Nat × (Nat → Int32)} {cl : XC} {nx : XN} {Q : XQ} {mc ms : Nat} {K : XK} {l a b d h n e : Nat} {z : Int32} {w : Int64} {L st : XV} {S : XS} {I : XI} {J : XJ} {r : XR} {cu su : Nat} : xst sc cl nx Q mc ms K (58, l, a, b, d, h, n, e, z, w) L st S I J r cu su = (K L (.int 1 :: st) S I J r cu su) := rfl
theorem o_59 {sc : Nat × (Nat → Int32)} {cl : XC} {nx : XN} {Q : XQ} {mc ms : Nat} {K : XK} {l a b d h n e : Nat} {z : Int32} {w : Int64} {L st : XV} {S : XS} {I : XI} {J : XJ} {r : XR} {cu su : Nat} : xst sc cl nx Q mc ms K (59, l, a, b, d, h, n, e, z, w) L st S I J r cu su = (K L (.retAddr 2000 :: st) S I J r cu su) := rfl
theorem o_60 {sc : Nat × (Nat → Int32)} {cl : XC} {nx : XN} {Q : XQ} {mc ms : Nat} {K : XK} {l a b d h n e : Nat} {z : Int32} {w : Int64} {L st : XV} {S : XS} {I : XI} {J : XJ} {r : XR} {cu su : Nat} : xst sc cl nx Q mc ms K (60, l, a, b, d, h, n, e, z, w) L st S I J r cu su = (n ≤ st.length ∧ xsz (st.drop n) ≤ 8 ∧ (∃ (i : Nat) (As : XV), (st.take n).reverse = .retAddr i :: As ∧ i < 29) ∧
        cl b (st.take n).reverse S I J r (fun v S I J r => K L (v.toList ++ st.drop n) S I J r cu su)) := rfl
theorem o_61 {sc : Nat × (Nat → Int32)} {cl : XC} {nx : XN} {Q : XQ} {mc ms : Nat} {K : XK} {l a b d h n e : Nat} {z : Int32} {w : Int64} {L st : XV} {S : XS} {I : XI} {J : XJ} {r : XR} {cu su : Nat} {x : Int32} {q : Nat} : xst sc cl nx Q mc ms K (61, l, a, b, d, h, n, e, z, w) L (.int x :: .ref q :: st) S I J r cu su = ((x = 0 ∨ x = 1) ∧ S[q]? = some (b, 0) ∧ K L st S (up2 I q d x) J r cu su) := rfl
end
section
def q0_0 : List XO := [(6, 1, 0, 0, 0, 0, 0, 0, 0, 0), (49, 3, 3, 0, 0, 164, 0, 0, 0, 0), (6, 1, 0, 0, 0, 0, 0, 0, 0, 0), (28, 3, 9, 2, 0, 167, 0, 0, 0, 0), (19, 1, 0, 0, 0, 0, 0, 0, 0, 0), (55, 3, 11, 2, 3, 169, 1, 2, 0, 0),
  (47, 3, 12, 9, 0, 516, 0, 0, 0, 0), (6, 1, 0, 0, 0, 0, 0, 0, 0, 0), (28, 3, 16, 6, 0, 186, 0, 0, 0, 0), (19, 1, 0, 0, 0, 0, 0, 0, 0, 0), (55, 3, 18, 3, 3, 188, 1, 6, 0, 0), (47, 3, 19, 9, 1, 517, 0, 0, 0, 0),
  (6, 1, 0, 0, 0, 0, 0, 0, 0, 0), (0, 3, 0, 0, 2, 0, 0, 0, 900, 0), (29, 2, 8, 102, 0, 0, 0, 0, 0, 0), (47, 3, 23, 9, 2, 518, 0, 0, 0, 0), (6, 1, 0, 0, 0, 0, 0, 0, 0, 0), (28, 3, 27, 1, 0, 206, 0, 0, 0, 0),
  (19, 1, 0, 0, 0, 0, 0, 0, 0, 0), (55, 3, 29, 4, 3, 208, 1, 1, 0, 0), (47, 3, 30, 9, 3, 519, 0, 0, 0, 0), (6, 1, 0, 0, 0, 0, 0, 0, 0, 0), (28, 3, 34, 8, 0, 270, 0, 0, 0, 0), (19, 1, 0, 0, 0, 0, 0, 0, 0, 0),
  (55, 3, 36, 6, 3, 272, 1, 8, 0, 0), (47, 3, 37, 9, 4, 520, 0, 0, 0, 0), (6, 1, 0, 0, 0, 0, 0, 0, 0, 0), (28, 3, 41, 4, 0, 289, 0, 0, 0, 0), (19, 1, 0, 0, 0, 0, 0, 0, 0, 0), (55, 3, 43, 7, 3, 291, 1, 4, 0, 0),
  (47, 3, 44, 9, 5, 521, 0, 0, 0, 0), (6, 1, 0, 0, 0, 0, 0, 0, 0, 0), (28, 3, 48, 3, 0, 316, 0, 0, 0, 0), (19, 1, 0, 0, 0, 0, 0, 0, 0, 0), (55, 3, 50, 8, 3, 318, 1, 3, 0, 0), (47, 3, 51, 9, 6, 522, 0, 0, 0, 0),
  (6, 1, 0, 0, 0, 0, 0, 0, 0, 0), (0, 1, 0, 0, 0, 0, 0, 0, 5, 0), (29, 2, 10, 100, 0, 0, 0, 0, 0, 0), (47, 3, 55, 9, 7, 523, 0, 0, 0, 0), (6, 1, 0, 0, 0, 0, 0, 0, 0, 0), (28, 3, 59, 0, 0, 358, 0, 0, 0, 0),
  (19, 1, 0, 0, 0, 0, 0, 0, 0, 0), (55, 3, 61, 9, 2, 360, 1, 0, 0, 0), (47, 3, 62, 9, 8, 524, 0, 0, 0, 0), (6, 1, 0, 0, 0, 0, 0, 0, 0, 0), (28, 3, 59, 0, 0, 358, 0, 0, 0, 0), (19, 1, 0, 0, 0, 0, 0, 0, 0, 0),
  (55, 3, 61, 9, 2, 360, 1, 0, 0, 0), (47, 3, 66, 9, 9, 525, 0, 0, 0, 0), (6, 1, 0, 0, 0, 0, 0, 0, 0, 0), (0, 1, 0, 0, 0, 0, 0, 0, 3, 0), (30, 3, 59, 0, 0, 358, 0, 0, 0, 0), (47, 3, 69, 9, 10, 526, 0, 0, 0, 0),
  (6, 1, 0, 0, 0, 0, 0, 0, 0, 0), (0, 1, 0, 0, 0, 0, 0, 0, (-1), 0), (45, 3, 73, 9, 14, 530, 0, 0, 0, 0), (6, 1, 0, 0, 0, 0, 0, 0, 0, 0), (0, 1, 0, 0, 0, 0, 0, 0, (-1), 0), (45, 3, 77, 9, 15, 531, 0, 0, 0, 0),
  (27, 1, 0, 0, 3, 0, 0, 0, 0, 0)]
def xt0 : List (Nat × List XO) := [(0, q0_0)]
def q2_0 : List XO := [(6, 1, 0, 0, 0, 0, 0, 0, 0, 0), (49, 3, 3, 0, 0, 172, 0, 0, 0, 0), (6, 1, 0, 0, 0, 0, 0, 0, 0, 0), (1, 1, 0, 0, 0, 0, 0, 0, 0, 0), (46, 3, 9, 2, 0, 173, 0, 0, 0, 0), (6, 1, 0, 0, 0, 0, 0, 0, 0, 0),
  (1, 1, 0, 0, 0, 0, 0, 0, 0, 1), (46, 3, 15, 2, 1, 175, 0, 0, 0, 0), (6, 1, 0, 0, 0, 0, 0, 0, 0, 0), (0, 2, 0, 0, 1, 0, 0, 0, 16, 0), (29, 2, 11, 101, 0, 0, 0, 0, 0, 0), (47, 3, 18, 2, 2, 177, 0, 0, 0, 0),
  (27, 1, 0, 0, 3, 0, 0, 0, 0, 0)]
def xt2 : List (Nat × List XO) := [(0, q2_0)]
def q3_0 : List XO := [(6, 1, 0, 0, 0, 0, 0, 0, 0, 0), (49, 3, 3, 0, 0, 191, 0, 0, 0, 0), (6, 1, 0, 0, 0, 0, 0, 0, 0, 0), (0, 1, 0, 0, 0, 0, 0, 0, 4, 0), (0, 2, 0, 0, 1, 0, 0, 0, 60, 0), (31, 4, 9, 0, 0, 192, 0, 0, 0, 0),
  (47, 3, 11, 6, 0, 194, 0, 0, 0, 0), (6, 1, 0, 0, 0, 0, 0, 0, 0, 0), (0, 1, 0, 0, 0, 0, 0, 0, 4, 0), (29, 2, 10, 100, 0, 0, 0, 0, 0, 0), (47, 3, 16, 6, 1, 196, 0, 0, 0, 0), (6, 1, 0, 0, 0, 0, 0, 0, 0, 0),
  (0, 1, 0, 0, 0, 0, 0, 0, 4, 0), (29, 2, 10, 100, 0, 0, 0, 0, 0, 0), (19, 1, 0, 0, 0, 0, 0, 0, 0, 0), (0, 1, 0, 0, 0, 0, 0, 0, 0, 0), (0, 1, 0, 0, 0, 0, 0, 0, (-1), 0), (34, 1, 0, 0, 0, 0, 0, 0, 0, 0),
  (19, 1, 0, 0, 0, 0, 0, 0, 0, 0), (0, 1, 0, 0, 0, 0, 0, 0, 1, 0), (0, 1, 0, 0, 0, 0, 0, 0, (-1), 0), (34, 1, 0, 0, 0, 0, 0, 0, 0, 0), (19, 1, 0, 0, 0, 0, 0, 0, 0, 0), (0, 1, 0, 0, 0, 0, 0, 0, 2, 0),
  (0, 1, 0, 0, 0, 0, 0, 0, (-1), 0), (34, 1, 0, 0, 0, 0, 0, 0, 0, 0), (19, 1, 0, 0, 0, 0, 0, 0, 0, 0), (0, 1, 0, 0, 0, 0, 0, 0, 3, 0), (0, 1, 0, 0, 0, 0, 0, 0, (-1), 0), (34, 1, 0, 0, 0, 0, 0, 0, 0, 0),
  (47, 3, 20, 6, 2, 197, 0, 0, 0, 0), (27, 1, 0, 0, 3, 0, 0, 0, 0, 0)]
def xt3 : List (Nat × List XO) := [(0, q3_0)]
def q4_0 : List XO := [(6, 1, 0, 0, 0, 0, 0, 0, 0, 0), (49, 3, 3, 0, 0, 211, 0, 0, 0, 0), (6, 1, 0, 0, 0, 0, 0, 0, 0, 0), (28, 3, 9, 5, 0, 212, 0, 0, 0, 0), (19, 1, 0, 0, 0, 0, 0, 0, 0, 0), (55, 3, 11, 5, 3, 214, 1, 5, 0, 0),
  (47, 3, 12, 1, 0, 259, 0, 0, 0, 0), (27, 1, 0, 0, 3, 0, 0, 0, 0, 0)]
def xt4 : List (Nat × List XO) := [(0, q4_0)]
def q5_0 : List XO := [(6, 1, 0, 0, 0, 0, 0, 0, 0, 0), (49, 3, 3, 0, 0, 217, 0, 0, 0, 0), (6, 1, 0, 0, 0, 0, 0, 0, 0, 0), (0, 3, 0, 0, 2, 0, 0, 0, 900, 0), (29, 2, 8, 102, 0, 0, 0, 0, 0, 0), (47, 3, 9, 5, 0, 218, 0, 0, 0, 0),
  (27, 1, 0, 0, 3, 0, 0, 0, 0, 0)]
def xt5 : List (Nat × List XO) := [(0, q5_0)]
def q6_0 : List XO := [(6, 1, 0, 0, 0, 0, 0, 0, 0, 0), (49, 3, 3, 0, 0, 275, 0, 0, 0, 0), (6, 1, 0, 0, 0, 0, 0, 0, 0, 0), (28, 3, 9, 5, 0, 276, 0, 0, 0, 0), (19, 1, 0, 0, 0, 0, 0, 0, 0, 0), (55, 3, 11, 5, 3, 277, 1, 5, 0, 0),
  (47, 3, 12, 8, 0, 278, 0, 0, 0, 0), (6, 1, 0, 0, 0, 0, 0, 0, 0, 0), (0, 1, 0, 0, 0, 0, 0, 0, 3, 0), (29, 2, 10, 100, 0, 0, 0, 0, 0, 0), (47, 3, 18, 8, 1, 280, 0, 0, 0, 0), (27, 1, 0, 0, 3, 0, 0, 0, 0, 0)]
def xt6 : List (Nat × List XO) := [(0, q6_0)]
def q7_0 : List XO := [(6, 1, 0, 0, 0, 0, 0, 0, 0, 0), (49, 3, 3, 0, 0, 294, 0, 0, 0, 0), (6, 1, 0, 0, 0, 0, 0, 0, 0, 0), (0, 2, 0, 0, 1, 0, 0, 0, 30, 0), (29, 2, 10, 100, 0, 0, 0, 0, 0, 0), (47, 3, 9, 4, 0, 295, 0, 0, 0, 0),
  (6, 1, 0, 0, 0, 0, 0, 0, 0, 0), (0, 2, 0, 0, 1, 0, 0, 0, 31, 0), (29, 2, 10, 100, 0, 0, 0, 0, 0, 0), (47, 3, 15, 4, 2, 299, 0, 0, 0, 0), (27, 1, 0, 0, 3, 0, 0, 0, 0, 0)]
def xt7 : List (Nat × List XO) := [(0, q7_0)]
def q8_0 : List XO := [(6, 1, 0, 0, 0, 0, 0, 0, 0, 0), (49, 3, 3, 0, 0, 321, 0, 0, 0, 0), (6, 1, 0, 0, 0, 0, 0, 0, 0, 0), (28, 3, 9, 4, 0, 322, 0, 0, 0, 0), (19, 1, 0, 0, 0, 0, 0, 0, 0, 0), (55, 3, 11, 7, 3, 323, 1, 4, 0, 0),
  (47, 3, 12, 3, 0, 324, 0, 0, 0, 0), (6, 1, 0, 0, 0, 0, 0, 0, 0, 0), (0, 2, 0, 0, 1, 0, 0, 0, 60, 0), (29, 2, 10, 100, 0, 0, 0, 0, 0, 0), (47, 3, 18, 3, 1, 325, 0, 0, 0, 0), (27, 1, 0, 0, 3, 0, 0, 0, 0, 0)]
def xt8 : List (Nat × List XO) := [(0, q8_0)]
def q9_0 : List XO := [(6, 1, 0, 0, 0, 0, 0, 0, 0, 0), (49, 3, 3, 0, 0, 363, 0, 0, 0, 0), (6, 1, 0, 0, 0, 0, 0, 0, 0, 0), (0, 2, 0, 0, 1, 0, 0, 0, 15, 0), (29, 2, 10, 100, 0, 0, 0, 0, 0, 0), (47, 3, 9, 0, 4, 439, 0, 0, 0, 0),
  (6, 1, 0, 0, 0, 0, 0, 0, 0, 0), (0, 2, 0, 0, 1, 0, 0, 0, 15, 0), (29, 2, 10, 100, 0, 0, 0, 0, 0, 0), (47, 3, 15, 0, 5, 441, 0, 0, 0, 0), (6, 1, 0, 0, 0, 0, 0, 0, 0, 0), (0, 2, 0, 0, 1, 0, 0, 0, 11, 0),
  (29, 2, 10, 100, 0, 0, 0, 0, 0, 0), (47, 3, 18, 0, 6, 443, 0, 0, 0, 0), (6, 1, 0, 0, 0, 0, 0, 0, 0, 0), (0, 2, 0, 0, 1, 0, 0, 0, 6, 0), (29, 2, 11, 101, 0, 0, 0, 0, 0, 0), (47, 3, 21, 0, 8, 448, 0, 0, 0, 0),
  (6, 1, 0, 0, 0, 0, 0, 0, 0, 0), (0, 2, 0, 0, 1, 0, 0, 0, 6, 0), (29, 2, 10, 100, 0, 0, 0, 0, 0, 0), (47, 3, 25, 0, 9, 449, 0, 0, 0, 0), (6, 1, 0, 0, 0, 0, 0, 0, 0, 0), (0, 2, 0, 0, 1, 0, 0, 0, 6, 0),
  (29, 2, 10, 100, 0, 0, 0, 0, 0, 0), (47, 3, 28, 0, 10, 451, 0, 0, 0, 0), (6, 1, 0, 0, 0, 0, 0, 0, 0, 0), (0, 2, 0, 0, 1, 0, 0, 0, 6, 0), (29, 2, 10, 100, 0, 0, 0, 0, 0, 0), (47, 3, 31, 0, 11, 453, 0, 0, 0, 0),
  (6, 1, 0, 0, 0, 0, 0, 0, 0, 0), (0, 2, 0, 0, 1, 0, 0, 0, 6, 0), (29, 2, 10, 100, 0, 0, 0, 0, 0, 0), (47, 3, 34, 0, 12, 455, 0, 0, 0, 0), (6, 1, 0, 0, 0, 0, 0, 0, 0, 0), (0, 2, 0, 0, 1, 0, 0, 0, 6, 0),
  (29, 2, 10, 100, 0, 0, 0, 0, 0, 0), (47, 3, 37, 0, 13, 458, 0, 0, 0, 0), (6, 1, 0, 0, 0, 0, 0, 0, 0, 0), (0, 2, 0, 0, 1, 0, 0, 0, 6, 0), (29, 2, 10, 100, 0, 0, 0, 0, 0, 0), (47, 3, 40, 0, 14, 462, 0, 0, 0, 0),
  (6, 1, 0, 0, 0, 0, 0, 0, 0, 0), (28, 3, 43, 7, 0, 364, 0, 0, 0, 0), (19, 1, 0, 0, 0, 0, 0, 0, 0, 0), (55, 3, 45, 10, 3, 366, 1, 7, 0, 0), (47, 3, 46, 0, 18, 473, 0, 0, 0, 0), (6, 1, 0, 0, 0, 0, 0, 0, 0, 0),
  (48, 3, 50, 11, 0, 414, 1, 0, 0, 0), (27, 1, 0, 0, 3, 0, 0, 0, 0, 0)]
def xt9 : List (Nat × List XO) := [(0, q9_0)]
def q10_0 : List XO := [(6, 1, 0, 0, 0, 0, 0, 0, 0, 0), (49, 3, 3, 0, 0, 369, 0, 0, 0, 0), (6, 1, 0, 0, 0, 0, 0, 0, 0, 0), (0, 2, 0, 0, 1, 0, 0, 0, 60, 0), (29, 2, 10, 100, 0, 0, 0, 0, 0, 0), (47, 3, 9, 7, 3, 378, 0, 0, 0, 0),
  (6, 1, 0, 0, 0, 0, 0, 0, 0, 0), (0, 2, 0, 0, 1, 0, 0, 0, 60, 0), (29, 2, 10, 100, 0, 0, 0, 0, 0, 0), (47, 3, 15, 7, 4, 381, 0, 0, 0, 0), (6, 1, 0, 0, 0, 0, 0, 0, 0, 0), (0, 2, 0, 0, 1, 0, 0, 0, 60, 0),
  (29, 2, 10, 100, 0, 0, 0, 0, 0, 0), (47, 3, 18, 7, 5, 384, 0, 0, 0, 0), (6, 1, 0, 0, 0, 0, 0, 0, 0, 0), (0, 2, 0, 0, 1, 0, 0, 0, 60, 0), (29, 2, 10, 100, 0, 0, 0, 0, 0, 0), (47, 3, 21, 7, 6, 387, 0, 0, 0, 0),
  (6, 1, 0, 0, 0, 0, 0, 0, 0, 0), (0, 2, 0, 0, 1, 0, 0, 0, 60, 0), (29, 2, 10, 100, 0, 0, 0, 0, 0, 0), (47, 3, 24, 7, 7, 390, 0, 0, 0, 0), (6, 1, 0, 0, 0, 0, 0, 0, 0, 0), (0, 2, 0, 0, 1, 0, 0, 0, 60, 0),
  (29, 2, 10, 100, 0, 0, 0, 0, 0, 0), (47, 3, 27, 7, 8, 393, 0, 0, 0, 0), (27, 1, 0, 0, 3, 0, 0, 0, 0, 0)]
def xt10 : List (Nat × List XO) := [(0, q10_0)]
def q11_0 : List XO := [(6, 1, 0, 0, 0, 0, 0, 0, 0, 0), (0, 1, 0, 0, 0, 0, 0, 0, 5, 0), (45, 3, 53, 0, 0, 422, 0, 0, 0, 0), (6, 1, 0, 0, 0, 0, 0, 0, 0, 0), (0, 1, 0, 0, 0, 0, 0, 0, 4, 0), (45, 3, 57, 0, 1, 427, 0, 0, 0, 0),
  (6, 1, 0, 0, 0, 0, 0, 0, 0, 0), (0, 2, 0, 0, 1, 0, 0, 0, 8, 0), (45, 3, 60, 0, 2, 432, 0, 0, 0, 0), (6, 1, 0, 0, 0, 0, 0, 0, 0, 0), (0, 1, 0, 0, 0, 0, 0, 0, 0, 0), (45, 3, 63, 0, 3, 436, 0, 0, 0, 0),
  (0, 1, 0, 0, 0, 0, 0, 0, 0, 0), (7, 1, 1, 0, 0, 0, 0, 0, 0, 0), (24, 0, 23, 0, 1, 0, 0, 0, 0, 0)]
def q11_23 : List XO := [(4, 1, 1, 0, 0, 0, 0, 0, 0, 0), (6, 1, 0, 0, 0, 0, 0, 0, 0, 0), (44, 3, 18, 0, 6, 443, 0, 0, 0, 0), (32, 1, 0, 0, 0, 0, 0, 0, 0, 0), (23, 3, 45, 0, 3, 0, 0, 0, 0, 0), (6, 1, 0, 0, 0, 0, 0, 0, 0, 0),
  (44, 3, 18, 0, 6, 443, 0, 0, 0, 0), (4, 1, 1, 0, 0, 0, 0, 0, 0, 0), (0, 1, 0, 0, 0, 0, 0, 0, 0, 0), (34, 1, 0, 0, 0, 0, 0, 0, 0, 0), (10, 3, 1, 0, 0, 0, 0, 0, 1, 0), (24, 3, 23, 0, 0, 0, 0, 0, 0, 0)]
def q11_45 : List XO := [(6, 1, 0, 0, 0, 0, 0, 0, 0, 0), (0, 1, 0, 0, 0, 0, 0, 0, 0, 0), (45, 3, 66, 0, 7, 444, 0, 0, 0, 0), (6, 1, 0, 0, 0, 0, 0, 0, 0, 0), (0, 1, 0, 0, 0, 0, 0, 0, 0, 0), (45, 3, 69, 0, 15, 465, 0, 0, 0, 0),
  (6, 1, 0, 0, 0, 0, 0, 0, 0, 0), (0, 1, 0, 0, 0, 0, 0, 0, 0, 0), (45, 3, 72, 0, 16, 467, 0, 0, 0, 0), (6, 1, 0, 0, 0, 0, 0, 0, 0, 0), (0, 1, 0, 0, 0, 0, 0, 0, 0, 0), (45, 3, 75, 0, 17, 470, 0, 0, 0, 0),
  (6, 1, 0, 0, 0, 0, 0, 0, 0, 0), (44, 3, 46, 0, 18, 473, 0, 0, 0, 0), (48, 3, 78, 12, 0, 418, 1, 7, 0, 0), (27, 1, 0, 0, 3, 0, 0, 0, 0, 0)]
def xt11 : List (Nat × List XO) := [(0, q11_0), (23, q11_23), (45, q11_45)]
def q12_0 : List XO := [(6, 1, 0, 0, 0, 0, 0, 0, 0, 0), (0, 1, 0, 0, 0, 0, 0, 0, 0, 0), (61, 3, 30, 7, 0, 370, 0, 0, 0, 0), (6, 1, 0, 0, 0, 0, 0, 0, 0, 0), (0, 1, 0, 0, 0, 0, 0, 0, 0, 0), (45, 3, 34, 7, 1, 373, 0, 0, 0, 0),
  (6, 1, 0, 0, 0, 0, 0, 0, 0, 0), (0, 1, 0, 0, 0, 0, 0, 0, 0, 0), (45, 3, 38, 7, 2, 376, 0, 0, 0, 0), (27, 1, 0, 0, 3, 0, 0, 0, 0, 0)]
def xt12 : List (Nat × List XO) := [(0, q12_0)]
def q13_0 : List XO := [(6, 1, 0, 0, 0, 0, 0, 0, 0, 0), (42, 3, 80, 9, 13, 529, 0, 0, 0, 0), (27, 1, 0, 0, 0, 0, 0, 0, 0, 0)]
def xt13 : List (Nat × List XO) := [(0, q13_0)]
def q14_0 : List XO := [(6, 1, 0, 0, 0, 0, 0, 0, 0, 0), (44, 3, 12, 9, 0, 516, 0, 0, 0, 0), (43, 3, 83, 2, 0, 174, 0, 0, 0, 0), (27, 1, 0, 0, 2, 0, 0, 0, 0, 0)]
def xt14 : List (Nat × List XO) := [(0, q14_0)]
def q15_0 : List XO := [(6, 1, 0, 0, 0, 0, 0, 0, 0, 0), (44, 3, 12, 9, 0, 516, 0, 0, 0, 0), (43, 3, 87, 2, 1, 176, 0, 0, 0, 0), (27, 1, 0, 0, 2, 0, 0, 0, 0, 0)]
def xt15 : List (Nat × List XO) := [(0, q15_0)]
def q16_0 : List XO := [(6, 1, 0, 0, 0, 0, 0, 0, 0, 0), (6, 1, 0, 0, 0, 0, 0, 0, 0, 0), (44, 3, 19, 9, 1, 517, 0, 0, 0, 0), (4, 1, 1, 0, 0, 0, 0, 0, 0, 0), (4, 1, 2, 0, 0, 0, 0, 0, 0, 0), (4, 1, 3, 0, 0, 0, 0, 0, 0, 0),
  (48, 3, 90, 17, 0, 584, 4, 6, 0, 0), (48, 3, 94, 19, 0, 591, 2, 9, 0, 0), (27, 1, 0, 0, 1, 0, 0, 0, 0, 0)]
def xt16 : List (Nat × List XO) := [(0, q16_0)]
def q17_0 : List XO := [(4, 1, 1, 0, 0, 0, 0, 0, 0, 0), (48, 3, 23, 18, 1, 588, 1, 6, 0, 0), (22, 3, 16, 0, 0, 0, 0, 0, 0, 0), (4, 1, 2, 0, 0, 0, 0, 0, 0, 0), (22, 3, 16, 0, 2, 0, 0, 0, 0, 0), (4, 1, 2, 0, 0, 0, 0, 0, 0, 0),
  (0, 1, 0, 0, 0, 0, 0, 0, 3, 0), (23, 3, 18, 0, 5, 0, 0, 0, 0, 0), (24, 0, 16, 0, 1, 0, 0, 0, 0, 0)]
def q17_16 : List XO := [(0, 1, 0, 0, 0, 0, 0, 0, 1, 0), (27, 1, 0, 0, 0, 0, 0, 0, 0, 0)]
def q17_18 : List XO := [(4, 1, 3, 0, 0, 0, 0, 0, 0, 0), (0, 2, 0, 0, 1, 0, 0, 0, 60, 0), (23, 3, 26, 0, 5, 0, 0, 0, 0, 0), (0, 1, 0, 0, 0, 0, 0, 0, 5, 0), (27, 1, 0, 0, 0, 0, 0, 0, 0, 0)]
def q17_26 : List XO := [(4, 1, 3, 0, 0, 0, 0, 0, 0, 0), (22, 3, 33, 0, 3, 0, 0, 0, 0, 0), (0, 2, 0, 0, 1, 0, 0, 0, 6, 0), (27, 1, 0, 0, 0, 0, 0, 0, 0, 0)]
def q17_33 : List XO := [(6, 1, 0, 0, 0, 0, 0, 0, 0, 0), (44, 3, 16, 6, 1, 196, 0, 0, 0, 0), (4, 1, 1, 0, 0, 0, 0, 0, 0, 0), (4, 1, 2, 0, 0, 0, 0, 0, 0, 0), (34, 1, 0, 0, 0, 0, 0, 0, 0, 0), (6, 1, 0, 0, 0, 0, 0, 0, 0, 0),
  (44, 3, 20, 6, 2, 197, 0, 0, 0, 0), (4, 1, 1, 0, 0, 0, 0, 0, 0, 0), (4, 1, 3, 0, 0, 0, 0, 0, 0, 0), (34, 1, 0, 0, 0, 0, 0, 0, 0, 0), (0, 1, 0, 0, 0, 0, 0, 0, 0, 0), (7, 2, 4, 0, 0, 0, 0, 0, 0, 0),
  (24, 0, 50, 0, 1, 0, 0, 0, 0, 0)]
def q17_50 : List XO := [(4, 2, 4, 0, 0, 0, 0, 0, 0, 0), (4, 1, 3, 0, 0, 0, 0, 0, 0, 0), (23, 3, 72, 0, 3, 0, 0, 0, 0, 0), (6, 1, 0, 0, 0, 0, 0, 0, 0, 0), (44, 3, 11, 6, 0, 194, 0, 0, 0, 0), (4, 1, 1, 0, 0, 0, 0, 0, 0, 0),
  (39, 1, 0, 0, 0, 0, 0, 0, 0, 0), (4, 2, 4, 0, 0, 0, 0, 0, 0, 0), (1, 1, 0, 0, 0, 0, 0, 0, 0, 0), (36, 1, 0, 0, 0, 0, 0, 0, 0, 0), (10, 3, 4, 0, 0, 0, 0, 0, 1, 0), (24, 3, 50, 0, 0, 0, 0, 0, 0, 0)]
def q17_72 : List XO := [(0, 1, 0, 0, 0, 0, 0, 0, 0, 0), (27, 1, 0, 0, 0, 0, 0, 0, 0, 0)]
def xt17 : List (Nat × List XO) := [(0, q17_0), (16, q17_16), (18, q17_18), (26, q17_26), (33, q17_33), (50, q17_50), (72, q17_72)]
def q18_0 : List XO := [(4, 1, 0, 0, 0, 0, 0, 0, 0, 0), (22, 3, 13, 0, 2, 0, 0, 0, 0, 0), (4, 1, 0, 0, 0, 0, 0, 0, 0, 0), (0, 1, 0, 0, 0, 0, 0, 0, 4, 0), (23, 3, 13, 0, 3, 0, 0, 0, 0, 0), (0, 1, 0, 0, 0, 0, 0, 0, 1, 0),
  (24, 3, 14, 0, 0, 0, 0, 0, 0, 0)]
def q18_13 : List XO := [(0, 1, 0, 0, 0, 0, 0, 0, 0, 0), (24, 0, 14, 0, 1, 0, 0, 0, 0, 0)]
def q18_14 : List XO := [(27, 1, 0, 0, 1, 0, 0, 0, 0, 0)]
def xt18 : List (Nat × List XO) := [(0, q18_0), (13, q18_13), (14, q18_14)]
def q19_0 : List XO := [(6, 1, 0, 0, 0, 0, 0, 0, 0, 0), (4, 1, 1, 0, 0, 0, 0, 0, 0, 0), (45, 3, 80, 9, 13, 529, 0, 0, 0, 0), (4, 1, 1, 0, 0, 0, 0, 0, 0, 0), (22, 3, 13, 0, 1, 0, 0, 0, 0, 0), (0, 1, 0, 0, 0, 0, 0, 0, 1, 0),
  (24, 3, 14, 0, 0, 0, 0, 0, 0, 0)]
def q19_13 : List XO := [(0, 1, 0, 0, 0, 0, 0, 0, 0, 0), (24, 0, 14, 0, 1, 0, 0, 0, 0, 0)]
def q19_14 : List XO := [(27, 1, 0, 0, 1, 0, 0, 0, 0, 0)]
def xt19 : List (Nat × List XO) := [(0, q19_0), (13, q19_13), (14, q19_14)]
def q20_0 : List XO := [(6, 1, 0, 0, 0, 0, 0, 0, 0, 0), (6, 1, 0, 0, 0, 0, 0, 0, 0, 0), (44, 3, 19, 9, 1, 517, 0, 0, 0, 0), (4, 1, 1, 0, 0, 0, 0, 0, 0, 0), (4, 1, 2, 0, 0, 0, 0, 0, 0, 0), (5, 1, 3, 0, 0, 0, 0, 0, 0, 0),
  (48, 3, 98, 21, 0, 599, 4, 6, 0, 0), (48, 3, 94, 19, 0, 591, 2, 9, 0, 0), (27, 1, 0, 0, 1, 0, 0, 0, 0, 0)]
def xt20 : List (Nat × List XO) := [(0, q20_0)]
def q21_0 : List XO := [(6, 1, 0, 0, 0, 0, 0, 0, 0, 0), (4, 1, 1, 0, 0, 0, 0, 0, 0, 0), (4, 1, 2, 0, 0, 0, 0, 0, 0, 0), (48, 3, 31, 22, 0, 603, 3, 6, 0, 0), (7, 2, 5, 0, 0, 0, 0, 0, 0, 0), (4, 2, 5, 0, 0, 0, 0, 0, 0, 0),
  (22, 3, 31, 0, 1, 0, 0, 0, 0, 0), (6, 1, 0, 0, 0, 0, 0, 0, 0, 0), (44, 3, 11, 6, 0, 194, 0, 0, 0, 0), (4, 1, 1, 0, 0, 0, 0, 0, 0, 0), (39, 1, 0, 0, 0, 0, 0, 0, 0, 0), (4, 1, 2, 0, 0, 0, 0, 0, 0, 0),
  (5, 1, 3, 0, 0, 0, 0, 0, 0, 0), (6, 1, 0, 0, 0, 0, 0, 0, 0, 0), (44, 3, 16, 6, 1, 196, 0, 0, 0, 0), (4, 1, 1, 0, 0, 0, 0, 0, 0, 0), (33, 1, 0, 0, 0, 0, 0, 0, 0, 0), (48, 3, 34, 24, 1, 611, 2, 6, 0, 0),
  (36, 1, 0, 0, 0, 0, 0, 0, 0, 0), (24, 0, 31, 0, 1, 0, 0, 0, 0, 0)]
def q21_31 : List XO := [(4, 2, 5, 0, 0, 0, 0, 0, 0, 0), (27, 1, 0, 0, 0, 0, 0, 0, 0, 0)]
def xt21 : List (Nat × List XO) := [(0, q21_0), (31, q21_31)]
def q22_0 : List XO := [(6, 1, 0, 0, 0, 0, 0, 0, 0, 0), (4, 1, 1, 0, 0, 0, 0, 0, 0, 0), (0, 1, 0, 0, 0, 0, 0, 0, 0, 0), (48, 3, 27, 23, 0, 607, 3, 6, 0, 0), (7, 1, 3, 0, 0, 0, 0, 0, 0, 0), (4, 1, 3, 0, 0, 0, 0, 0, 0, 0),
  (22, 3, 13, 0, 0, 0, 0, 0, 0, 0), (4, 1, 3, 0, 0, 0, 0, 0, 0, 0), (27, 1, 0, 0, 0, 0, 0, 0, 0, 0)]
def q22_13 : List XO := [(4, 1, 2, 0, 0, 0, 0, 0, 0, 0), (22, 3, 31, 0, 2, 0, 0, 0, 0, 0), (4, 1, 2, 0, 0, 0, 0, 0, 0, 0), (6, 1, 0, 0, 0, 0, 0, 0, 0, 0), (44, 3, 20, 6, 2, 197, 0, 0, 0, 0), (4, 1, 1, 0, 0, 0, 0, 0, 0, 0),
  (33, 1, 0, 0, 0, 0, 0, 0, 0, 0), (23, 3, 31, 0, 3, 0, 0, 0, 0, 0), (0, 1, 0, 0, 0, 0, 0, 0, 0, 0), (24, 3, 32, 0, 0, 0, 0, 0, 0, 0)]
def q22_31 : List XO := [(0, 1, 0, 0, 0, 0, 0, 0, 4, 0), (24, 0, 32, 0, 1, 0, 0, 0, 0, 0)]
def q22_32 : List XO := [(27, 1, 0, 0, 0, 0, 0, 0, 0, 0)]
def xt22 : List (Nat × List XO) := [(0, q22_0), (13, q22_13), (31, q22_31), (32, q22_32)]
def q23_0 : List XO := [(4, 1, 1, 0, 0, 0, 0, 0, 0, 0), (48, 3, 23, 18, 1, 588, 1, 6, 0, 0), (22, 3, 9, 0, 1, 0, 0, 0, 0, 0), (0, 1, 0, 0, 0, 0, 0, 0, 1, 0), (27, 1, 0, 0, 0, 0, 0, 0, 0, 0)]
def q23_9 : List XO := [(6, 1, 0, 0, 0, 0, 0, 0, 0, 0), (44, 3, 20, 6, 2, 197, 0, 0, 0, 0), (4, 1, 1, 0, 0, 0, 0, 0, 0, 0), (33, 1, 0, 0, 0, 0, 0, 0, 0, 0), (22, 3, 20, 0, 3, 0, 0, 0, 0, 0), (0, 1, 0, 0, 0, 0, 0, 0, 3, 0),
  (27, 1, 0, 0, 0, 0, 0, 0, 0, 0)]
def q23_20 : List XO := [(4, 1, 2, 0, 0, 0, 0, 0, 0, 0), (6, 1, 0, 0, 0, 0, 0, 0, 0, 0), (44, 3, 20, 6, 2, 197, 0, 0, 0, 0), (4, 1, 1, 0, 0, 0, 0, 0, 0, 0), (33, 1, 0, 0, 0, 0, 0, 0, 0, 0), (23, 3, 34, 0, 5, 0, 0, 0, 0, 0),
  (0, 1, 0, 0, 0, 0, 0, 0, 4, 0), (24, 3, 35, 0, 0, 0, 0, 0, 0, 0)]
def q23_34 : List XO := [(0, 1, 0, 0, 0, 0, 0, 0, 0, 0), (24, 0, 35, 0, 1, 0, 0, 0, 0, 0)]
def q23_35 : List XO := [(27, 1, 0, 0, 0, 0, 0, 0, 0, 0)]
def xt23 : List (Nat × List XO) := [(0, q23_0), (9, q23_9), (20, q23_20), (34, q23_34), (35, q23_35)]
def q24_0 : List XO := [(4, 1, 2, 0, 0, 0, 0, 0, 0, 0), (26, 27, 0, 0, 0, 0, 0, 0, 0, 0)]
def q24_28 : List XO := [(5, 1, 0, 0, 0, 0, 0, 0, 0, 0), (17, 1, 0, 0, 1, 0, 0, 0, 0, 0), (17, 1, 0, 0, 2, 0, 0, 0, 0, 0), (17, 1, 0, 0, 0, 0, 0, 0, 0, 0), (27, 1, 0, 0, 2, 0, 0, 0, 0, 0)]
def q24_33 : List XO := [(5, 1, 0, 0, 0, 0, 0, 0, 0, 0), (17, 1, 0, 0, 1, 0, 0, 0, 0, 0), (17, 1, 0, 0, 3, 0, 0, 0, 0, 0), (17, 1, 0, 0, 0, 0, 0, 0, 0, 0), (27, 1, 0, 0, 2, 0, 0, 0, 0, 0)]
def q24_38 : List XO := [(5, 1, 0, 0, 0, 0, 0, 0, 0, 0), (17, 1, 0, 0, 1, 0, 0, 0, 0, 0), (17, 1, 0, 0, 0, 0, 0, 0, 0, 0), (27, 1, 0, 0, 2, 0, 0, 0, 0, 0)]
def q24_42 : List XO := [(5, 1, 0, 0, 0, 0, 0, 0, 0, 0), (27, 1, 0, 0, 2, 0, 0, 0, 0, 0)]
def xt24 : List (Nat × List XO) := [(0, q24_0), (28, q24_28), (33, q24_33), (38, q24_38), (42, q24_42)]
def q25_0 : List XO := [(6, 1, 0, 0, 0, 0, 0, 0, 0, 0), (44, 3, 19, 9, 1, 517, 0, 0, 0, 0), (4, 1, 1, 0, 0, 0, 0, 0, 0, 0), (4, 1, 2, 0, 0, 0, 0, 0, 0, 0), (48, 3, 102, 22, 0, 618, 3, 6, 0, 0), (7, 1, 3, 0, 0, 0, 0, 0, 0, 0),
  (6, 1, 0, 0, 0, 0, 0, 0, 0, 0), (4, 1, 3, 0, 0, 0, 0, 0, 0, 0), (45, 3, 80, 9, 13, 529, 0, 0, 0, 0), (4, 1, 3, 0, 0, 0, 0, 0, 0, 0), (22, 3, 33, 0, 1, 0, 0, 0, 0, 0), (6, 1, 0, 0, 0, 0, 0, 0, 0, 0),
  (44, 3, 19, 9, 1, 517, 0, 0, 0, 0), (44, 3, 106, 6, 0, 195, 0, 0, 0, 0), (4, 1, 1, 0, 0, 0, 0, 0, 0, 0), (39, 1, 0, 0, 0, 0, 0, 0, 0, 0), (4, 1, 2, 0, 0, 0, 0, 0, 0, 0), (35, 1, 0, 0, 0, 0, 0, 0, 0, 0),
  (24, 3, 36, 0, 0, 0, 0, 0, 0, 0)]
def q25_33 : List XO := [(1, 3, 110, 0, 1, 619, 0, 0, 0, (-1)), (24, 0, 36, 0, 1, 0, 0, 0, 0, 0)]
def q25_36 : List XO := [(27, 1, 0, 0, 2, 0, 0, 0, 0, 0)]
def xt25 : List (Nat × List XO) := [(0, q25_0), (33, q25_33), (36, q25_36)]
def q26_0 : List XO := [(6, 1, 0, 0, 0, 0, 0, 0, 0, 0), (6, 1, 0, 0, 0, 0, 0, 0, 0, 0), (44, 3, 19, 9, 1, 517, 0, 0, 0, 0), (4, 1, 1, 0, 0, 0, 0, 0, 0, 0), (4, 1, 2, 0, 0, 0, 0, 0, 0, 0), (4, 1, 3, 0, 0, 0, 0, 0, 0, 0),
  (4, 2, 4, 0, 0, 0, 0, 0, 0, 0), (4, 2, 5, 0, 0, 0, 0, 0, 0, 0), (48, 3, 112, 27, 0, 624, 6, 6, 0, 0), (48, 3, 94, 19, 0, 591, 2, 9, 0, 0), (27, 1, 0, 0, 1, 0, 0, 0, 0, 0)]
def xt26 : List (Nat × List XO) := [(0, q26_0)]
def q27_0 : List XO := [(4, 1, 1, 0, 0, 0, 0, 0, 0, 0), (48, 3, 23, 18, 1, 588, 1, 6, 0, 0), (22, 3, 14, 0, 0, 0, 0, 0, 0, 0), (4, 1, 3, 0, 0, 0, 0, 0, 0, 0), (48, 3, 23, 18, 1, 588, 1, 6, 0, 0), (22, 3, 16, 0, 1, 0, 0, 0, 0, 0),
  (24, 0, 14, 0, 1, 0, 0, 0, 0, 0)]
def q27_14 : List XO := [(0, 1, 0, 0, 0, 0, 0, 0, 1, 0), (27, 1, 0, 0, 0, 0, 0, 0, 0, 0)]
def q27_16 : List XO := [(6, 1, 0, 0, 0, 0, 0, 0, 0, 0), (44, 3, 20, 6, 2, 197, 0, 0, 0, 0), (4, 1, 1, 0, 0, 0, 0, 0, 0, 0), (33, 1, 0, 0, 0, 0, 0, 0, 0, 0), (22, 3, 34, 0, 2, 0, 0, 0, 0, 0), (6, 1, 0, 0, 0, 0, 0, 0, 0, 0),
  (44, 3, 20, 6, 2, 197, 0, 0, 0, 0), (4, 1, 3, 0, 0, 0, 0, 0, 0, 0), (33, 1, 0, 0, 0, 0, 0, 0, 0, 0), (22, 3, 36, 0, 3, 0, 0, 0, 0, 0), (24, 0, 34, 0, 1, 0, 0, 0, 0, 0)]
def q27_34 : List XO := [(0, 1, 0, 0, 0, 0, 0, 0, 3, 0), (27, 1, 0, 0, 0, 0, 0, 0, 0, 0)]
def q27_36 : List XO := [(6, 1, 0, 0, 0, 0, 0, 0, 0, 0), (44, 3, 16, 6, 1, 196, 0, 0, 0, 0), (4, 1, 1, 0, 0, 0, 0, 0, 0, 0), (33, 1, 0, 0, 0, 0, 0, 0, 0, 0), (6, 1, 0, 0, 0, 0, 0, 0, 0, 0), (44, 3, 16, 6, 1, 196, 0, 0, 0, 0),
  (4, 1, 3, 0, 0, 0, 0, 0, 0, 0), (33, 1, 0, 0, 0, 0, 0, 0, 0, 0), (23, 3, 54, 0, 0, 0, 0, 0, 0, 0), (0, 2, 0, 0, 1, 0, 0, 0, 11, 0), (27, 1, 0, 0, 0, 0, 0, 0, 0, 0)]
def q27_54 : List XO := [(4, 2, 5, 0, 0, 0, 0, 0, 0, 0), (22, 3, 62, 0, 3, 0, 0, 0, 0, 0), (0, 2, 0, 0, 1, 0, 0, 0, 6, 0), (27, 1, 0, 0, 0, 0, 0, 0, 0, 0)]
def q27_62 : List XO := [(4, 1, 2, 0, 0, 0, 0, 0, 0, 0), (22, 3, 98, 0, 2, 0, 0, 0, 0, 0), (4, 2, 4, 0, 0, 0, 0, 0, 0, 0), (22, 3, 98, 0, 2, 0, 0, 0, 0, 0), (4, 1, 2, 0, 0, 0, 0, 0, 0, 0), (6, 1, 0, 0, 0, 0, 0, 0, 0, 0),
  (44, 3, 20, 6, 2, 197, 0, 0, 0, 0), (4, 1, 1, 0, 0, 0, 0, 0, 0, 0), (33, 1, 0, 0, 0, 0, 0, 0, 0, 0), (4, 2, 5, 0, 0, 0, 0, 0, 0, 0), (11, 1, 0, 0, 1, 0, 0, 0, 0, 0), (23, 3, 98, 0, 4, 0, 0, 0, 0, 0),
  (4, 2, 4, 0, 0, 0, 0, 0, 0, 0), (6, 1, 0, 0, 0, 0, 0, 0, 0, 0), (44, 3, 20, 6, 2, 197, 0, 0, 0, 0), (4, 1, 3, 0, 0, 0, 0, 0, 0, 0), (33, 1, 0, 0, 0, 0, 0, 0, 0, 0), (4, 2, 5, 0, 0, 0, 0, 0, 0, 0),
  (11, 1, 0, 0, 1, 0, 0, 0, 0, 0), (23, 3, 100, 0, 5, 0, 0, 0, 0, 0), (24, 0, 98, 0, 1, 0, 0, 0, 0, 0)]
def q27_98 : List XO := [(0, 1, 0, 0, 0, 0, 0, 0, 4, 0), (27, 1, 0, 0, 0, 0, 0, 0, 0, 0)]
def q27_100 : List XO := [(6, 1, 0, 0, 0, 0, 0, 0, 0, 0), (44, 3, 11, 6, 0, 194, 0, 0, 0, 0), (4, 1, 1, 0, 0, 0, 0, 0, 0, 0), (39, 1, 0, 0, 0, 0, 0, 0, 0, 0), (4, 1, 2, 0, 0, 0, 0, 0, 0, 0), (6, 1, 0, 0, 0, 0, 0, 0, 0, 0),
  (44, 3, 11, 6, 0, 194, 0, 0, 0, 0), (4, 1, 3, 0, 0, 0, 0, 0, 0, 0), (39, 1, 0, 0, 0, 0, 0, 0, 0, 0), (4, 2, 4, 0, 0, 0, 0, 0, 0, 0), (4, 2, 5, 0, 0, 0, 0, 0, 0, 0), (50, 3, 38, 0, 1, 628, 0, 0, 0, 0),
  (0, 1, 0, 0, 0, 0, 0, 0, 0, 0), (27, 1, 0, 0, 0, 0, 0, 0, 0, 0)]
def xt27 : List (Nat × List XO) := [(0, q27_0), (14, q27_14), (16, q27_16), (34, q27_34), (36, q27_36), (54, q27_54), (62, q27_62), (98, q27_98),
  (100, q27_100)]
def q28_0 : List XO := [(6, 1, 0, 0, 0, 0, 0, 0, 0, 0), (42, 3, 116, 9, 12, 528, 0, 0, 0, 0), (0, 3, 0, 0, 2, 0, 0, 0, 880, 0), (23, 3, 12, 0, 5, 0, 0, 0, 0, 0), (0, 1, 0, 0, 0, 0, 0, 0, (-1), 0), (27, 1, 0, 0, 0, 0, 0, 0, 0, 0)]
def q28_12 : List XO := [(6, 1, 0, 0, 0, 0, 0, 0, 0, 0), (4, 1, 1, 0, 0, 0, 0, 0, 0, 0), (48, 3, 119, 29, 0, 635, 2, 9, 0, 0), (6, 1, 0, 0, 0, 0, 0, 0, 0, 0), (4, 1, 2, 0, 0, 0, 0, 0, 0, 0), (48, 3, 119, 29, 0, 635, 2, 9, 0, 0),
  (6, 1, 0, 0, 0, 0, 0, 0, 0, 0), (4, 1, 3, 0, 0, 0, 0, 0, 0, 0), (48, 3, 119, 29, 0, 635, 2, 9, 0, 0), (6, 1, 0, 0, 0, 0, 0, 0, 0, 0), (4, 2, 4, 0, 0, 0, 0, 0, 0, 0), (48, 3, 119, 29, 0, 635, 2, 9, 0, 0),
  (6, 1, 0, 0, 0, 0, 0, 0, 0, 0), (4, 2, 5, 0, 0, 0, 0, 0, 0, 0), (48, 3, 119, 29, 0, 635, 2, 9, 0, 0), (6, 1, 0, 0, 0, 0, 0, 0, 0, 0), (42, 3, 116, 9, 12, 528, 0, 0, 0, 0), (27, 1, 0, 0, 0, 0, 0, 0, 0, 0)]
def xt28 : List (Nat × List XO) := [(0, q28_0), (12, q28_12)]
def q29_0 : List XO := [(0, 2, 0, 0, 1, 0, 0, 0, 24, 0), (7, 1, 2, 0, 0, 0, 0, 0, 0, 0), (24, 0, 3, 0, 1, 0, 0, 0, 0, 0)]
def q29_3 : List XO := [(4, 1, 2, 0, 0, 0, 0, 0, 0, 0), (22, 3, 48, 0, 2, 0, 0, 0, 0, 0), (6, 1, 0, 0, 0, 0, 0, 0, 0, 0), (42, 3, 116, 9, 12, 528, 0, 0, 0, 0), (6, 1, 0, 0, 0, 0, 0, 0, 0, 0), (44, 3, 23, 9, 2, 518, 0, 0, 0, 0),
  (32, 1, 0, 0, 0, 0, 0, 0, 0, 0), (23, 3, 48, 0, 3, 0, 0, 0, 0, 0), (6, 1, 0, 0, 0, 0, 0, 0, 0, 0), (44, 3, 23, 9, 2, 518, 0, 0, 0, 0), (6, 1, 0, 0, 0, 0, 0, 0, 0, 0), (42, 3, 116, 9, 12, 528, 0, 0, 0, 0),
  (4, 1, 1, 0, 0, 0, 0, 0, 0, 0), (4, 1, 2, 0, 0, 0, 0, 0, 0, 0), (11, 1, 0, 0, 7, 0, 0, 0, 0, 0), (17, 1, 0, 0, 2, 0, 0, 0, 0, 0), (38, 1, 0, 0, 0, 0, 0, 0, 0, 0), (6, 1, 0, 0, 0, 0, 0, 0, 0, 0),
  (19, 1, 0, 0, 0, 0, 0, 0, 0, 0), (42, 3, 116, 9, 12, 528, 0, 0, 0, 0), (0, 1, 0, 0, 0, 0, 0, 0, 1, 0), (11, 1, 0, 0, 0, 0, 0, 0, 0, 0), (45, 3, 116, 9, 12, 528, 0, 0, 0, 0), (10, 3, 2, 0, 0, 0, 0, 0, (-8), 0),
  (24, 3, 3, 0, 0, 0, 0, 0, 0, 0)]
def q29_48 : List XO := [(27, 1, 0, 0, 3, 0, 0, 0, 0, 0)]
def xt29 : List (Nat × List XO) := [(0, q29_0), (3, q29_3), (48, q29_48)]
def q30_0 : List XO := [(4, 1, 1, 0, 0, 0, 0, 0, 0, 0), (22, 3, 12, 0, 2, 0, 0, 0, 0, 0), (4, 1, 1, 0, 0, 0, 0, 0, 0, 0), (6, 1, 0, 0, 0, 0, 0, 0, 0, 0), (42, 3, 116, 9, 12, 528, 0, 0, 0, 0), (23, 3, 18, 0, 5, 0, 0, 0, 0, 0),
  (24, 0, 12, 0, 1, 0, 0, 0, 0, 0)]
def q30_12 : List XO := [(6, 1, 0, 0, 0, 0, 0, 0, 0, 0), (0, 1, 0, 0, 0, 0, 0, 0, 5, 0), (48, 3, 123, 31, 0, 643, 2, 9, 0, 0), (27, 1, 0, 0, 0, 0, 0, 0, 0, 0)]
def q30_18 : List XO := [(6, 1, 0, 0, 0, 0, 0, 0, 0, 0), (44, 3, 30, 9, 3, 519, 0, 0, 0, 0), (6, 1, 0, 0, 0, 0, 0, 0, 0, 0), (44, 3, 23, 9, 2, 518, 0, 0, 0, 0), (4, 1, 1, 0, 0, 0, 0, 0, 0, 0), (6, 1, 0, 0, 0, 0, 0, 0, 0, 0),
  (44, 3, 66, 9, 9, 525, 0, 0, 0, 0), (48, 3, 127, 32, 0, 647, 4, 1, 0, 0), (7, 1, 2, 0, 0, 0, 0, 0, 0, 0), (6, 1, 0, 0, 0, 0, 0, 0, 0, 0), (6, 1, 0, 0, 0, 0, 0, 0, 0, 0), (44, 3, 30, 9, 3, 519, 0, 0, 0, 0),
  (44, 3, 131, 1, 0, 260, 0, 0, 0, 0), (48, 3, 135, 79, 0, 860, 2, 9, 0, 0), (4, 1, 2, 0, 0, 0, 0, 0, 0, 0), (22, 3, 57, 0, 1, 0, 0, 0, 0, 0), (6, 1, 0, 0, 0, 0, 0, 0, 0, 0), (0, 2, 0, 0, 1, 0, 0, 0, 10, 0),
  (48, 3, 123, 31, 0, 643, 2, 9, 0, 0), (27, 1, 0, 0, 0, 0, 0, 0, 0, 0)]
def q30_57 : List XO := [(6, 1, 0, 0, 0, 0, 0, 0, 0, 0), (44, 3, 62, 9, 8, 524, 0, 0, 0, 0), (6, 1, 0, 0, 0, 0, 0, 0, 0, 0), (44, 3, 66, 9, 9, 525, 0, 0, 0, 0), (48, 3, 139, 80, 0, 864, 2, 0, 0, 0), (6, 1, 0, 0, 0, 0, 0, 0, 0, 0),
  (6, 1, 0, 0, 0, 0, 0, 0, 0, 0), (44, 3, 62, 9, 8, 524, 0, 0, 0, 0), (42, 3, 143, 0, 7, 447, 0, 0, 0, 0), (48, 3, 146, 83, 0, 878, 2, 9, 0, 0), (27, 1, 0, 0, 0, 0, 0, 0, 0, 0)]
def xt30 : List (Nat × List XO) := [(0, q30_0), (12, q30_12), (18, q30_18), (57, q30_57)]
def q31_0 : List XO := [(6, 1, 0, 0, 0, 0, 0, 0, 0, 0), (4, 1, 1, 0, 0, 0, 0, 0, 0, 0), (45, 3, 80, 9, 13, 529, 0, 0, 0, 0), (0, 1, 0, 0, 0, 0, 0, 0, (-1), 0), (27, 1, 0, 0, 0, 0, 0, 0, 0, 0)]
def xt31 : List (Nat × List XO) := [(0, q31_0)]
def q32_0 : List XO := [(6, 1, 0, 0, 0, 0, 0, 0, 0, 0), (44, 3, 12, 1, 0, 259, 0, 0, 0, 0), (6, 1, 1, 0, 0, 0, 0, 0, 0, 0), (4, 1, 2, 0, 0, 0, 0, 0, 0, 0), (48, 3, 18, 33, 0, 651, 3, 5, 0, 0), (6, 1, 3, 0, 0, 0, 0, 0, 0, 0),
  (48, 3, 22, 11, 0, 678, 1, 0, 0, 0), (6, 1, 0, 0, 0, 0, 0, 0, 0, 0), (0, 1, 0, 0, 0, 0, 0, 0, 0, 0), (61, 3, 27, 1, 1, 261, 0, 0, 0, 0), (6, 1, 0, 0, 0, 0, 0, 0, 0, 0), (0, 1, 0, 0, 0, 0, 0, 0, 0, 0),
  (61, 3, 31, 1, 2, 262, 0, 0, 0, 0), (0, 1, 0, 0, 0, 0, 0, 0, 1, 0), (7, 2, 4, 0, 0, 0, 0, 0, 0, 0), (0, 1, 0, 0, 0, 0, 0, 0, 0, 0), (7, 2, 5, 0, 0, 0, 0, 0, 0, 0), (24, 0, 29, 0, 1, 0, 0, 0, 0, 0)]
def q32_29 : List XO := [(4, 2, 5, 0, 0, 0, 0, 0, 0, 0), (0, 3, 0, 0, 2, 0, 0, 0, 900, 0), (23, 3, 155, 0, 3, 0, 0, 0, 0, 0), (4, 2, 4, 0, 0, 0, 0, 0, 0, 0), (22, 3, 155, 0, 0, 0, 0, 0, 0, 0), (6, 1, 0, 0, 0, 0, 0, 0, 0, 0),
  (44, 3, 12, 1, 0, 259, 0, 0, 0, 0), (42, 3, 34, 5, 4, 222, 0, 0, 0, 0), (22, 3, 155, 0, 0, 0, 0, 0, 0, 0), (6, 1, 0, 0, 0, 0, 0, 0, 0, 0), (44, 3, 12, 1, 0, 259, 0, 0, 0, 0), (2, 2, 38, 0, 0, 679, 0, 0, 0, 0),
  (48, 3, 40, 40, 0, 680, 2, 5, 0, 0), (22, 3, 74, 0, 0, 0, 0, 0, 0, 0), (6, 1, 0, 0, 0, 0, 0, 0, 0, 0), (6, 1, 3, 0, 0, 0, 0, 0, 0, 0), (48, 3, 44, 52, 0, 732, 2, 1, 0, 0), (7, 2, 4, 0, 0, 0, 0, 0, 0, 0),
  (24, 3, 149, 0, 0, 0, 0, 0, 0, 0)]
def q32_74 : List XO := [(6, 1, 0, 0, 0, 0, 0, 0, 0, 0), (44, 3, 12, 1, 0, 259, 0, 0, 0, 0), (2, 2, 48, 2, 0, 760, 0, 0, 0, 0), (48, 3, 40, 40, 0, 680, 2, 5, 0, 0), (22, 3, 96, 0, 0, 0, 0, 0, 0, 0), (6, 1, 0, 0, 0, 0, 0, 0, 0, 0),
  (6, 1, 3, 0, 0, 0, 0, 0, 0, 0), (48, 3, 50, 58, 0, 761, 2, 1, 0, 0), (7, 2, 4, 0, 0, 0, 0, 0, 0, 0), (24, 3, 149, 0, 0, 0, 0, 0, 0, 0)]
def q32_96 : List XO := [(6, 1, 0, 0, 0, 0, 0, 0, 0, 0), (44, 3, 12, 1, 0, 259, 0, 0, 0, 0), (2, 2, 53, 3, 0, 765, 0, 0, 0, 0), (48, 3, 40, 40, 0, 680, 2, 5, 0, 0), (22, 3, 118, 0, 0, 0, 0, 0, 0, 0), (6, 1, 0, 0, 0, 0, 0, 0, 0, 0),
  (6, 1, 3, 0, 0, 0, 0, 0, 0, 0), (48, 3, 55, 59, 0, 766, 2, 1, 0, 0), (7, 2, 4, 0, 0, 0, 0, 0, 0, 0), (24, 3, 149, 0, 0, 0, 0, 0, 0, 0)]
def q32_118 : List XO := [(6, 1, 0, 0, 0, 0, 0, 0, 0, 0), (44, 3, 12, 1, 0, 259, 0, 0, 0, 0), (2, 2, 58, 5, 0, 779, 0, 0, 0, 0), (48, 3, 40, 40, 0, 680, 2, 5, 0, 0), (22, 3, 140, 0, 0, 0, 0, 0, 0, 0), (6, 1, 0, 0, 0, 0, 0, 0, 0, 0),
  (6, 1, 3, 0, 0, 0, 0, 0, 0, 0), (48, 3, 60, 62, 0, 780, 2, 1, 0, 0), (7, 2, 4, 0, 0, 0, 0, 0, 0, 0), (24, 3, 149, 0, 0, 0, 0, 0, 0, 0)]
def q32_140 : List XO := [(6, 1, 0, 0, 0, 0, 0, 0, 0, 0), (44, 3, 12, 1, 0, 259, 0, 0, 0, 0), (48, 3, 63, 55, 0, 859, 1, 5, 0, 0), (7, 2, 4, 0, 0, 0, 0, 0, 0, 0), (24, 0, 149, 0, 1, 0, 0, 0, 0, 0)]
def q32_149 : List XO := [(10, 3, 5, 0, 0, 0, 0, 0, 1, 0), (24, 3, 29, 0, 0, 0, 0, 0, 0, 0)]
def q32_155 : List XO := [(4, 2, 4, 0, 0, 0, 0, 0, 0, 0), (27, 1, 0, 0, 1, 0, 0, 0, 0, 0)]
def xt32 : List (Nat × List XO) := [(0, q32_0), (29, q32_29), (74, q32_74), (96, q32_96), (118, q32_118), (140, q32_140), (149, q32_149), (155, q32_155)]
def q33_0 : List XO := [(6, 1, 0, 0, 0, 0, 0, 0, 0, 0), (0, 1, 0, 0, 0, 0, 0, 0, 0, 0), (4, 1, 2, 0, 0, 0, 0, 0, 0, 0), (6, 1, 1, 0, 0, 0, 0, 0, 0, 0), (32, 1, 0, 0, 0, 0, 0, 0, 0, 0), (6, 1, 0, 0, 0, 0, 0, 0, 0, 0),
  (44, 3, 9, 5, 0, 218, 0, 0, 0, 0), (32, 1, 0, 0, 0, 0, 0, 0, 0, 0), (48, 3, 15, 34, 1, 655, 2, 99, 0, 0), (48, 3, 15, 34, 1, 655, 2, 99, 0, 0), (48, 3, 21, 35, 1, 658, 2, 99, 0, 0), (45, 3, 24, 5, 1, 219, 0, 0, 0, 0),
  (6, 1, 1, 0, 0, 0, 0, 0, 0, 0), (0, 1, 0, 0, 0, 0, 0, 0, 0, 0), (6, 1, 0, 0, 0, 0, 0, 0, 0, 0), (44, 3, 9, 5, 0, 218, 0, 0, 0, 0), (0, 1, 0, 0, 0, 0, 0, 0, 0, 0), (6, 1, 0, 0, 0, 0, 0, 0, 0, 0),
  (42, 3, 24, 5, 1, 219, 0, 0, 0, 0), (50, 3, 28, 0, 2, 661, 0, 0, 0, 0), (6, 1, 0, 0, 0, 0, 0, 0, 0, 0), (0, 1, 0, 0, 0, 0, 0, 0, 0, 0), (45, 3, 34, 5, 2, 220, 0, 0, 0, 0), (6, 1, 0, 0, 0, 0, 0, 0, 0, 0),
  (0, 1, 0, 0, 0, 0, 0, 0, 0, 0), (45, 3, 37, 5, 8, 233, 0, 0, 0, 0), (6, 1, 0, 0, 0, 0, 0, 0, 0, 0), (0, 1, 0, 0, 0, 0, 0, 0, (-1), 0), (45, 3, 40, 5, 9, 235, 0, 0, 0, 0), (6, 1, 0, 0, 0, 0, 0, 0, 0, 0),
  (48, 3, 43, 36, 0, 662, 1, 5, 0, 0), (27, 1, 0, 0, 3, 0, 0, 0, 0, 0)]
def xt33 : List (Nat × List XO) := [(0, q33_0)]
def q34_0 : List XO := [(4, 1, 0, 0, 0, 0, 0, 0, 0, 0), (4, 1, 1, 0, 0, 0, 0, 0, 0, 0), (23, 3, 9, 0, 4, 0, 0, 0, 0, 0), (4, 1, 0, 0, 0, 0, 0, 0, 0, 0), (24, 3, 10, 0, 0, 0, 0, 0, 0, 0)]
def q34_9 : List XO := [(4, 1, 1, 0, 0, 0, 0, 0, 0, 0), (24, 0, 10, 0, 1, 0, 0, 0, 0, 0)]
def q34_10 : List XO := [(27, 1, 0, 0, 0, 0, 0, 0, 0, 0)]
def xt34 : List (Nat × List XO) := [(0, q34_0), (9, q34_9), (10, q34_10)]
def q35_0 : List XO := [(4, 1, 0, 0, 0, 0, 0, 0, 0, 0), (4, 1, 1, 0, 0, 0, 0, 0, 0, 0), (23, 3, 9, 0, 2, 0, 0, 0, 0, 0), (4, 1, 0, 0, 0, 0, 0, 0, 0, 0), (24, 3, 10, 0, 0, 0, 0, 0, 0, 0)]
def q35_9 : List XO := [(4, 1, 1, 0, 0, 0, 0, 0, 0, 0), (24, 0, 10, 0, 1, 0, 0, 0, 0, 0)]
def q35_10 : List XO := [(27, 1, 0, 0, 0, 0, 0, 0, 0, 0)]
def xt35 : List (Nat × List XO) := [(0, q35_0), (9, q35_9), (10, q35_10)]
def q36_0 : List XO := [(6, 1, 0, 0, 0, 0, 0, 0, 0, 0), (42, 3, 34, 5, 2, 220, 0, 0, 0, 0), (6, 1, 0, 0, 0, 0, 0, 0, 0, 0), (42, 3, 24, 5, 1, 219, 0, 0, 0, 0), (23, 3, 52, 0, 3, 0, 0, 0, 0, 0), (6, 1, 0, 0, 0, 0, 0, 0, 0, 0),
  (44, 3, 9, 5, 0, 218, 0, 0, 0, 0), (6, 1, 0, 0, 0, 0, 0, 0, 0, 0), (42, 3, 34, 5, 2, 220, 0, 0, 0, 0), (37, 1, 0, 0, 0, 0, 0, 0, 0, 0), (0, 2, 0, 0, 1, 0, 0, 0, 32, 0), (23, 3, 39, 0, 0, 0, 0, 0, 0, 0),
  (6, 1, 0, 0, 0, 0, 0, 0, 0, 0), (44, 3, 9, 5, 0, 218, 0, 0, 0, 0), (6, 1, 0, 0, 0, 0, 0, 0, 0, 0), (42, 3, 34, 5, 2, 220, 0, 0, 0, 0), (37, 1, 0, 0, 0, 0, 0, 0, 0, 0), (0, 2, 0, 0, 1, 0, 0, 0, 10, 0),
  (23, 3, 52, 0, 1, 0, 0, 0, 0, 0), (24, 0, 39, 0, 1, 0, 0, 0, 0, 0)]
def q36_39 : List XO := [(6, 1, 0, 0, 0, 0, 0, 0, 0, 0), (19, 1, 0, 0, 0, 0, 0, 0, 0, 0), (42, 3, 34, 5, 2, 220, 0, 0, 0, 0), (0, 1, 0, 0, 0, 0, 0, 0, 1, 0), (11, 1, 0, 0, 0, 0, 0, 0, 0, 0), (45, 3, 34, 5, 2, 220, 0, 0, 0, 0),
  (24, 3, 0, 0, 0, 0, 0, 0, 0, 0)]
def q36_52 : List XO := [(6, 1, 0, 0, 0, 0, 0, 0, 0, 0), (6, 1, 0, 0, 0, 0, 0, 0, 0, 0), (42, 3, 34, 5, 2, 220, 0, 0, 0, 0), (45, 3, 46, 5, 3, 221, 0, 0, 0, 0), (6, 1, 0, 0, 0, 0, 0, 0, 0, 0), (42, 3, 34, 5, 2, 220, 0, 0, 0, 0),
  (6, 1, 0, 0, 0, 0, 0, 0, 0, 0), (42, 3, 24, 5, 1, 219, 0, 0, 0, 0), (23, 3, 79, 0, 2, 0, 0, 0, 0, 0), (6, 1, 0, 0, 0, 0, 0, 0, 0, 0), (0, 1, 0, 0, 0, 0, 0, 0, 0, 0), (45, 3, 49, 5, 4, 224, 0, 0, 0, 0),
  (24, 3, 153, 0, 0, 0, 0, 0, 0, 0)]
def q36_79 : List XO := [(6, 1, 0, 0, 0, 0, 0, 0, 0, 0), (44, 3, 9, 5, 0, 218, 0, 0, 0, 0), (6, 1, 0, 0, 0, 0, 0, 0, 0, 0), (42, 3, 34, 5, 2, 220, 0, 0, 0, 0), (37, 1, 0, 0, 0, 0, 0, 0, 0, 0), (0, 2, 0, 0, 1, 0, 0, 0, 97, 0),
  (23, 3, 114, 0, 2, 0, 0, 0, 0, 0), (6, 1, 0, 0, 0, 0, 0, 0, 0, 0), (44, 3, 9, 5, 0, 218, 0, 0, 0, 0), (6, 1, 0, 0, 0, 0, 0, 0, 0, 0), (42, 3, 34, 5, 2, 220, 0, 0, 0, 0), (37, 1, 0, 0, 0, 0, 0, 0, 0, 0),
  (0, 2, 0, 0, 1, 0, 0, 0, 122, 0), (23, 3, 114, 0, 4, 0, 0, 0, 0, 0), (6, 1, 0, 0, 0, 0, 0, 0, 0, 0), (48, 3, 52, 37, 0, 666, 1, 5, 0, 0), (24, 3, 153, 0, 0, 0, 0, 0, 0, 0)]
def q36_114 : List XO := [(6, 1, 0, 0, 0, 0, 0, 0, 0, 0), (44, 3, 9, 5, 0, 218, 0, 0, 0, 0), (6, 1, 0, 0, 0, 0, 0, 0, 0, 0), (42, 3, 34, 5, 2, 220, 0, 0, 0, 0), (37, 1, 0, 0, 0, 0, 0, 0, 0, 0), (0, 2, 0, 0, 1, 0, 0, 0, 48, 0),
  (23, 3, 149, 0, 2, 0, 0, 0, 0, 0), (6, 1, 0, 0, 0, 0, 0, 0, 0, 0), (44, 3, 9, 5, 0, 218, 0, 0, 0, 0), (6, 1, 0, 0, 0, 0, 0, 0, 0, 0), (42, 3, 34, 5, 2, 220, 0, 0, 0, 0), (37, 1, 0, 0, 0, 0, 0, 0, 0, 0),
  (0, 2, 0, 0, 1, 0, 0, 0, 57, 0), (23, 3, 149, 0, 4, 0, 0, 0, 0, 0), (6, 1, 0, 0, 0, 0, 0, 0, 0, 0), (48, 3, 55, 38, 0, 670, 1, 5, 0, 0), (24, 3, 153, 0, 0, 0, 0, 0, 0, 0)]
def q36_149 : List XO := [(6, 1, 0, 0, 0, 0, 0, 0, 0, 0), (48, 3, 58, 39, 0, 674, 1, 5, 0, 0), (24, 0, 153, 0, 1, 0, 0, 0, 0, 0)]
def q36_153 : List XO := [(27, 1, 0, 0, 3, 0, 0, 0, 0, 0)]
def xt36 : List (Nat × List XO) := [(0, q36_0), (39, q36_39), (52, q36_52), (79, q36_79), (114, q36_114), (149, q36_149), (153, q36_153)]
def q37_0 : List XO := [(6, 1, 0, 0, 0, 0, 0, 0, 0, 0), (0, 1, 0, 0, 0, 0, 0, 0, 1, 0), (45, 3, 49, 5, 4, 224, 0, 0, 0, 0), (6, 1, 0, 0, 0, 0, 0, 0, 0, 0), (1, 1, 0, 0, 0, 0, 0, 0, 0, 0), (46, 3, 61, 5, 5, 225, 0, 0, 0, 0),
  (24, 0, 10, 0, 1, 0, 0, 0, 0, 0)]
def q37_10 : List XO := [(6, 1, 0, 0, 0, 0, 0, 0, 0, 0), (42, 3, 34, 5, 2, 220, 0, 0, 0, 0), (6, 1, 0, 0, 0, 0, 0, 0, 0, 0), (42, 3, 24, 5, 1, 219, 0, 0, 0, 0), (23, 3, 100, 0, 3, 0, 0, 0, 0, 0), (6, 1, 0, 0, 0, 0, 0, 0, 0, 0),
  (44, 3, 9, 5, 0, 218, 0, 0, 0, 0), (6, 1, 0, 0, 0, 0, 0, 0, 0, 0), (42, 3, 34, 5, 2, 220, 0, 0, 0, 0), (37, 1, 0, 0, 0, 0, 0, 0, 0, 0), (0, 2, 0, 0, 1, 0, 0, 0, 97, 0), (23, 3, 100, 0, 2, 0, 0, 0, 0, 0),
  (6, 1, 0, 0, 0, 0, 0, 0, 0, 0), (44, 3, 9, 5, 0, 218, 0, 0, 0, 0), (6, 1, 0, 0, 0, 0, 0, 0, 0, 0), (42, 3, 34, 5, 2, 220, 0, 0, 0, 0), (37, 1, 0, 0, 0, 0, 0, 0, 0, 0), (0, 2, 0, 0, 1, 0, 0, 0, 122, 0),
  (23, 3, 100, 0, 4, 0, 0, 0, 0, 0), (6, 1, 0, 0, 0, 0, 0, 0, 0, 0), (42, 3, 34, 5, 2, 220, 0, 0, 0, 0), (6, 1, 0, 0, 0, 0, 0, 0, 0, 0), (42, 3, 46, 5, 3, 221, 0, 0, 0, 0), (11, 1, 0, 0, 1, 0, 0, 0, 0, 0),
  (0, 2, 0, 0, 1, 0, 0, 0, 8, 0), (23, 3, 87, 0, 3, 0, 0, 0, 0, 0), (6, 1, 0, 0, 0, 0, 0, 0, 0, 0), (6, 1, 0, 0, 0, 0, 0, 0, 0, 0), (43, 3, 61, 5, 5, 225, 0, 0, 0, 0), (0, 1, 0, 0, 0, 0, 0, 0, 5, 0),
  (16, 1, 0, 0, 0, 0, 0, 0, 0, 0), (6, 1, 0, 0, 0, 0, 0, 0, 0, 0), (44, 3, 9, 5, 0, 218, 0, 0, 0, 0), (6, 1, 0, 0, 0, 0, 0, 0, 0, 0), (42, 3, 34, 5, 2, 220, 0, 0, 0, 0), (37, 1, 0, 0, 0, 0, 0, 0, 0, 0),
  (0, 2, 0, 0, 1, 0, 0, 0, 31, 0), (11, 1, 0, 0, 3, 0, 0, 0, 0, 0), (17, 1, 0, 0, 0, 0, 0, 0, 0, 0), (14, 1, 0, 0, 4, 0, 0, 0, 0, 0), (46, 3, 61, 5, 5, 225, 0, 0, 0, 0), (24, 0, 87, 0, 1, 0, 0, 0, 0, 0)]
def q37_87 : List XO := [(6, 1, 0, 0, 0, 0, 0, 0, 0, 0), (19, 1, 0, 0, 0, 0, 0, 0, 0, 0), (42, 3, 34, 5, 2, 220, 0, 0, 0, 0), (0, 1, 0, 0, 0, 0, 0, 0, 1, 0), (11, 1, 0, 0, 0, 0, 0, 0, 0, 0), (45, 3, 34, 5, 2, 220, 0, 0, 0, 0),
  (24, 3, 10, 0, 0, 0, 0, 0, 0, 0)]
def q37_100 : List XO := [(6, 1, 0, 0, 0, 0, 0, 0, 0, 0), (42, 3, 34, 5, 2, 220, 0, 0, 0, 0), (6, 1, 0, 0, 0, 0, 0, 0, 0, 0), (42, 3, 46, 5, 3, 221, 0, 0, 0, 0), (11, 1, 0, 0, 1, 0, 0, 0, 0, 0), (0, 2, 0, 0, 1, 0, 0, 0, 8, 0),
  (23, 3, 119, 0, 5, 0, 0, 0, 0, 0), (6, 1, 0, 0, 0, 0, 0, 0, 0, 0), (1, 1, 0, 0, 0, 0, 0, 0, 0, 0), (46, 3, 61, 5, 5, 225, 0, 0, 0, 0), (24, 0, 119, 0, 1, 0, 0, 0, 0, 0)]
def q37_119 : List XO := [(27, 1, 0, 0, 3, 0, 0, 0, 0, 0)]
def xt37 : List (Nat × List XO) := [(0, q37_0), (10, q37_10), (87, q37_87), (100, q37_100), (119, q37_119)]
def q38_0 : List XO := [(6, 1, 0, 0, 0, 0, 0, 0, 0, 0), (0, 1, 0, 0, 0, 0, 0, 0, 0, 0), (45, 3, 65, 5, 6, 229, 0, 0, 0, 0), (24, 0, 5, 0, 1, 0, 0, 0, 0, 0)]
def q38_5 : List XO := [(6, 1, 0, 0, 0, 0, 0, 0, 0, 0), (42, 3, 34, 5, 2, 220, 0, 0, 0, 0), (6, 1, 0, 0, 0, 0, 0, 0, 0, 0), (42, 3, 24, 5, 1, 219, 0, 0, 0, 0), (23, 3, 94, 0, 3, 0, 0, 0, 0, 0), (6, 1, 0, 0, 0, 0, 0, 0, 0, 0),
  (44, 3, 9, 5, 0, 218, 0, 0, 0, 0), (6, 1, 0, 0, 0, 0, 0, 0, 0, 0), (42, 3, 34, 5, 2, 220, 0, 0, 0, 0), (37, 1, 0, 0, 0, 0, 0, 0, 0, 0), (0, 2, 0, 0, 1, 0, 0, 0, 48, 0), (23, 3, 94, 0, 2, 0, 0, 0, 0, 0),
  (6, 1, 0, 0, 0, 0, 0, 0, 0, 0), (44, 3, 9, 5, 0, 218, 0, 0, 0, 0), (6, 1, 0, 0, 0, 0, 0, 0, 0, 0), (42, 3, 34, 5, 2, 220, 0, 0, 0, 0), (37, 1, 0, 0, 0, 0, 0, 0, 0, 0), (0, 2, 0, 0, 1, 0, 0, 0, 57, 0),
  (23, 3, 94, 0, 4, 0, 0, 0, 0, 0), (6, 1, 0, 0, 0, 0, 0, 0, 0, 0), (42, 3, 34, 5, 2, 220, 0, 0, 0, 0), (6, 1, 0, 0, 0, 0, 0, 0, 0, 0), (42, 3, 46, 5, 3, 221, 0, 0, 0, 0), (11, 1, 0, 0, 1, 0, 0, 0, 0, 0),
  (0, 1, 0, 0, 0, 0, 0, 0, 4, 0), (23, 3, 81, 0, 3, 0, 0, 0, 0, 0), (6, 1, 0, 0, 0, 0, 0, 0, 0, 0), (6, 1, 0, 0, 0, 0, 0, 0, 0, 0), (42, 3, 65, 5, 6, 229, 0, 0, 0, 0), (0, 2, 0, 0, 1, 0, 0, 0, 10, 0),
  (11, 1, 0, 0, 2, 0, 0, 0, 0, 0), (6, 1, 0, 0, 0, 0, 0, 0, 0, 0), (44, 3, 9, 5, 0, 218, 0, 0, 0, 0), (6, 1, 0, 0, 0, 0, 0, 0, 0, 0), (42, 3, 34, 5, 2, 220, 0, 0, 0, 0), (37, 1, 0, 0, 0, 0, 0, 0, 0, 0),
  (0, 2, 0, 0, 1, 0, 0, 0, 48, 0), (11, 1, 0, 0, 1, 0, 0, 0, 0, 0), (11, 1, 0, 0, 0, 0, 0, 0, 0, 0), (45, 3, 65, 5, 6, 229, 0, 0, 0, 0), (24, 0, 81, 0, 1, 0, 0, 0, 0, 0)]
def q38_81 : List XO := [(6, 1, 0, 0, 0, 0, 0, 0, 0, 0), (19, 1, 0, 0, 0, 0, 0, 0, 0, 0), (42, 3, 34, 5, 2, 220, 0, 0, 0, 0), (0, 1, 0, 0, 0, 0, 0, 0, 1, 0), (11, 1, 0, 0, 0, 0, 0, 0, 0, 0), (45, 3, 34, 5, 2, 220, 0, 0, 0, 0),
  (24, 3, 5, 0, 0, 0, 0, 0, 0, 0)]
def q38_94 : List XO := [(6, 1, 0, 0, 0, 0, 0, 0, 0, 0), (6, 1, 0, 0, 0, 0, 0, 0, 0, 0), (42, 3, 34, 5, 2, 220, 0, 0, 0, 0), (6, 1, 0, 0, 0, 0, 0, 0, 0, 0), (42, 3, 46, 5, 3, 221, 0, 0, 0, 0), (11, 1, 0, 0, 1, 0, 0, 0, 0, 0),
  (0, 1, 0, 0, 0, 0, 0, 0, 4, 0), (23, 3, 112, 0, 5, 0, 0, 0, 0, 0), (0, 1, 0, 0, 0, 0, 0, 0, 4, 0), (24, 3, 113, 0, 0, 0, 0, 0, 0, 0)]
def q38_112 : List XO := [(0, 1, 0, 0, 0, 0, 0, 0, 2, 0), (24, 0, 113, 0, 1, 0, 0, 0, 0, 0)]
def q38_113 : List XO := [(45, 3, 49, 5, 4, 224, 0, 0, 0, 0), (27, 1, 0, 0, 3, 0, 0, 0, 0, 0)]
def xt38 : List (Nat × List XO) := [(0, q38_0), (5, q38_5), (81, q38_81), (94, q38_94), (112, q38_112), (113, q38_113)]
def q39_0 : List XO := [(6, 1, 0, 0, 0, 0, 0, 0, 0, 0), (6, 1, 0, 0, 0, 0, 0, 0, 0, 0), (42, 3, 34, 5, 2, 220, 0, 0, 0, 0), (6, 1, 0, 0, 0, 0, 0, 0, 0, 0), (42, 3, 24, 5, 1, 219, 0, 0, 0, 0), (23, 3, 24, 0, 3, 0, 0, 0, 0, 0),
  (6, 1, 0, 0, 0, 0, 0, 0, 0, 0), (44, 3, 9, 5, 0, 218, 0, 0, 0, 0), (6, 1, 0, 0, 0, 0, 0, 0, 0, 0), (42, 3, 34, 5, 2, 220, 0, 0, 0, 0), (37, 1, 0, 0, 0, 0, 0, 0, 0, 0), (24, 3, 25, 0, 0, 0, 0, 0, 0, 0)]
def q39_24 : List XO := [(0, 1, 0, 0, 0, 0, 0, 0, 0, 0), (24, 0, 25, 0, 1, 0, 0, 0, 0, 0)]
def q39_25 : List XO := [(45, 3, 68, 5, 7, 231, 0, 0, 0, 0), (6, 1, 0, 0, 0, 0, 0, 0, 0, 0), (42, 3, 68, 5, 7, 231, 0, 0, 0, 0), (0, 2, 0, 0, 1, 0, 0, 0, 59, 0), (23, 3, 64, 0, 0, 0, 0, 0, 0, 0), (6, 1, 0, 0, 0, 0, 0, 0, 0, 0),
  (42, 3, 68, 5, 7, 231, 0, 0, 0, 0), (0, 2, 0, 0, 1, 0, 0, 0, 60, 0), (23, 3, 64, 0, 0, 0, 0, 0, 0, 0), (6, 1, 0, 0, 0, 0, 0, 0, 0, 0), (42, 3, 68, 5, 7, 231, 0, 0, 0, 0), (0, 2, 0, 0, 1, 0, 0, 0, 62, 0),
  (23, 3, 64, 0, 0, 0, 0, 0, 0, 0), (6, 1, 0, 0, 0, 0, 0, 0, 0, 0), (42, 3, 68, 5, 7, 231, 0, 0, 0, 0), (0, 2, 0, 0, 1, 0, 0, 0, 61, 0), (23, 3, 68, 0, 1, 0, 0, 0, 0, 0), (24, 0, 64, 0, 1, 0, 0, 0, 0, 0)]
def q39_64 : List XO := [(0, 1, 0, 0, 0, 0, 0, 0, 1, 0), (24, 3, 69, 0, 0, 0, 0, 0, 0, 0)]
def q39_68 : List XO := [(0, 1, 0, 0, 0, 0, 0, 0, 0, 0), (24, 0, 69, 0, 1, 0, 0, 0, 0, 0)]
def q39_69 : List XO := [(7, 1, 1, 0, 0, 0, 0, 0, 0, 0), (6, 1, 0, 0, 0, 0, 0, 0, 0, 0), (4, 1, 1, 0, 0, 0, 0, 0, 0, 0), (22, 3, 79, 0, 0, 0, 0, 0, 0, 0), (0, 1, 0, 0, 0, 0, 0, 0, 3, 0), (24, 3, 80, 0, 0, 0, 0, 0, 0, 0)]
def q39_79 : List XO := [(0, 1, 0, 0, 0, 0, 0, 0, 4, 0), (24, 0, 80, 0, 1, 0, 0, 0, 0, 0)]
def q39_80 : List XO := [(45, 3, 49, 5, 4, 224, 0, 0, 0, 0), (6, 1, 0, 0, 0, 0, 0, 0, 0, 0), (19, 1, 0, 0, 0, 0, 0, 0, 0, 0), (42, 3, 34, 5, 2, 220, 0, 0, 0, 0), (0, 1, 0, 0, 0, 0, 0, 0, 1, 0), (11, 1, 0, 0, 0, 0, 0, 0, 0, 0),
  (45, 3, 34, 5, 2, 220, 0, 0, 0, 0), (27, 1, 0, 0, 3, 0, 0, 0, 0, 0)]
def xt39 : List (Nat × List XO) := [(0, q39_0), (24, q39_24), (25, q39_25), (64, q39_64), (68, q39_68), (69, q39_69), (79, q39_79), (80, q39_80)]
def q40_0 : List XO := [(1, 1, 0, 0, 0, 0, 0, 0, 0, 0), (8, 1, 2, 0, 0, 0, 0, 0, 0, 0), (0, 1, 0, 0, 0, 0, 0, 0, 0, 0), (7, 2, 4, 0, 0, 0, 0, 0, 0, 0), (24, 0, 5, 0, 1, 0, 0, 0, 0, 0)]
def q40_5 : List XO := [(4, 2, 4, 0, 0, 0, 0, 0, 0, 0), (6, 1, 1, 0, 0, 0, 0, 0, 0, 0), (60, 3, 71, 41, 0, 684, 1, 99, 0, 0), (23, 3, 35, 0, 3, 0, 0, 0, 0, 0), (5, 1, 2, 0, 0, 0, 0, 0, 0, 0), (0, 1, 0, 0, 0, 0, 0, 0, 5, 0),
  (16, 1, 0, 0, 0, 0, 0, 0, 0, 0), (6, 1, 1, 0, 0, 0, 0, 0, 0, 0), (4, 2, 4, 0, 0, 0, 0, 0, 0, 0), (60, 3, 76, 43, 0, 694, 2, 99, 0, 0), (0, 2, 0, 0, 1, 0, 0, 0, 31, 0), (11, 1, 0, 0, 3, 0, 0, 0, 0, 0),
  (17, 1, 0, 0, 0, 0, 0, 0, 0, 0), (14, 1, 0, 0, 4, 0, 0, 0, 0, 0), (8, 1, 2, 0, 0, 0, 0, 0, 0, 0), (10, 3, 4, 0, 0, 0, 0, 0, 1, 0), (24, 3, 5, 0, 0, 0, 0, 0, 0, 0)]
def q40_35 : List XO := [(6, 1, 0, 0, 0, 0, 0, 0, 0, 0), (42, 3, 49, 5, 4, 224, 0, 0, 0, 0), (0, 1, 0, 0, 0, 0, 0, 0, 1, 0), (23, 3, 56, 0, 1, 0, 0, 0, 0, 0), (6, 1, 0, 0, 0, 0, 0, 0, 0, 0), (43, 3, 61, 5, 5, 225, 0, 0, 0, 0),
  (5, 1, 2, 0, 0, 0, 0, 0, 0, 0), (18, 1, 0, 0, 0, 0, 0, 0, 0, 0), (22, 3, 56, 0, 1, 0, 0, 0, 0, 0), (0, 1, 0, 0, 0, 0, 0, 0, 1, 0), (24, 3, 57, 0, 0, 0, 0, 0, 0, 0)]
def q40_56 : List XO := [(0, 1, 0, 0, 0, 0, 0, 0, 0, 0), (24, 0, 57, 0, 1, 0, 0, 0, 0, 0)]
def q40_57 : List XO := [(27, 1, 0, 0, 1, 0, 0, 0, 0, 0)]
def xt40 : List (Nat × List XO) := [(0, q40_0), (5, q40_5), (35, q40_35), (56, q40_56), (57, q40_57)]
def q41_0 : List XO := [(6, 1, 0, 0, 0, 0, 0, 0, 0, 0), (51, 3, 9, 0, 0, 2150, 0, 0, 0, 0), (56, 1, 0, 0, 0, 0, 0, 0, 0, 0), (6, 1, 0, 0, 0, 0, 0, 0, 0, 0), (60, 3, 335, 42, 0, 688, 1, 99, 0, 0), (11, 1, 0, 0, 7, 0, 0, 0, 0, 0),
  (27, 1, 0, 0, 0, 0, 0, 0, 0, 0)]
def xt41 : List (Nat × List XO) := [(0, q41_0)]
def q42_0 : List XO := [(58, 3, 38, 0, 0, 692, 0, 0, 0, 0), (22, 3, 13, 0, 0, 0, 0, 0, 0, 0), (6, 1, 0, 0, 0, 0, 0, 0, 0, 0), (52, 3, 15, 0, 0, 2151, 0, 0, 0, 0), (24, 3, 14, 0, 0, 0, 0, 0, 0, 0)]
def q42_13 : List XO := [(0, 1, 0, 0, 0, 0, 0, 0, 1, 0), (24, 0, 14, 0, 1, 0, 0, 0, 0, 0)]
def q42_14 : List XO := [(27, 1, 0, 0, 4, 0, 0, 0, 0, 0)]
def xt42 : List (Nat × List XO) := [(0, q42_0), (13, q42_13), (14, q42_14)]
def q43_0 : List XO := [(6, 1, 0, 0, 0, 0, 0, 0, 0, 0), (60, 3, 492, 44, 0, 698, 1, 99, 0, 0), (22, 3, 16, 0, 0, 0, 0, 0, 0, 0), (6, 1, 0, 0, 0, 0, 0, 0, 0, 0), (51, 3, 9, 0, 0, 2150, 0, 0, 0, 0), (4, 1, 1, 0, 0, 0, 0, 0, 0, 0),
  (48, 3, 495, 45, 1, 702, 2, 99, 0, 0), (27, 1, 0, 0, 5, 0, 0, 0, 0, 0)]
def xt43 : List (Nat × List XO) := [(0, q43_0)]
def q44_0 : List XO := [(58, 3, 38, 0, 0, 692, 0, 0, 0, 0), (22, 3, 17, 0, 0, 0, 0, 0, 0, 0), (6, 1, 0, 0, 0, 0, 0, 0, 0, 0), (52, 3, 15, 0, 0, 2151, 0, 0, 0, 0), (22, 3, 17, 0, 1, 0, 0, 0, 0, 0), (0, 1, 0, 0, 0, 0, 0, 0, 1, 0),
  (24, 3, 18, 0, 0, 0, 0, 0, 0, 0)]
def q44_17 : List XO := [(0, 1, 0, 0, 0, 0, 0, 0, 0, 0), (24, 0, 18, 0, 1, 0, 0, 0, 0, 0)]
def q44_18 : List XO := [(27, 1, 0, 0, 1, 0, 0, 0, 0, 0)]
def xt44 : List (Nat × List XO) := [(0, q44_0), (17, q44_17), (18, q44_18)]
def q45_0 : List XO := [(4, 1, 1, 0, 0, 0, 0, 0, 0, 0), (6, 1, 0, 0, 0, 0, 0, 0, 0, 0), (56, 1, 0, 0, 0, 0, 0, 0, 0, 0), (48, 3, 9, 46, 1, 705, 2, 99, 0, 0), (6, 1, 0, 0, 0, 0, 0, 0, 0, 0), (4, 1, 1, 0, 0, 0, 0, 0, 0, 0),
  (57, 1, 0, 0, 0, 0, 0, 0, 0, 0), (0, 3, 0, 0, 2, 0, 0, 0, 255, 0), (11, 1, 0, 0, 3, 0, 0, 0, 0, 0), (17, 1, 0, 0, 4, 0, 0, 0, 0, 0), (27, 1, 0, 0, 5, 0, 0, 0, 0, 0)]
def xt45 : List (Nat × List XO) := [(0, q45_0)]
def q46_0 : List XO := [(4, 1, 0, 0, 0, 0, 0, 0, 0, 0), (4, 1, 1, 0, 0, 0, 0, 0, 0, 0), (59, 3, 1053, 0, 0, 708, 0, 0, 0, 0), (48, 3, 1059, 47, 1, 710, 3, 99, 0, 0), (21, 1, 0, 0, 0, 0, 0, 0, 0, 0), (27, 1, 0, 0, 3, 0, 0, 0, 0, 0)]
def xt46 : List (Nat × List XO) := [(0, q46_0)]
def q47_0 : List XO := [(4, 1, 0, 0, 0, 0, 0, 0, 0, 0), (22, 3, 9, 0, 2, 0, 0, 0, 0, 0), (4, 1, 0, 0, 0, 0, 0, 0, 0, 0), (4, 1, 1, 0, 0, 0, 0, 0, 0, 0), (23, 3, 16, 0, 2, 0, 0, 0, 0, 0), (24, 0, 9, 0, 1, 0, 0, 0, 0, 0)]
def q47_16 : List XO := [(4, 1, 0, 0, 0, 0, 0, 0, 0, 0), (27, 1, 0, 0, 0, 0, 0, 0, 0, 0)]
def xt47 : List (Nat × List XO) := [(0, q47_0), (16, q47_16)]
def q52_0 : List XO := [(6, 1, 0, 0, 0, 0, 0, 0, 0, 0), (42, 3, 27, 1, 1, 261, 0, 0, 0, 0), (22, 3, 21, 0, 1, 0, 0, 0, 0, 0), (6, 1, 1, 0, 0, 0, 0, 0, 0, 0), (42, 3, 67, 0, 3, 437, 0, 0, 0, 0), (22, 3, 21, 0, 4, 0, 0, 0, 0, 0),
  (6, 1, 1, 0, 0, 0, 0, 0, 0, 0), (42, 3, 70, 0, 7, 445, 0, 0, 0, 0), (22, 3, 30, 0, 5, 0, 0, 0, 0, 0), (24, 0, 21, 0, 1, 0, 0, 0, 0, 0)]
def q52_21 : List XO := [(6, 1, 0, 0, 0, 0, 0, 0, 0, 0), (44, 3, 12, 1, 0, 259, 0, 0, 0, 0), (0, 1, 0, 0, 0, 0, 0, 0, 5, 0), (48, 3, 73, 53, 0, 736, 2, 5, 0, 0), (27, 1, 0, 0, 1, 0, 0, 0, 0, 0)]
def q52_30 : List XO := [(6, 1, 0, 0, 0, 0, 0, 0, 0, 0), (0, 1, 0, 0, 0, 0, 0, 0, 1, 0), (61, 3, 27, 1, 1, 261, 0, 0, 0, 0), (6, 1, 0, 0, 0, 0, 0, 0, 0, 0), (44, 3, 12, 1, 0, 259, 0, 0, 0, 0), (48, 3, 77, 36, 0, 740, 1, 5, 0, 0),
  (6, 1, 0, 0, 0, 0, 0, 0, 0, 0), (44, 3, 12, 1, 0, 259, 0, 0, 0, 0), (0, 1, 0, 0, 0, 0, 0, 0, 1, 0), (0, 2, 0, 0, 1, 0, 0, 0, 6, 0), (48, 3, 80, 54, 0, 741, 3, 5, 0, 0), (22, 3, 57, 0, 1, 0, 0, 0, 0, 0),
  (0, 1, 0, 0, 0, 0, 0, 0, 0, 0), (27, 1, 0, 0, 1, 0, 0, 0, 0, 0)]
def q52_57 : List XO := [(6, 1, 1, 0, 0, 0, 0, 0, 0, 0), (6, 1, 0, 0, 0, 0, 0, 0, 0, 0), (44, 3, 12, 1, 0, 259, 0, 0, 0, 0), (42, 3, 84, 5, 6, 228, 0, 0, 0, 0), (45, 3, 87, 0, 0, 424, 0, 0, 0, 0), (6, 1, 0, 0, 0, 0, 0, 0, 0, 0),
  (44, 3, 12, 1, 0, 259, 0, 0, 0, 0), (48, 3, 77, 36, 0, 740, 1, 5, 0, 0), (6, 1, 0, 0, 0, 0, 0, 0, 0, 0), (44, 3, 12, 1, 0, 259, 0, 0, 0, 0), (2, 2, 90, 1, 0, 750, 0, 0, 0, 0), (48, 3, 92, 56, 0, 751, 2, 5, 0, 0),
  (22, 3, 99, 0, 0, 0, 0, 0, 0, 0), (6, 1, 0, 0, 0, 0, 0, 0, 0, 0), (44, 3, 12, 1, 0, 259, 0, 0, 0, 0), (0, 1, 0, 0, 0, 0, 0, 0, 1, 0), (0, 1, 0, 0, 0, 0, 0, 0, 5, 0), (48, 3, 80, 54, 0, 741, 3, 5, 0, 0),
  (22, 3, 101, 0, 1, 0, 0, 0, 0, 0), (24, 0, 99, 0, 1, 0, 0, 0, 0, 0)]
def q52_99 : List XO := [(0, 1, 0, 0, 0, 0, 0, 0, 0, 0), (27, 1, 0, 0, 1, 0, 0, 0, 0, 0)]
def q52_101 : List XO := [(6, 1, 1, 0, 0, 0, 0, 0, 0, 0), (6, 1, 0, 0, 0, 0, 0, 0, 0, 0), (44, 3, 12, 1, 0, 259, 0, 0, 0, 0), (42, 3, 84, 5, 6, 228, 0, 0, 0, 0), (45, 3, 95, 0, 1, 429, 0, 0, 0, 0), (6, 1, 0, 0, 0, 0, 0, 0, 0, 0),
  (44, 3, 12, 1, 0, 259, 0, 0, 0, 0), (48, 3, 77, 36, 0, 740, 1, 5, 0, 0), (6, 1, 0, 0, 0, 0, 0, 0, 0, 0), (44, 3, 12, 1, 0, 259, 0, 0, 0, 0), (48, 3, 98, 57, 0, 756, 1, 5, 0, 0), (27, 1, 0, 0, 1, 0, 0, 0, 0, 0)]
def xt52 : List (Nat × List XO) := [(0, q52_0), (21, q52_21), (30, q52_30), (57, q52_57), (99, q52_99), (101, q52_101)]
def q53_0 : List XO := [(6, 1, 0, 0, 0, 0, 0, 0, 0, 0), (4, 1, 1, 0, 0, 0, 0, 0, 0, 0), (45, 3, 37, 5, 8, 233, 0, 0, 0, 0), (6, 1, 0, 0, 0, 0, 0, 0, 0, 0), (6, 1, 0, 0, 0, 0, 0, 0, 0, 0), (42, 3, 46, 5, 3, 221, 0, 0, 0, 0),
  (45, 3, 40, 5, 9, 235, 0, 0, 0, 0), (0, 1, 0, 0, 0, 0, 0, 0, 0, 0), (27, 1, 0, 0, 1, 0, 0, 0, 0, 0)]
def xt53 : List (Nat × List XO) := [(0, q53_0)]
def q54_0 : List XO := [(6, 1, 0, 0, 0, 0, 0, 0, 0, 0), (42, 3, 49, 5, 4, 224, 0, 0, 0, 0), (0, 1, 0, 0, 0, 0, 0, 0, 2, 0), (23, 3, 13, 0, 0, 0, 0, 0, 0, 0), (6, 1, 0, 0, 0, 0, 0, 0, 0, 0), (48, 3, 88, 55, 0, 745, 1, 5, 0, 0),
  (27, 1, 0, 0, 1, 0, 0, 0, 0, 0)]
def q54_13 : List XO := [(6, 1, 0, 0, 0, 0, 0, 0, 0, 0), (42, 3, 65, 5, 6, 229, 0, 0, 0, 0), (4, 1, 1, 0, 0, 0, 0, 0, 0, 0), (23, 3, 29, 0, 2, 0, 0, 0, 0, 0), (6, 1, 0, 0, 0, 0, 0, 0, 0, 0), (42, 3, 65, 5, 6, 229, 0, 0, 0, 0),
  (4, 1, 2, 0, 0, 0, 0, 0, 0, 0), (23, 3, 37, 0, 5, 0, 0, 0, 0, 0), (24, 0, 29, 0, 1, 0, 0, 0, 0, 0)]
def q54_29 : List XO := [(6, 1, 0, 0, 0, 0, 0, 0, 0, 0), (0, 1, 0, 0, 0, 0, 0, 0, 4, 0), (48, 3, 92, 53, 0, 749, 2, 5, 0, 0), (22, 3, 41, 0, 0, 0, 0, 0, 0, 0), (24, 0, 37, 0, 1, 0, 0, 0, 0, 0)]
def q54_37 : List XO := [(0, 1, 0, 0, 0, 0, 0, 0, 1, 0), (24, 3, 42, 0, 0, 0, 0, 0, 0, 0)]
def q54_41 : List XO := [(0, 1, 0, 0, 0, 0, 0, 0, 0, 0), (24, 0, 42, 0, 1, 0, 0, 0, 0, 0)]
def q54_42 : List XO := [(27, 1, 0, 0, 1, 0, 0, 0, 0, 0)]
def xt54 : List (Nat × List XO) := [(0, q54_0), (13, q54_13), (29, q54_29), (37, q54_37), (41, q54_41), (42, q54_42)]
def q55_0 : List XO := [(6, 1, 0, 0, 0, 0, 0, 0, 0, 0), (6, 1, 0, 0, 0, 0, 0, 0, 0, 0), (42, 3, 49, 5, 4, 224, 0, 0, 0, 0), (0, 1, 0, 0, 0, 0, 0, 0, 4, 0), (23, 3, 13, 0, 1, 0, 0, 0, 0, 0), (0, 1, 0, 0, 0, 0, 0, 0, 1, 0),
  (24, 3, 14, 0, 0, 0, 0, 0, 0, 0)]
def q55_13 : List XO := [(0, 1, 0, 0, 0, 0, 0, 0, 2, 0), (24, 0, 14, 0, 1, 0, 0, 0, 0, 0)]
def q55_14 : List XO := [(45, 3, 37, 5, 8, 233, 0, 0, 0, 0), (6, 1, 0, 0, 0, 0, 0, 0, 0, 0), (6, 1, 0, 0, 0, 0, 0, 0, 0, 0), (42, 3, 46, 5, 3, 221, 0, 0, 0, 0), (45, 3, 40, 5, 9, 235, 0, 0, 0, 0), (0, 1, 0, 0, 0, 0, 0, 0, 0, 0),
  (27, 1, 0, 0, 1, 0, 0, 0, 0, 0)]
def xt55 : List (Nat × List XO) := [(0, q55_0), (13, q55_13), (14, q55_14)]
def q56_0 : List XO := [(6, 1, 0, 0, 0, 0, 0, 0, 0, 0), (6, 1, 1, 0, 0, 0, 0, 0, 0, 0), (48, 3, 96, 40, 0, 755, 2, 5, 0, 0), (22, 3, 13, 0, 1, 0, 0, 0, 0, 0), (6, 1, 0, 0, 0, 0, 0, 0, 0, 0), (48, 3, 88, 55, 0, 745, 1, 5, 0, 0),
  (27, 1, 0, 0, 1, 0, 0, 0, 0, 0)]
def q56_13 : List XO := [(6, 1, 0, 0, 0, 0, 0, 0, 0, 0), (48, 3, 43, 36, 0, 662, 1, 5, 0, 0), (0, 1, 0, 0, 0, 0, 0, 0, 1, 0), (27, 1, 0, 0, 1, 0, 0, 0, 0, 0)]
def xt56 : List (Nat × List XO) := [(0, q56_0), (13, q56_13)]
def q57_0 : List XO := [(6, 1, 0, 0, 0, 0, 0, 0, 0, 0), (42, 3, 49, 5, 4, 224, 0, 0, 0, 0), (0, 1, 0, 0, 0, 0, 0, 0, 3, 0), (23, 3, 17, 0, 1, 0, 0, 0, 0, 0), (6, 1, 0, 0, 0, 0, 0, 0, 0, 0), (42, 3, 68, 5, 7, 231, 0, 0, 0, 0),
  (0, 2, 0, 0, 1, 0, 0, 0, 59, 0), (23, 3, 22, 0, 0, 0, 0, 0, 0, 0), (24, 0, 17, 0, 1, 0, 0, 0, 0, 0)]
def q57_17 : List XO := [(6, 1, 0, 0, 0, 0, 0, 0, 0, 0), (48, 3, 88, 55, 0, 745, 1, 5, 0, 0), (27, 1, 0, 0, 1, 0, 0, 0, 0, 0)]
def q57_22 : List XO := [(6, 1, 0, 0, 0, 0, 0, 0, 0, 0), (48, 3, 43, 36, 0, 662, 1, 5, 0, 0), (0, 1, 0, 0, 0, 0, 0, 0, 1, 0), (27, 1, 0, 0, 1, 0, 0, 0, 0, 0)]
def xt57 : List (Nat × List XO) := [(0, q57_0), (17, q57_17), (22, q57_22)]
def q58_0 : List XO := [(6, 1, 0, 0, 0, 0, 0, 0, 0, 0), (42, 3, 31, 1, 2, 262, 0, 0, 0, 0), (22, 3, 16, 0, 0, 0, 0, 0, 0, 0), (6, 1, 0, 0, 0, 0, 0, 0, 0, 0), (44, 3, 12, 1, 0, 259, 0, 0, 0, 0), (0, 1, 0, 0, 0, 0, 0, 0, 5, 0),
  (48, 3, 73, 53, 0, 736, 2, 5, 0, 0), (27, 1, 0, 0, 1, 0, 0, 0, 0, 0)]
def q58_16 : List XO := [(6, 1, 0, 0, 0, 0, 0, 0, 0, 0), (0, 1, 0, 0, 0, 0, 0, 0, 1, 0), (61, 3, 31, 1, 2, 262, 0, 0, 0, 0), (6, 1, 0, 0, 0, 0, 0, 0, 0, 0), (44, 3, 12, 1, 0, 259, 0, 0, 0, 0), (48, 3, 77, 36, 0, 740, 1, 5, 0, 0),
  (6, 1, 0, 0, 0, 0, 0, 0, 0, 0), (44, 3, 12, 1, 0, 259, 0, 0, 0, 0), (0, 1, 0, 0, 0, 0, 0, 0, 0, 0), (0, 2, 0, 0, 1, 0, 0, 0, 16, 0), (48, 3, 80, 54, 0, 741, 3, 5, 0, 0), (22, 3, 43, 0, 1, 0, 0, 0, 0, 0),
  (0, 1, 0, 0, 0, 0, 0, 0, 0, 0), (27, 1, 0, 0, 1, 0, 0, 0, 0, 0)]
def q58_43 : List XO := [(6, 1, 1, 0, 0, 0, 0, 0, 0, 0), (6, 1, 0, 0, 0, 0, 0, 0, 0, 0), (44, 3, 12, 1, 0, 259, 0, 0, 0, 0), (42, 3, 84, 5, 6, 228, 0, 0, 0, 0), (45, 3, 101, 0, 2, 433, 0, 0, 0, 0), (6, 1, 0, 0, 0, 0, 0, 0, 0, 0),
  (44, 3, 12, 1, 0, 259, 0, 0, 0, 0), (48, 3, 77, 36, 0, 740, 1, 5, 0, 0), (6, 1, 0, 0, 0, 0, 0, 0, 0, 0), (44, 3, 12, 1, 0, 259, 0, 0, 0, 0), (48, 3, 98, 57, 0, 756, 1, 5, 0, 0), (27, 1, 0, 0, 1, 0, 0, 0, 0, 0)]
def xt58 : List (Nat × List XO) := [(0, q58_0), (16, q58_16), (43, q58_43)]
def q59_0 : List XO := [(6, 1, 1, 0, 0, 0, 0, 0, 0, 0), (42, 3, 67, 0, 3, 437, 0, 0, 0, 0), (0, 2, 0, 0, 1, 0, 0, 0, 15, 0), (23, 3, 19, 0, 2, 0, 0, 0, 0, 0), (6, 1, 0, 0, 0, 0, 0, 0, 0, 0), (44, 3, 12, 1, 0, 259, 0, 0, 0, 0),
  (0, 2, 0, 0, 1, 0, 0, 0, 6, 0), (48, 3, 73, 53, 0, 736, 2, 5, 0, 0), (27, 1, 0, 0, 1, 0, 0, 0, 0, 0)]
def q59_19 : List XO := [(6, 1, 0, 0, 0, 0, 0, 0, 0, 0), (44, 3, 12, 1, 0, 259, 0, 0, 0, 0), (48, 3, 77, 36, 0, 740, 1, 5, 0, 0), (6, 1, 0, 0, 0, 0, 0, 0, 0, 0), (44, 3, 12, 1, 0, 259, 0, 0, 0, 0), (0, 1, 0, 0, 0, 0, 0, 0, 0, 0),
  (6, 1, 1, 0, 0, 0, 0, 0, 0, 0), (42, 3, 87, 0, 0, 424, 0, 0, 0, 0), (6, 1, 1, 0, 0, 0, 0, 0, 0, 0), (42, 3, 95, 0, 1, 429, 0, 0, 0, 0), (11, 1, 0, 0, 2, 0, 0, 0, 0, 0), (0, 1, 0, 0, 0, 0, 0, 0, 1, 0),
  (11, 1, 0, 0, 1, 0, 0, 0, 0, 0), (48, 3, 80, 54, 0, 741, 3, 5, 0, 0), (22, 3, 50, 0, 1, 0, 0, 0, 0, 0), (0, 1, 0, 0, 0, 0, 0, 0, 0, 0), (27, 1, 0, 0, 1, 0, 0, 0, 0, 0)]
def q59_50 : List XO := [(6, 1, 0, 0, 0, 0, 0, 0, 0, 0), (44, 3, 12, 1, 0, 259, 0, 0, 0, 0), (42, 3, 84, 5, 6, 228, 0, 0, 0, 0), (7, 1, 2, 0, 0, 0, 0, 0, 0, 0), (6, 1, 1, 0, 0, 0, 0, 0, 0, 0), (4, 1, 2, 0, 0, 0, 0, 0, 0, 0),
  (48, 3, 103, 60, 0, 770, 2, 0, 0, 0), (0, 1, 0, 0, 0, 0, 0, 0, (-1), 0), (23, 3, 76, 0, 0, 0, 0, 0, 0, 0), (6, 1, 0, 0, 0, 0, 0, 0, 0, 0), (44, 3, 12, 1, 0, 259, 0, 0, 0, 0), (0, 1, 0, 0, 0, 0, 0, 0, 5, 0),
  (48, 3, 73, 53, 0, 736, 2, 5, 0, 0), (27, 1, 0, 0, 1, 0, 0, 0, 0, 0)]
def q59_76 : List XO := [(6, 1, 0, 0, 0, 0, 0, 0, 0, 0), (44, 3, 12, 1, 0, 259, 0, 0, 0, 0), (48, 3, 77, 36, 0, 740, 1, 5, 0, 0), (6, 1, 0, 0, 0, 0, 0, 0, 0, 0), (44, 3, 12, 1, 0, 259, 0, 0, 0, 0), (2, 2, 107, 4, 0, 774, 0, 0, 0, 0),
  (48, 3, 92, 56, 0, 751, 2, 5, 0, 0), (22, 3, 108, 0, 0, 0, 0, 0, 0, 0), (6, 1, 0, 0, 0, 0, 0, 0, 0, 0), (44, 3, 12, 1, 0, 259, 0, 0, 0, 0), (0, 1, 0, 0, 0, 0, 0, 0, 0, 0), (0, 2, 0, 0, 1, 0, 0, 0, 9, 0),
  (48, 3, 80, 54, 0, 741, 3, 5, 0, 0), (22, 3, 110, 0, 1, 0, 0, 0, 0, 0), (24, 0, 108, 0, 1, 0, 0, 0, 0, 0)]
def q59_108 : List XO := [(0, 1, 0, 0, 0, 0, 0, 0, 0, 0), (27, 1, 0, 0, 1, 0, 0, 0, 0, 0)]
def q59_110 : List XO := [(6, 1, 1, 0, 0, 0, 0, 0, 0, 0), (4, 1, 2, 0, 0, 0, 0, 0, 0, 0), (6, 1, 0, 0, 0, 0, 0, 0, 0, 0), (44, 3, 12, 1, 0, 259, 0, 0, 0, 0), (42, 3, 84, 5, 6, 228, 0, 0, 0, 0), (48, 3, 109, 61, 0, 775, 3, 0, 0, 0),
  (6, 1, 0, 0, 0, 0, 0, 0, 0, 0), (44, 3, 12, 1, 0, 259, 0, 0, 0, 0), (48, 3, 77, 36, 0, 740, 1, 5, 0, 0), (6, 1, 0, 0, 0, 0, 0, 0, 0, 0), (44, 3, 12, 1, 0, 259, 0, 0, 0, 0), (48, 3, 98, 57, 0, 756, 1, 5, 0, 0),
  (27, 1, 0, 0, 1, 0, 0, 0, 0, 0)]
def xt59 : List (Nat × List XO) := [(0, q59_0), (19, q59_19), (50, q59_50), (76, q59_76), (108, q59_108), (110, q59_110)]
def q60_0 : List XO := [(0, 1, 0, 0, 0, 0, 0, 0, 0, 0), (7, 1, 2, 0, 0, 0, 0, 0, 0, 0), (24, 0, 2, 0, 1, 0, 0, 0, 0, 0)]
def q60_2 : List XO := [(4, 1, 2, 0, 0, 0, 0, 0, 0, 0), (6, 1, 0, 0, 0, 0, 0, 0, 0, 0), (42, 3, 63, 0, 3, 436, 0, 0, 0, 0), (23, 3, 33, 0, 3, 0, 0, 0, 0, 0), (6, 1, 0, 0, 0, 0, 0, 0, 0, 0), (44, 3, 9, 0, 4, 439, 0, 0, 0, 0),
  (4, 1, 2, 0, 0, 0, 0, 0, 0, 0), (33, 1, 0, 0, 0, 0, 0, 0, 0, 0), (4, 1, 1, 0, 0, 0, 0, 0, 0, 0), (23, 3, 27, 0, 1, 0, 0, 0, 0, 0), (6, 1, 0, 0, 0, 0, 0, 0, 0, 0), (44, 3, 15, 0, 5, 441, 0, 0, 0, 0),
  (4, 1, 2, 0, 0, 0, 0, 0, 0, 0), (33, 1, 0, 0, 0, 0, 0, 0, 0, 0), (27, 1, 0, 0, 0, 0, 0, 0, 0, 0)]
def q60_27 : List XO := [(10, 3, 2, 0, 0, 0, 0, 0, 1, 0), (24, 3, 2, 0, 0, 0, 0, 0, 0, 0)]
def q60_33 : List XO := [(0, 1, 0, 0, 0, 0, 0, 0, (-1), 0), (27, 1, 0, 0, 0, 0, 0, 0, 0, 0)]
def xt60 : List (Nat × List XO) := [(0, q60_0), (2, q60_2), (27, q60_27), (33, q60_33)]
def q61_0 : List XO := [(6, 1, 0, 0, 0, 0, 0, 0, 0, 0), (42, 3, 63, 0, 3, 436, 0, 0, 0, 0), (0, 2, 0, 0, 1, 0, 0, 0, 15, 0), (23, 3, 13, 0, 3, 0, 0, 0, 0, 0), (4, 1, 2, 0, 0, 0, 0, 0, 0, 0), (22, 3, 14, 0, 3, 0, 0, 0, 0, 0),
  (24, 0, 13, 0, 1, 0, 0, 0, 0, 0)]
def q61_13 : List XO := [(27, 1, 0, 0, 3, 0, 0, 0, 0, 0)]
def q61_14 : List XO := [(6, 1, 0, 0, 0, 0, 0, 0, 0, 0), (44, 3, 9, 0, 4, 439, 0, 0, 0, 0), (6, 1, 0, 0, 0, 0, 0, 0, 0, 0), (42, 3, 63, 0, 3, 436, 0, 0, 0, 0), (4, 1, 1, 0, 0, 0, 0, 0, 0, 0), (34, 1, 0, 0, 0, 0, 0, 0, 0, 0),
  (6, 1, 0, 0, 0, 0, 0, 0, 0, 0), (44, 3, 15, 0, 5, 441, 0, 0, 0, 0), (6, 1, 0, 0, 0, 0, 0, 0, 0, 0), (42, 3, 63, 0, 3, 436, 0, 0, 0, 0), (4, 1, 2, 0, 0, 0, 0, 0, 0, 0), (34, 1, 0, 0, 0, 0, 0, 0, 0, 0),
  (6, 1, 0, 0, 0, 0, 0, 0, 0, 0), (19, 1, 0, 0, 0, 0, 0, 0, 0, 0), (42, 3, 63, 0, 3, 436, 0, 0, 0, 0), (0, 1, 0, 0, 0, 0, 0, 0, 1, 0), (11, 1, 0, 0, 0, 0, 0, 0, 0, 0), (45, 3, 63, 0, 3, 436, 0, 0, 0, 0),
  (4, 1, 2, 0, 0, 0, 0, 0, 0, 0), (0, 1, 0, 0, 0, 0, 0, 0, 1, 0), (11, 1, 0, 0, 0, 0, 0, 0, 0, 0), (7, 1, 3, 0, 0, 0, 0, 0, 0, 0), (24, 0, 48, 0, 1, 0, 0, 0, 0, 0)]
def q61_48 : List XO := [(4, 1, 3, 0, 0, 0, 0, 0, 0, 0), (6, 1, 0, 0, 0, 0, 0, 0, 0, 0), (44, 3, 18, 0, 6, 443, 0, 0, 0, 0), (32, 1, 0, 0, 0, 0, 0, 0, 0, 0), (23, 3, 75, 0, 3, 0, 0, 0, 0, 0), (6, 1, 0, 0, 0, 0, 0, 0, 0, 0),
  (44, 3, 18, 0, 6, 443, 0, 0, 0, 0), (4, 1, 3, 0, 0, 0, 0, 0, 0, 0), (20, 1, 0, 0, 0, 0, 0, 0, 0, 0), (33, 1, 0, 0, 0, 0, 0, 0, 0, 0), (0, 1, 0, 0, 0, 0, 0, 0, 1, 0), (4, 1, 1, 0, 0, 0, 0, 0, 0, 0),
  (11, 1, 0, 0, 6, 0, 0, 0, 0, 0), (11, 1, 0, 0, 4, 0, 0, 0, 0, 0), (34, 1, 0, 0, 0, 0, 0, 0, 0, 0), (10, 3, 3, 0, 0, 0, 0, 0, 1, 0), (24, 3, 48, 0, 0, 0, 0, 0, 0, 0)]
def q61_75 : List XO := [(27, 1, 0, 0, 3, 0, 0, 0, 0, 0)]
def xt61 : List (Nat × List XO) := [(0, q61_0), (13, q61_13), (14, q61_14), (48, q61_48), (75, q61_75)]
def q62_0 : List XO := [(6, 1, 1, 0, 0, 0, 0, 0, 0, 0), (42, 3, 70, 0, 7, 445, 0, 0, 0, 0), (0, 2, 0, 0, 1, 0, 0, 0, 6, 0), (23, 3, 19, 0, 2, 0, 0, 0, 0, 0), (6, 1, 0, 0, 0, 0, 0, 0, 0, 0), (44, 3, 12, 1, 0, 259, 0, 0, 0, 0),
  (0, 2, 0, 0, 1, 0, 0, 0, 6, 0), (48, 3, 73, 53, 0, 736, 2, 5, 0, 0), (27, 1, 0, 0, 1, 0, 0, 0, 0, 0)]
def q62_19 : List XO := [(6, 1, 0, 0, 0, 0, 0, 0, 0, 0), (44, 3, 12, 1, 0, 259, 0, 0, 0, 0), (48, 3, 77, 36, 0, 740, 1, 5, 0, 0), (6, 1, 0, 0, 0, 0, 0, 0, 0, 0), (44, 3, 12, 1, 0, 259, 0, 0, 0, 0), (48, 3, 113, 63, 0, 784, 1, 5, 0, 0),
  (22, 3, 38, 0, 1, 0, 0, 0, 0, 0), (0, 1, 0, 0, 0, 0, 0, 0, 0, 0), (27, 1, 0, 0, 1, 0, 0, 0, 0, 0)]
def q62_38 : List XO := [(6, 1, 0, 0, 0, 0, 0, 0, 0, 0), (44, 3, 12, 1, 0, 259, 0, 0, 0, 0), (43, 3, 116, 5, 5, 226, 0, 0, 0, 0), (8, 1, 2, 0, 0, 0, 0, 0, 0, 0), (6, 1, 1, 0, 0, 0, 0, 0, 0, 0), (5, 1, 2, 0, 0, 0, 0, 0, 0, 0),
  (48, 3, 120, 65, 0, 793, 2, 0, 0, 0), (0, 1, 0, 0, 0, 0, 0, 0, (-1), 0), (23, 3, 64, 0, 0, 0, 0, 0, 0, 0), (6, 1, 0, 0, 0, 0, 0, 0, 0, 0), (44, 3, 12, 1, 0, 259, 0, 0, 0, 0), (0, 1, 0, 0, 0, 0, 0, 0, 3, 0),
  (48, 3, 73, 53, 0, 736, 2, 5, 0, 0), (27, 1, 0, 0, 1, 0, 0, 0, 0, 0)]
def q62_64 : List XO := [(6, 1, 0, 0, 0, 0, 0, 0, 0, 0), (44, 3, 12, 1, 0, 259, 0, 0, 0, 0), (48, 3, 77, 36, 0, 740, 1, 5, 0, 0), (6, 1, 0, 0, 0, 0, 0, 0, 0, 0), (6, 1, 1, 0, 0, 0, 0, 0, 0, 0), (5, 1, 2, 0, 0, 0, 0, 0, 0, 0),
  (48, 3, 124, 66, 0, 797, 3, 1, 0, 0), (22, 3, 108, 0, 0, 0, 0, 0, 0, 0), (6, 1, 0, 0, 0, 0, 0, 0, 0, 0), (6, 1, 1, 0, 0, 0, 0, 0, 0, 0), (6, 1, 1, 0, 0, 0, 0, 0, 0, 0), (42, 3, 70, 0, 7, 445, 0, 0, 0, 0),
  (0, 1, 0, 0, 0, 0, 0, 0, 1, 0), (11, 1, 0, 0, 1, 0, 0, 0, 0, 0), (48, 3, 128, 71, 0, 820, 3, 1, 0, 0), (22, 3, 108, 0, 0, 0, 0, 0, 0, 0), (6, 1, 0, 0, 0, 0, 0, 0, 0, 0), (44, 3, 12, 1, 0, 259, 0, 0, 0, 0),
  (48, 3, 98, 57, 0, 756, 1, 5, 0, 0), (22, 3, 108, 0, 0, 0, 0, 0, 0, 0), (0, 1, 0, 0, 0, 0, 0, 0, 1, 0), (24, 3, 109, 0, 0, 0, 0, 0, 0, 0)]
def q62_108 : List XO := [(0, 1, 0, 0, 0, 0, 0, 0, 0, 0), (24, 0, 109, 0, 1, 0, 0, 0, 0, 0)]
def q62_109 : List XO := [(27, 1, 0, 0, 1, 0, 0, 0, 0, 0)]
def xt62 : List (Nat × List XO) := [(0, q62_0), (19, q62_19), (38, q62_38), (64, q62_64), (108, q62_108), (109, q62_109)]
def q63_0 : List XO := [(6, 1, 0, 0, 0, 0, 0, 0, 0, 0), (42, 3, 49, 5, 4, 224, 0, 0, 0, 0), (0, 1, 0, 0, 0, 0, 0, 0, 1, 0), (23, 3, 45, 0, 1, 0, 0, 0, 0, 0), (6, 1, 0, 0, 0, 0, 0, 0, 0, 0), (43, 3, 61, 5, 5, 225, 0, 0, 0, 0),
  (1, 1, 0, 0, 0, 0, 0, 0, 0, 0), (18, 1, 0, 0, 0, 0, 0, 0, 0, 0), (22, 3, 45, 0, 0, 0, 0, 0, 0, 0), (2, 2, 80, 6, 0, 788, 0, 0, 0, 0), (6, 1, 0, 0, 0, 0, 0, 0, 0, 0), (43, 3, 61, 5, 5, 225, 0, 0, 0, 0),
  (48, 3, 82, 64, 1, 789, 2, 5, 0, 0), (22, 3, 45, 0, 1, 0, 0, 0, 0, 0), (2, 2, 86, 7, 0, 792, 0, 0, 0, 0), (6, 1, 0, 0, 0, 0, 0, 0, 0, 0), (43, 3, 61, 5, 5, 225, 0, 0, 0, 0), (48, 3, 82, 64, 1, 789, 2, 5, 0, 0),
  (22, 3, 45, 0, 1, 0, 0, 0, 0, 0), (0, 1, 0, 0, 0, 0, 0, 0, 1, 0), (24, 3, 46, 0, 0, 0, 0, 0, 0, 0)]
def q63_45 : List XO := [(0, 1, 0, 0, 0, 0, 0, 0, 0, 0), (24, 0, 46, 0, 1, 0, 0, 0, 0, 0)]
def q63_46 : List XO := [(7, 1, 1, 0, 0, 0, 0, 0, 0, 0), (4, 1, 1, 0, 0, 0, 0, 0, 0, 0), (22, 3, 58, 0, 1, 0, 0, 0, 0, 0), (6, 1, 0, 0, 0, 0, 0, 0, 0, 0), (48, 3, 88, 55, 0, 745, 1, 5, 0, 0), (22, 3, 62, 0, 0, 0, 0, 0, 0, 0),
  (24, 0, 58, 0, 1, 0, 0, 0, 0, 0)]
def q63_58 : List XO := [(0, 1, 0, 0, 0, 0, 0, 0, 1, 0), (24, 3, 63, 0, 0, 0, 0, 0, 0, 0)]
def q63_62 : List XO := [(0, 1, 0, 0, 0, 0, 0, 0, 0, 0), (24, 0, 63, 0, 1, 0, 0, 0, 0, 0)]
def q63_63 : List XO := [(27, 1, 0, 0, 1, 0, 0, 0, 0, 0)]
def xt63 : List (Nat × List XO) := [(0, q63_0), (45, q63_45), (46, q63_46), (58, q63_58), (62, q63_62), (63, q63_63)]
def q64_0 : List XO := [(1, 1, 0, 0, 0, 0, 0, 0, 0, 0), (8, 1, 3, 0, 0, 0, 0, 0, 0, 0), (0, 1, 0, 0, 0, 0, 0, 0, 0, 0), (7, 2, 5, 0, 0, 0, 0, 0, 0, 0), (24, 0, 5, 0, 1, 0, 0, 0, 0, 0)]
def q64_5 : List XO := [(4, 2, 5, 0, 0, 0, 0, 0, 0, 0), (6, 1, 0, 0, 0, 0, 0, 0, 0, 0), (60, 3, 71, 41, 0, 684, 1, 99, 0, 0), (23, 3, 59, 0, 3, 0, 0, 0, 0, 0), (6, 1, 0, 0, 0, 0, 0, 0, 0, 0), (4, 2, 5, 0, 0, 0, 0, 0, 0, 0),
  (60, 3, 76, 43, 0, 694, 2, 99, 0, 0), (7, 2, 6, 0, 0, 0, 0, 0, 0, 0), (4, 2, 6, 0, 0, 0, 0, 0, 0, 0), (0, 2, 0, 0, 1, 0, 0, 0, 32, 0), (23, 3, 43, 0, 0, 0, 0, 0, 0, 0), (5, 1, 3, 0, 0, 0, 0, 0, 0, 0),
  (0, 1, 0, 0, 0, 0, 0, 0, 5, 0), (16, 1, 0, 0, 0, 0, 0, 0, 0, 0), (4, 2, 6, 0, 0, 0, 0, 0, 0, 0), (0, 2, 0, 0, 1, 0, 0, 0, 31, 0), (11, 1, 0, 0, 3, 0, 0, 0, 0, 0), (17, 1, 0, 0, 0, 0, 0, 0, 0, 0),
  (14, 1, 0, 0, 4, 0, 0, 0, 0, 0), (8, 1, 3, 0, 0, 0, 0, 0, 0, 0), (24, 3, 53, 0, 0, 0, 0, 0, 0, 0)]
def q64_43 : List XO := [(5, 1, 3, 0, 0, 0, 0, 0, 0, 0), (5, 1, 1, 0, 0, 0, 0, 0, 0, 0), (18, 1, 0, 0, 0, 0, 0, 0, 0, 0), (22, 3, 51, 0, 1, 0, 0, 0, 0, 0), (0, 1, 0, 0, 0, 0, 0, 0, 1, 0), (27, 1, 0, 0, 1, 0, 0, 0, 0, 0)]
def q64_51 : List XO := [(1, 1, 0, 0, 0, 0, 0, 0, 0, 0), (8, 1, 3, 0, 0, 0, 0, 0, 0, 0), (24, 0, 53, 0, 1, 0, 0, 0, 0, 0)]
def q64_53 : List XO := [(10, 3, 5, 0, 0, 0, 0, 0, 1, 0), (24, 3, 5, 0, 0, 0, 0, 0, 0, 0)]
def q64_59 : List XO := [(0, 1, 0, 0, 0, 0, 0, 0, 0, 0), (27, 1, 0, 0, 1, 0, 0, 0, 0, 0)]
def xt64 : List (Nat × List XO) := [(0, q64_0), (5, q64_5), (43, q64_43), (51, q64_51), (53, q64_53), (59, q64_59)]
def q65_0 : List XO := [(0, 1, 0, 0, 0, 0, 0, 0, 0, 0), (7, 1, 3, 0, 0, 0, 0, 0, 0, 0), (24, 0, 2, 0, 1, 0, 0, 0, 0, 0)]
def q65_2 : List XO := [(4, 1, 3, 0, 0, 0, 0, 0, 0, 0), (6, 1, 0, 0, 0, 0, 0, 0, 0, 0), (42, 3, 66, 0, 7, 444, 0, 0, 0, 0), (23, 3, 29, 0, 3, 0, 0, 0, 0, 0), (6, 1, 0, 0, 0, 0, 0, 0, 0, 0), (44, 3, 21, 0, 8, 448, 0, 0, 0, 0),
  (4, 1, 3, 0, 0, 0, 0, 0, 0, 0), (35, 1, 0, 0, 0, 0, 0, 0, 0, 0), (5, 1, 1, 0, 0, 0, 0, 0, 0, 0), (18, 1, 0, 0, 0, 0, 0, 0, 0, 0), (22, 3, 23, 0, 1, 0, 0, 0, 0, 0), (4, 1, 3, 0, 0, 0, 0, 0, 0, 0),
  (27, 1, 0, 0, 0, 0, 0, 0, 0, 0)]
def q65_23 : List XO := [(10, 3, 3, 0, 0, 0, 0, 0, 1, 0), (24, 3, 2, 0, 0, 0, 0, 0, 0, 0)]
def q65_29 : List XO := [(0, 1, 0, 0, 0, 0, 0, 0, (-1), 0), (27, 1, 0, 0, 0, 0, 0, 0, 0, 0)]
def xt65 : List (Nat × List XO) := [(0, q65_0), (2, q65_2), (23, q65_23), (29, q65_29)]
def q66_0 : List XO := [(6, 1, 0, 0, 0, 0, 0, 0, 0, 0), (44, 3, 12, 1, 0, 259, 0, 0, 0, 0), (2, 2, 132, 8, 0, 801, 0, 0, 0, 0), (48, 3, 92, 56, 0, 751, 2, 5, 0, 0), (22, 3, 34, 0, 0, 0, 0, 0, 0, 0), (6, 1, 0, 0, 0, 0, 0, 0, 0, 0),
  (44, 3, 12, 1, 0, 259, 0, 0, 0, 0), (0, 1, 0, 0, 0, 0, 0, 0, 0, 0), (6, 1, 1, 0, 0, 0, 0, 0, 0, 0), (42, 3, 87, 0, 0, 424, 0, 0, 0, 0), (6, 1, 1, 0, 0, 0, 0, 0, 0, 0), (42, 3, 95, 0, 1, 429, 0, 0, 0, 0),
  (11, 1, 0, 0, 2, 0, 0, 0, 0, 0), (0, 1, 0, 0, 0, 0, 0, 0, 1, 0), (11, 1, 0, 0, 1, 0, 0, 0, 0, 0), (48, 3, 80, 54, 0, 741, 3, 5, 0, 0), (22, 3, 36, 0, 1, 0, 0, 0, 0, 0), (24, 0, 34, 0, 1, 0, 0, 0, 0, 0)]
def q66_34 : List XO := [(0, 1, 0, 0, 0, 0, 0, 0, 0, 0), (27, 1, 0, 0, 1, 0, 0, 0, 0, 0)]
def q66_36 : List XO := [(6, 1, 0, 0, 0, 0, 0, 0, 0, 0), (44, 3, 12, 1, 0, 259, 0, 0, 0, 0), (42, 3, 84, 5, 6, 228, 0, 0, 0, 0), (7, 2, 4, 0, 0, 0, 0, 0, 0, 0), (6, 1, 0, 0, 0, 0, 0, 0, 0, 0), (44, 3, 12, 1, 0, 259, 0, 0, 0, 0),
  (48, 3, 77, 36, 0, 740, 1, 5, 0, 0), (6, 1, 0, 0, 0, 0, 0, 0, 0, 0), (44, 3, 12, 1, 0, 259, 0, 0, 0, 0), (2, 2, 134, 9, 0, 802, 0, 0, 0, 0), (48, 3, 92, 56, 0, 751, 2, 5, 0, 0), (22, 3, 86, 0, 0, 0, 0, 0, 0, 0),
  (6, 1, 0, 0, 0, 0, 0, 0, 0, 0), (44, 3, 12, 1, 0, 259, 0, 0, 0, 0), (0, 1, 0, 0, 0, 0, 0, 0, 1, 0), (6, 1, 1, 0, 0, 0, 0, 0, 0, 0), (42, 3, 87, 0, 0, 424, 0, 0, 0, 0), (6, 1, 1, 0, 0, 0, 0, 0, 0, 0),
  (4, 2, 4, 0, 0, 0, 0, 0, 0, 0), (48, 3, 135, 67, 0, 803, 2, 0, 0, 0), (11, 1, 0, 0, 1, 0, 0, 0, 0, 0), (48, 3, 80, 54, 0, 741, 3, 5, 0, 0), (22, 3, 88, 0, 1, 0, 0, 0, 0, 0), (24, 0, 86, 0, 1, 0, 0, 0, 0, 0)]
def q66_86 : List XO := [(0, 1, 0, 0, 0, 0, 0, 0, 0, 0), (27, 1, 0, 0, 1, 0, 0, 0, 0, 0)]
def q66_88 : List XO := [(6, 1, 0, 0, 0, 0, 0, 0, 0, 0), (44, 3, 12, 1, 0, 259, 0, 0, 0, 0), (42, 3, 84, 5, 6, 228, 0, 0, 0, 0), (7, 2, 5, 0, 0, 0, 0, 0, 0, 0), (6, 1, 0, 0, 0, 0, 0, 0, 0, 0), (44, 3, 12, 1, 0, 259, 0, 0, 0, 0),
  (48, 3, 77, 36, 0, 740, 1, 5, 0, 0), (6, 1, 0, 0, 0, 0, 0, 0, 0, 0), (44, 3, 12, 1, 0, 259, 0, 0, 0, 0), (2, 2, 138, 10, 0, 807, 0, 0, 0, 0), (48, 3, 92, 56, 0, 751, 2, 5, 0, 0), (22, 3, 138, 0, 0, 0, 0, 0, 0, 0),
  (6, 1, 0, 0, 0, 0, 0, 0, 0, 0), (44, 3, 12, 1, 0, 259, 0, 0, 0, 0), (0, 1, 0, 0, 0, 0, 0, 0, 1, 0), (6, 1, 1, 0, 0, 0, 0, 0, 0, 0), (42, 3, 95, 0, 1, 429, 0, 0, 0, 0), (6, 1, 1, 0, 0, 0, 0, 0, 0, 0),
  (4, 2, 4, 0, 0, 0, 0, 0, 0, 0), (48, 3, 139, 68, 0, 808, 2, 0, 0, 0), (11, 1, 0, 0, 1, 0, 0, 0, 0, 0), (48, 3, 80, 54, 0, 741, 3, 5, 0, 0), (22, 3, 140, 0, 1, 0, 0, 0, 0, 0), (24, 0, 138, 0, 1, 0, 0, 0, 0, 0)]
def q66_138 : List XO := [(0, 1, 0, 0, 0, 0, 0, 0, 0, 0), (27, 1, 0, 0, 1, 0, 0, 0, 0, 0)]
def q66_140 : List XO := [(6, 1, 1, 0, 0, 0, 0, 0, 0, 0), (5, 1, 2, 0, 0, 0, 0, 0, 0, 0), (4, 2, 4, 0, 0, 0, 0, 0, 0, 0), (4, 2, 5, 0, 0, 0, 0, 0, 0, 0), (6, 1, 0, 0, 0, 0, 0, 0, 0, 0), (44, 3, 12, 1, 0, 259, 0, 0, 0, 0),
  (42, 3, 84, 5, 6, 228, 0, 0, 0, 0), (48, 3, 142, 69, 0, 812, 5, 0, 0, 0), (6, 1, 0, 0, 0, 0, 0, 0, 0, 0), (44, 3, 12, 1, 0, 259, 0, 0, 0, 0), (48, 3, 77, 36, 0, 740, 1, 5, 0, 0), (0, 1, 0, 0, 0, 0, 0, 0, 1, 0),
  (27, 1, 0, 0, 1, 0, 0, 0, 0, 0)]
def xt66 : List (Nat × List XO) := [(0, q66_0), (34, q66_34), (36, q66_36), (86, q66_86), (88, q66_88), (138, q66_138), (140, q66_140)]
def q67_0 : List XO := [(6, 1, 0, 0, 0, 0, 0, 0, 0, 0), (42, 3, 53, 0, 0, 422, 0, 0, 0, 0), (22, 3, 16, 0, 5, 0, 0, 0, 0, 0), (4, 1, 1, 0, 0, 0, 0, 0, 0, 0), (6, 1, 0, 0, 0, 0, 0, 0, 0, 0), (42, 3, 53, 0, 0, 422, 0, 0, 0, 0),
  (12, 1, 0, 0, 1, 0, 0, 0, 0, 0), (24, 3, 17, 0, 0, 0, 0, 0, 0, 0)]
def q67_16 : List XO := [(0, 1, 0, 0, 0, 0, 0, 0, 0, 0), (24, 0, 17, 0, 1, 0, 0, 0, 0, 0)]
def q67_17 : List XO := [(27, 1, 0, 0, 0, 0, 0, 0, 0, 0)]
def xt67 : List (Nat × List XO) := [(0, q67_0), (16, q67_16), (17, q67_17)]
def q68_0 : List XO := [(6, 1, 0, 0, 0, 0, 0, 0, 0, 0), (42, 3, 53, 0, 0, 422, 0, 0, 0, 0), (22, 3, 16, 0, 5, 0, 0, 0, 0, 0), (4, 1, 1, 0, 0, 0, 0, 0, 0, 0), (6, 1, 0, 0, 0, 0, 0, 0, 0, 0), (42, 3, 53, 0, 0, 422, 0, 0, 0, 0),
  (12, 1, 0, 0, 0, 0, 0, 0, 0, 0), (24, 3, 17, 0, 0, 0, 0, 0, 0, 0)]
def q68_16 : List XO := [(0, 1, 0, 0, 0, 0, 0, 0, 0, 0), (24, 0, 17, 0, 1, 0, 0, 0, 0, 0)]
def q68_17 : List XO := [(27, 1, 0, 0, 0, 0, 0, 0, 0, 0)]
def xt68 : List (Nat × List XO) := [(0, q68_0), (16, q68_16), (17, q68_17)]
def q69_0 : List XO := [(6, 1, 0, 0, 0, 0, 0, 0, 0, 0), (42, 3, 66, 0, 7, 444, 0, 0, 0, 0), (0, 2, 0, 0, 1, 0, 0, 0, 6, 0), (23, 3, 10, 0, 2, 0, 0, 0, 0, 0), (27, 1, 0, 0, 3, 0, 0, 0, 0, 0)]
def q69_10 : List XO := [(6, 1, 0, 0, 0, 0, 0, 0, 0, 0), (44, 3, 21, 0, 8, 448, 0, 0, 0, 0), (6, 1, 0, 0, 0, 0, 0, 0, 0, 0), (42, 3, 66, 0, 7, 444, 0, 0, 0, 0), (5, 1, 1, 0, 0, 0, 0, 0, 0, 0), (36, 1, 0, 0, 0, 0, 0, 0, 0, 0),
  (6, 1, 0, 0, 0, 0, 0, 0, 0, 0), (44, 3, 25, 0, 9, 449, 0, 0, 0, 0), (6, 1, 0, 0, 0, 0, 0, 0, 0, 0), (42, 3, 66, 0, 7, 444, 0, 0, 0, 0), (4, 1, 3, 0, 0, 0, 0, 0, 0, 0), (34, 1, 0, 0, 0, 0, 0, 0, 0, 0),
  (6, 1, 0, 0, 0, 0, 0, 0, 0, 0), (44, 3, 28, 0, 10, 451, 0, 0, 0, 0), (6, 1, 0, 0, 0, 0, 0, 0, 0, 0), (42, 3, 66, 0, 7, 444, 0, 0, 0, 0), (4, 2, 4, 0, 0, 0, 0, 0, 0, 0), (34, 1, 0, 0, 0, 0, 0, 0, 0, 0),
  (6, 1, 0, 0, 0, 0, 0, 0, 0, 0), (44, 3, 31, 0, 11, 453, 0, 0, 0, 0), (6, 1, 0, 0, 0, 0, 0, 0, 0, 0), (42, 3, 66, 0, 7, 444, 0, 0, 0, 0), (4, 2, 5, 0, 0, 0, 0, 0, 0, 0), (34, 1, 0, 0, 0, 0, 0, 0, 0, 0),
  (6, 1, 0, 0, 0, 0, 0, 0, 0, 0), (44, 3, 34, 0, 12, 455, 0, 0, 0, 0), (6, 1, 0, 0, 0, 0, 0, 0, 0, 0), (42, 3, 66, 0, 7, 444, 0, 0, 0, 0), (6, 1, 0, 0, 0, 0, 0, 0, 0, 0), (4, 1, 3, 0, 0, 0, 0, 0, 0, 0),
  (4, 2, 4, 0, 0, 0, 0, 0, 0, 0), (4, 2, 5, 0, 0, 0, 0, 0, 0, 0), (48, 3, 127, 70, 0, 816, 4, 0, 0, 0), (34, 1, 0, 0, 0, 0, 0, 0, 0, 0), (6, 1, 0, 0, 0, 0, 0, 0, 0, 0), (44, 3, 37, 0, 13, 458, 0, 0, 0, 0),
  (6, 1, 0, 0, 0, 0, 0, 0, 0, 0), (42, 3, 66, 0, 7, 444, 0, 0, 0, 0), (0, 1, 0, 0, 0, 0, 0, 0, 0, 0), (34, 1, 0, 0, 0, 0, 0, 0, 0, 0), (6, 1, 0, 0, 0, 0, 0, 0, 0, 0), (44, 3, 40, 0, 14, 462, 0, 0, 0, 0),
  (6, 1, 0, 0, 0, 0, 0, 0, 0, 0), (42, 3, 66, 0, 7, 444, 0, 0, 0, 0), (0, 1, 0, 0, 0, 0, 0, 0, 0, 0), (34, 1, 0, 0, 0, 0, 0, 0, 0, 0), (6, 1, 0, 0, 0, 0, 0, 0, 0, 0), (19, 1, 0, 0, 0, 0, 0, 0, 0, 0),
  (42, 3, 69, 0, 15, 465, 0, 0, 0, 0), (0, 1, 0, 0, 0, 0, 0, 0, 1, 0), (6, 1, 0, 0, 0, 0, 0, 0, 0, 0), (42, 3, 66, 0, 7, 444, 0, 0, 0, 0), (11, 1, 0, 0, 6, 0, 0, 0, 0, 0), (0, 1, 0, 0, 0, 0, 0, 0, (-1), 0),
  (11, 1, 0, 0, 5, 0, 0, 0, 0, 0), (11, 1, 0, 0, 3, 0, 0, 0, 0, 0), (45, 3, 69, 0, 15, 465, 0, 0, 0, 0), (6, 1, 0, 0, 0, 0, 0, 0, 0, 0), (19, 1, 0, 0, 0, 0, 0, 0, 0, 0), (42, 3, 66, 0, 7, 444, 0, 0, 0, 0),
  (0, 1, 0, 0, 0, 0, 0, 0, 1, 0), (11, 1, 0, 0, 0, 0, 0, 0, 0, 0), (45, 3, 66, 0, 7, 444, 0, 0, 0, 0), (27, 1, 0, 0, 3, 0, 0, 0, 0, 0)]
def xt69 : List (Nat × List XO) := [(0, q69_0), (10, q69_10)]
def q70_0 : List XO := [(0, 1, 0, 0, 0, 0, 0, 0, 0, 0), (7, 2, 4, 0, 0, 0, 0, 0, 0, 0), (0, 1, 0, 0, 0, 0, 0, 0, 0, 0), (7, 2, 5, 0, 0, 0, 0, 0, 0, 0), (24, 0, 6, 0, 1, 0, 0, 0, 0, 0)]
def q70_6 : List XO := [(4, 2, 5, 0, 0, 0, 0, 0, 0, 0), (4, 1, 3, 0, 0, 0, 0, 0, 0, 0), (23, 3, 52, 0, 3, 0, 0, 0, 0, 0), (0, 1, 0, 0, 0, 0, 0, 0, 0, 0), (7, 2, 6, 0, 0, 0, 0, 0, 0, 0), (24, 0, 15, 0, 1, 0, 0, 0, 0, 0)]
def q70_15 : List XO := [(4, 2, 6, 0, 0, 0, 0, 0, 0, 0), (4, 1, 2, 0, 0, 0, 0, 0, 0, 0), (23, 3, 46, 0, 3, 0, 0, 0, 0, 0), (4, 2, 4, 0, 0, 0, 0, 0, 0, 0), (0, 1, 0, 0, 0, 0, 0, 0, 1, 0), (4, 1, 1, 0, 0, 0, 0, 0, 0, 0),
  (4, 2, 5, 0, 0, 0, 0, 0, 0, 0), (6, 1, 0, 0, 0, 0, 0, 0, 0, 0), (42, 3, 53, 0, 0, 422, 0, 0, 0, 0), (11, 1, 0, 0, 2, 0, 0, 0, 0, 0), (11, 1, 0, 0, 0, 0, 0, 0, 0, 0), (4, 2, 6, 0, 0, 0, 0, 0, 0, 0),
  (11, 1, 0, 0, 0, 0, 0, 0, 0, 0), (11, 1, 0, 0, 6, 0, 0, 0, 0, 0), (11, 1, 0, 0, 4, 0, 0, 0, 0, 0), (7, 2, 4, 0, 0, 0, 0, 0, 0, 0), (10, 3, 6, 0, 0, 0, 0, 0, 1, 0), (24, 3, 15, 0, 0, 0, 0, 0, 0, 0)]
def q70_46 : List XO := [(10, 3, 5, 0, 0, 0, 0, 0, 1, 0), (24, 3, 6, 0, 0, 0, 0, 0, 0, 0)]
def q70_52 : List XO := [(4, 2, 4, 0, 0, 0, 0, 0, 0, 0), (27, 1, 0, 0, 0, 0, 0, 0, 0, 0)]
def xt70 : List (Nat × List XO) := [(0, q70_0), (6, q70_6), (15, q70_15), (46, q70_46), (52, q70_52)]
def q71_0 : List XO := [(6, 1, 1, 0, 0, 0, 0, 0, 0, 0), (4, 1, 2, 0, 0, 0, 0, 0, 0, 0), (48, 3, 146, 72, 0, 824, 2, 0, 0, 0), (22, 3, 10, 0, 1, 0, 0, 0, 0, 0), (0, 1, 0, 0, 0, 0, 0, 0, 0, 0), (27, 1, 0, 0, 1, 0, 0, 0, 0, 0)]
def q71_10 : List XO := [(6, 1, 0, 0, 0, 0, 0, 0, 0, 0), (44, 3, 12, 1, 0, 259, 0, 0, 0, 0), (2, 2, 149, 11, 0, 828, 0, 0, 0, 0), (48, 3, 40, 40, 0, 680, 2, 5, 0, 0), (22, 3, 64, 0, 0, 0, 0, 0, 0, 0), (6, 1, 0, 0, 0, 0, 0, 0, 0, 0),
  (44, 3, 12, 1, 0, 259, 0, 0, 0, 0), (48, 3, 77, 36, 0, 740, 1, 5, 0, 0), (6, 1, 0, 0, 0, 0, 0, 0, 0, 0), (44, 3, 12, 1, 0, 259, 0, 0, 0, 0), (0, 1, 0, 0, 0, 0, 0, 0, 0, 0), (0, 2, 0, 0, 1, 0, 0, 0, 9, 0),
  (48, 3, 80, 54, 0, 741, 3, 5, 0, 0), (22, 3, 44, 0, 1, 0, 0, 0, 0, 0), (0, 1, 0, 0, 0, 0, 0, 0, 0, 0), (27, 1, 0, 0, 1, 0, 0, 0, 0, 0)]
def q71_44 : List XO := [(6, 1, 1, 0, 0, 0, 0, 0, 0, 0), (44, 3, 151, 0, 13, 460, 0, 0, 0, 0), (4, 1, 2, 0, 0, 0, 0, 0, 0, 0), (6, 1, 0, 0, 0, 0, 0, 0, 0, 0), (44, 3, 12, 1, 0, 259, 0, 0, 0, 0), (42, 3, 84, 5, 6, 228, 0, 0, 0, 0),
  (34, 1, 0, 0, 0, 0, 0, 0, 0, 0), (6, 1, 0, 0, 0, 0, 0, 0, 0, 0), (44, 3, 12, 1, 0, 259, 0, 0, 0, 0), (48, 3, 77, 36, 0, 740, 1, 5, 0, 0), (24, 0, 64, 0, 1, 0, 0, 0, 0, 0)]
def q71_64 : List XO := [(6, 1, 0, 0, 0, 0, 0, 0, 0, 0), (44, 3, 12, 1, 0, 259, 0, 0, 0, 0), (2, 2, 155, 12, 0, 829, 0, 0, 0, 0), (48, 3, 40, 40, 0, 680, 2, 5, 0, 0), (22, 3, 90, 0, 0, 0, 0, 0, 0, 0), (6, 1, 1, 0, 0, 0, 0, 0, 0, 0),
  (4, 1, 2, 0, 0, 0, 0, 0, 0, 0), (0, 1, 0, 0, 0, 0, 0, 0, 1, 0), (48, 3, 157, 73, 0, 830, 3, 0, 0, 0), (21, 1, 0, 0, 0, 0, 0, 0, 0, 0), (6, 1, 0, 0, 0, 0, 0, 0, 0, 0), (44, 3, 12, 1, 0, 259, 0, 0, 0, 0),
  (48, 3, 77, 36, 0, 740, 1, 5, 0, 0), (24, 0, 90, 0, 1, 0, 0, 0, 0, 0)]
def q71_90 : List XO := [(6, 1, 0, 0, 0, 0, 0, 0, 0, 0), (44, 3, 12, 1, 0, 259, 0, 0, 0, 0), (2, 2, 161, 13, 0, 839, 0, 0, 0, 0), (48, 3, 40, 40, 0, 680, 2, 5, 0, 0), (22, 3, 116, 0, 0, 0, 0, 0, 0, 0), (6, 1, 0, 0, 0, 0, 0, 0, 0, 0),
  (44, 3, 12, 1, 0, 259, 0, 0, 0, 0), (48, 3, 77, 36, 0, 740, 1, 5, 0, 0), (6, 1, 0, 0, 0, 0, 0, 0, 0, 0), (6, 1, 1, 0, 0, 0, 0, 0, 0, 0), (4, 1, 2, 0, 0, 0, 0, 0, 0, 0), (48, 3, 163, 75, 0, 840, 3, 1, 0, 0),
  (27, 1, 0, 0, 1, 0, 0, 0, 0, 0)]
def q71_116 : List XO := [(0, 1, 0, 0, 0, 0, 0, 0, 1, 0), (27, 1, 0, 0, 1, 0, 0, 0, 0, 0)]
def xt71 : List (Nat × List XO) := [(0, q71_0), (10, q71_10), (44, q71_44), (64, q71_64), (90, q71_90), (116, q71_116)]
def q72_0 : List XO := [(4, 1, 1, 0, 0, 0, 0, 0, 0, 0), (22, 3, 16, 0, 2, 0, 0, 0, 0, 0), (4, 1, 1, 0, 0, 0, 0, 0, 0, 0), (6, 1, 0, 0, 0, 0, 0, 0, 0, 0), (42, 3, 66, 0, 7, 444, 0, 0, 0, 0), (23, 3, 16, 0, 3, 0, 0, 0, 0, 0),
  (0, 1, 0, 0, 0, 0, 0, 0, 1, 0), (24, 3, 17, 0, 0, 0, 0, 0, 0, 0)]
def q72_16 : List XO := [(0, 1, 0, 0, 0, 0, 0, 0, 0, 0), (24, 0, 17, 0, 1, 0, 0, 0, 0, 0)]
def q72_17 : List XO := [(27, 1, 0, 0, 1, 0, 0, 0, 0, 0)]
def xt72 : List (Nat × List XO) := [(0, q72_0), (16, q72_16), (17, q72_17)]
def q73_0 : List XO := [(6, 1, 0, 0, 0, 0, 0, 0, 0, 0), (4, 1, 1, 0, 0, 0, 0, 0, 0, 0), (48, 3, 131, 72, 0, 834, 2, 0, 0, 0), (22, 3, 17, 0, 0, 0, 0, 0, 0, 0), (6, 1, 0, 0, 0, 0, 0, 0, 0, 0), (4, 1, 1, 0, 0, 0, 0, 0, 0, 0),
  (48, 3, 134, 74, 0, 835, 2, 0, 0, 0), (4, 1, 2, 0, 0, 0, 0, 0, 0, 0), (23, 3, 19, 0, 0, 0, 0, 0, 0, 0), (24, 0, 17, 0, 1, 0, 0, 0, 0, 0)]
def q73_17 : List XO := [(0, 1, 0, 0, 0, 0, 0, 0, 0, 0), (27, 1, 0, 0, 1, 0, 0, 0, 0, 0)]
def q73_19 : List XO := [(6, 1, 0, 0, 0, 0, 0, 0, 0, 0), (19, 1, 0, 0, 0, 0, 0, 0, 0, 0), (42, 3, 69, 0, 15, 465, 0, 0, 0, 0), (0, 1, 0, 0, 0, 0, 0, 0, 1, 0), (4, 1, 1, 0, 0, 0, 0, 0, 0, 0), (11, 1, 0, 0, 6, 0, 0, 0, 0, 0),
  (11, 1, 0, 0, 5, 0, 0, 0, 0, 0), (45, 3, 69, 0, 15, 465, 0, 0, 0, 0), (0, 1, 0, 0, 0, 0, 0, 0, 1, 0), (27, 1, 0, 0, 1, 0, 0, 0, 0, 0)]
def xt73 : List (Nat × List XO) := [(0, q73_0), (17, q73_17), (19, q73_19)]
def q74_0 : List XO := [(6, 1, 0, 0, 0, 0, 0, 0, 0, 0), (42, 3, 69, 0, 15, 465, 0, 0, 0, 0), (4, 1, 1, 0, 0, 0, 0, 0, 0, 0), (11, 1, 0, 0, 7, 0, 0, 0, 0, 0), (0, 1, 0, 0, 0, 0, 0, 0, 1, 0), (11, 1, 0, 0, 3, 0, 0, 0, 0, 0),
  (22, 3, 15, 0, 1, 0, 0, 0, 0, 0), (0, 1, 0, 0, 0, 0, 0, 0, 1, 0), (24, 3, 16, 0, 0, 0, 0, 0, 0, 0)]
def q74_15 : List XO := [(0, 1, 0, 0, 0, 0, 0, 0, 0, 0), (24, 0, 16, 0, 1, 0, 0, 0, 0, 0)]
def q74_16 : List XO := [(27, 1, 0, 0, 1, 0, 0, 0, 0, 0)]
def xt74 : List (Nat × List XO) := [(0, q74_0), (15, q74_15), (16, q74_16)]
def q75_0 : List XO := [(0, 1, 0, 0, 0, 0, 0, 0, 0, 0), (7, 1, 3, 0, 0, 0, 0, 0, 0, 0), (24, 0, 2, 0, 1, 0, 0, 0, 0, 0)]
def q75_2 : List XO := [(4, 1, 3, 0, 0, 0, 0, 0, 0, 0), (0, 2, 0, 0, 1, 0, 0, 0, 6, 0), (23, 3, 116, 0, 4, 0, 0, 0, 0, 0), (6, 1, 0, 0, 0, 0, 0, 0, 0, 0), (44, 3, 12, 1, 0, 259, 0, 0, 0, 0), (42, 3, 34, 5, 4, 222, 0, 0, 0, 0),
  (0, 1, 0, 0, 0, 0, 0, 0, 2, 0), (23, 3, 116, 0, 1, 0, 0, 0, 0, 0), (6, 1, 0, 0, 0, 0, 0, 0, 0, 0), (44, 3, 12, 1, 0, 259, 0, 0, 0, 0), (42, 3, 84, 5, 6, 228, 0, 0, 0, 0), (7, 2, 4, 0, 0, 0, 0, 0, 0, 0),
  (6, 1, 1, 0, 0, 0, 0, 0, 0, 0), (4, 2, 4, 0, 0, 0, 0, 0, 0, 0), (48, 3, 166, 76, 0, 844, 2, 0, 0, 0), (22, 3, 51, 0, 0, 0, 0, 0, 0, 0), (6, 1, 1, 0, 0, 0, 0, 0, 0, 0), (44, 3, 169, 0, 12, 456, 0, 0, 0, 0),
  (4, 1, 2, 0, 0, 0, 0, 0, 0, 0), (33, 1, 0, 0, 0, 0, 0, 0, 0, 0), (4, 2, 4, 0, 0, 0, 0, 0, 0, 0), (11, 1, 0, 0, 7, 0, 0, 0, 0, 0), (0, 1, 0, 0, 0, 0, 0, 0, 1, 0), (11, 1, 0, 0, 3, 0, 0, 0, 0, 0),
  (22, 3, 60, 0, 1, 0, 0, 0, 0, 0), (24, 0, 51, 0, 1, 0, 0, 0, 0, 0)]
def q75_51 : List XO := [(6, 1, 0, 0, 0, 0, 0, 0, 0, 0), (44, 3, 12, 1, 0, 259, 0, 0, 0, 0), (0, 1, 0, 0, 0, 0, 0, 0, 4, 0), (48, 3, 73, 53, 0, 736, 2, 5, 0, 0), (27, 1, 0, 0, 1, 0, 0, 0, 0, 0)]
def q75_60 : List XO := [(6, 1, 1, 0, 0, 0, 0, 0, 0, 0), (44, 3, 172, 0, 14, 463, 0, 0, 0, 0), (4, 1, 2, 0, 0, 0, 0, 0, 0, 0), (33, 1, 0, 0, 0, 0, 0, 0, 0, 0), (4, 2, 4, 0, 0, 0, 0, 0, 0, 0), (11, 1, 0, 0, 7, 0, 0, 0, 0, 0),
  (0, 1, 0, 0, 0, 0, 0, 0, 1, 0), (11, 1, 0, 0, 3, 0, 0, 0, 0, 0), (22, 3, 83, 0, 0, 0, 0, 0, 0, 0), (6, 1, 0, 0, 0, 0, 0, 0, 0, 0), (44, 3, 12, 1, 0, 259, 0, 0, 0, 0), (0, 1, 0, 0, 0, 0, 0, 0, 5, 0),
  (48, 3, 73, 53, 0, 736, 2, 5, 0, 0), (27, 1, 0, 0, 1, 0, 0, 0, 0, 0)]
def q75_83 : List XO := [(6, 1, 1, 0, 0, 0, 0, 0, 0, 0), (4, 1, 2, 0, 0, 0, 0, 0, 0, 0), (4, 2, 4, 0, 0, 0, 0, 0, 0, 0), (48, 3, 174, 77, 0, 848, 3, 0, 0, 0), (22, 3, 103, 0, 0, 0, 0, 0, 0, 0), (6, 1, 0, 0, 0, 0, 0, 0, 0, 0),
  (44, 3, 12, 1, 0, 259, 0, 0, 0, 0), (0, 2, 0, 0, 1, 0, 0, 0, 6, 0), (48, 3, 73, 53, 0, 736, 2, 5, 0, 0), (27, 1, 0, 0, 1, 0, 0, 0, 0, 0)]
def q75_103 : List XO := [(6, 1, 0, 0, 0, 0, 0, 0, 0, 0), (44, 3, 12, 1, 0, 259, 0, 0, 0, 0), (48, 3, 77, 36, 0, 740, 1, 5, 0, 0), (10, 3, 3, 0, 0, 0, 0, 0, 1, 0), (24, 3, 2, 0, 0, 0, 0, 0, 0, 0)]
def q75_116 : List XO := [(0, 1, 0, 0, 0, 0, 0, 0, 1, 0), (27, 1, 0, 0, 1, 0, 0, 0, 0, 0)]
def xt75 : List (Nat × List XO) := [(0, q75_0), (2, q75_2), (51, q75_51), (60, q75_60), (83, q75_83), (103, q75_103), (116, q75_116)]
def q76_0 : List XO := [(4, 1, 1, 0, 0, 0, 0, 0, 0, 0), (22, 3, 21, 0, 2, 0, 0, 0, 0, 0), (4, 1, 1, 0, 0, 0, 0, 0, 0, 0), (6, 1, 0, 0, 0, 0, 0, 0, 0, 0), (42, 3, 53, 0, 0, 422, 0, 0, 0, 0), (6, 1, 0, 0, 0, 0, 0, 0, 0, 0),
  (42, 3, 57, 0, 1, 427, 0, 0, 0, 0), (11, 1, 0, 0, 2, 0, 0, 0, 0, 0), (23, 3, 21, 0, 3, 0, 0, 0, 0, 0), (0, 1, 0, 0, 0, 0, 0, 0, 1, 0), (24, 3, 22, 0, 0, 0, 0, 0, 0, 0)]
def q76_21 : List XO := [(0, 1, 0, 0, 0, 0, 0, 0, 0, 0), (24, 0, 22, 0, 1, 0, 0, 0, 0, 0)]
def q76_22 : List XO := [(27, 1, 0, 0, 1, 0, 0, 0, 0, 0)]
def xt76 : List (Nat × List XO) := [(0, q76_0), (21, q76_21), (22, q76_22)]
def q77_0 : List XO := [(6, 1, 0, 0, 0, 0, 0, 0, 0, 0), (4, 1, 1, 0, 0, 0, 0, 0, 0, 0), (48, 3, 131, 72, 0, 834, 2, 0, 0, 0), (22, 3, 16, 0, 0, 0, 0, 0, 0, 0), (6, 1, 0, 0, 0, 0, 0, 0, 0, 0), (4, 1, 2, 0, 0, 0, 0, 0, 0, 0),
  (48, 3, 103, 76, 0, 852, 2, 0, 0, 0), (22, 3, 18, 0, 1, 0, 0, 0, 0, 0), (24, 0, 16, 0, 1, 0, 0, 0, 0, 0)]
def q77_16 : List XO := [(0, 1, 0, 0, 0, 0, 0, 0, 2, 0), (27, 1, 0, 0, 0, 0, 0, 0, 0, 0)]
def q77_18 : List XO := [(6, 1, 0, 0, 0, 0, 0, 0, 0, 0), (44, 3, 40, 0, 14, 462, 0, 0, 0, 0), (4, 1, 1, 0, 0, 0, 0, 0, 0, 0), (33, 1, 0, 0, 0, 0, 0, 0, 0, 0), (48, 3, 152, 78, 1, 853, 1, 99, 0, 0), (0, 2, 0, 0, 1, 0, 0, 0, 6, 0),
  (23, 3, 35, 0, 2, 0, 0, 0, 0, 0), (0, 2, 0, 0, 1, 0, 0, 0, 7, 0), (27, 1, 0, 0, 0, 0, 0, 0, 0, 0)]
def q77_35 : List XO := [(6, 1, 0, 0, 0, 0, 0, 0, 0, 0), (44, 3, 34, 0, 12, 455, 0, 0, 0, 0), (4, 1, 1, 0, 0, 0, 0, 0, 0, 0), (33, 1, 0, 0, 0, 0, 0, 0, 0, 0), (6, 1, 0, 0, 0, 0, 0, 0, 0, 0), (44, 3, 40, 0, 14, 462, 0, 0, 0, 0),
  (4, 1, 1, 0, 0, 0, 0, 0, 0, 0), (33, 1, 0, 0, 0, 0, 0, 0, 0, 0), (0, 1, 0, 0, 0, 0, 0, 0, (-1), 0), (11, 1, 0, 0, 5, 0, 0, 0, 0, 0), (11, 1, 0, 0, 3, 0, 0, 0, 0, 0), (0, 1, 0, 0, 0, 0, 0, 0, 1, 0),
  (4, 1, 2, 0, 0, 0, 0, 0, 0, 0), (11, 1, 0, 0, 6, 0, 0, 0, 0, 0), (11, 1, 0, 0, 3, 0, 0, 0, 0, 0), (22, 3, 60, 0, 1, 0, 0, 0, 0, 0), (0, 2, 0, 0, 1, 0, 0, 0, 9, 0), (27, 1, 0, 0, 0, 0, 0, 0, 0, 0)]
def q77_60 : List XO := [(6, 1, 0, 0, 0, 0, 0, 0, 0, 0), (44, 3, 40, 0, 14, 462, 0, 0, 0, 0), (4, 1, 1, 0, 0, 0, 0, 0, 0, 0), (20, 1, 0, 0, 0, 0, 0, 0, 0, 0), (33, 1, 0, 0, 0, 0, 0, 0, 0, 0), (0, 1, 0, 0, 0, 0, 0, 0, 1, 0),
  (4, 1, 2, 0, 0, 0, 0, 0, 0, 0), (11, 1, 0, 0, 6, 0, 0, 0, 0, 0), (11, 1, 0, 0, 4, 0, 0, 0, 0, 0), (34, 1, 0, 0, 0, 0, 0, 0, 0, 0), (0, 1, 0, 0, 0, 0, 0, 0, 0, 0), (27, 1, 0, 0, 0, 0, 0, 0, 0, 0)]
def xt77 : List (Nat × List XO) := [(0, q77_0), (16, q77_16), (18, q77_18), (35, q77_35), (60, q77_60)]
def q78_0 : List XO := [(4, 1, 0, 0, 0, 0, 0, 0, 0, 0), (4, 1, 0, 0, 0, 0, 0, 0, 0, 0), (0, 1, 0, 0, 0, 0, 0, 0, 1, 0), (11, 1, 0, 0, 8, 0, 0, 0, 0, 0), (0, 3, 265, 0, 4, 856, 0, 0, 1431655765, 0), (11, 1, 0, 0, 3, 0, 0, 0, 0, 0),
  (11, 1, 0, 0, 1, 0, 0, 0, 0, 0), (7, 1, 0, 0, 0, 0, 0, 0, 0, 0), (4, 1, 0, 0, 0, 0, 0, 0, 0, 0), (0, 3, 266, 0, 4, 857, 0, 0, 858993459, 0), (11, 1, 0, 0, 3, 0, 0, 0, 0, 0), (4, 1, 0, 0, 0, 0, 0, 0, 0, 0),
  (0, 1, 0, 0, 0, 0, 0, 0, 2, 0), (11, 1, 0, 0, 8, 0, 0, 0, 0, 0), (0, 3, 266, 0, 4, 857, 0, 0, 858993459, 0), (11, 1, 0, 0, 3, 0, 0, 0, 0, 0), (11, 1, 0, 0, 0, 0, 0, 0, 0, 0), (7, 1, 0, 0, 0, 0, 0, 0, 0, 0),
  (4, 1, 0, 0, 0, 0, 0, 0, 0, 0), (4, 1, 0, 0, 0, 0, 0, 0, 0, 0), (0, 1, 0, 0, 0, 0, 0, 0, 4, 0), (11, 1, 0, 0, 8, 0, 0, 0, 0, 0), (11, 1, 0, 0, 0, 0, 0, 0, 0, 0), (0, 3, 267, 0, 4, 858, 0, 0, 252645135, 0),
  (11, 1, 0, 0, 3, 0, 0, 0, 0, 0), (7, 1, 0, 0, 0, 0, 0, 0, 0, 0), (4, 1, 0, 0, 0, 0, 0, 0, 0, 0), (4, 1, 0, 0, 0, 0, 0, 0, 0, 0), (0, 2, 0, 0, 1, 0, 0, 0, 8, 0), (11, 1, 0, 0, 8, 0, 0, 0, 0, 0),
  (11, 1, 0, 0, 0, 0, 0, 0, 0, 0), (7, 1, 0, 0, 0, 0, 0, 0, 0, 0), (4, 1, 0, 0, 0, 0, 0, 0, 0, 0), (4, 1, 0, 0, 0, 0, 0, 0, 0, 0), (0, 2, 0, 0, 1, 0, 0, 0, 16, 0), (11, 1, 0, 0, 8, 0, 0, 0, 0, 0),
  (11, 1, 0, 0, 0, 0, 0, 0, 0, 0), (7, 1, 0, 0, 0, 0, 0, 0, 0, 0), (4, 1, 0, 0, 0, 0, 0, 0, 0, 0), (0, 2, 0, 0, 1, 0, 0, 0, 63, 0), (11, 1, 0, 0, 3, 0, 0, 0, 0, 0), (27, 1, 0, 0, 0, 0, 0, 0, 0, 0)]
def xt78 : List (Nat × List XO) := [(0, q78_0)]
def q79_0 : List XO := [(6, 1, 0, 0, 0, 0, 0, 0, 0, 0), (0, 1, 0, 0, 0, 0, 0, 0, 0, 0), (45, 3, 116, 9, 12, 528, 0, 0, 0, 0), (6, 1, 0, 0, 0, 0, 0, 0, 0, 0), (6, 1, 1, 0, 0, 0, 0, 0, 0, 0), (42, 3, 165, 5, 8, 234, 0, 0, 0, 0),
  (45, 3, 73, 9, 14, 530, 0, 0, 0, 0), (6, 1, 0, 0, 0, 0, 0, 0, 0, 0), (6, 1, 1, 0, 0, 0, 0, 0, 0, 0), (42, 3, 170, 5, 9, 236, 0, 0, 0, 0), (45, 3, 77, 9, 15, 531, 0, 0, 0, 0), (27, 1, 0, 0, 3, 0, 0, 0, 0, 0)]
def xt79 : List (Nat × List XO) := [(0, q79_0)]
def q80_0 : List XO := [(6, 1, 0, 0, 0, 0, 0, 0, 0, 0), (6, 1, 1, 0, 0, 0, 0, 0, 0, 0), (42, 3, 53, 0, 0, 422, 0, 0, 0, 0), (45, 3, 53, 0, 0, 422, 0, 0, 0, 0), (6, 1, 0, 0, 0, 0, 0, 0, 0, 0), (6, 1, 1, 0, 0, 0, 0, 0, 0, 0),
  (42, 3, 57, 0, 1, 427, 0, 0, 0, 0), (45, 3, 57, 0, 1, 427, 0, 0, 0, 0), (6, 1, 0, 0, 0, 0, 0, 0, 0, 0), (6, 1, 1, 0, 0, 0, 0, 0, 0, 0), (42, 3, 60, 0, 2, 432, 0, 0, 0, 0), (45, 3, 60, 0, 2, 432, 0, 0, 0, 0),
  (6, 1, 0, 0, 0, 0, 0, 0, 0, 0), (6, 1, 1, 0, 0, 0, 0, 0, 0, 0), (42, 3, 63, 0, 3, 436, 0, 0, 0, 0), (45, 3, 63, 0, 3, 436, 0, 0, 0, 0), (6, 1, 1, 0, 0, 0, 0, 0, 0, 0), (44, 3, 9, 0, 4, 439, 0, 0, 0, 0),
  (6, 1, 0, 0, 0, 0, 0, 0, 0, 0), (44, 3, 9, 0, 4, 439, 0, 0, 0, 0), (48, 3, 79, 81, 1, 868, 2, 0, 0, 0), (6, 1, 1, 0, 0, 0, 0, 0, 0, 0), (44, 3, 15, 0, 5, 441, 0, 0, 0, 0), (6, 1, 0, 0, 0, 0, 0, 0, 0, 0),
  (44, 3, 15, 0, 5, 441, 0, 0, 0, 0), (48, 3, 79, 81, 1, 868, 2, 0, 0, 0), (6, 1, 1, 0, 0, 0, 0, 0, 0, 0), (44, 3, 18, 0, 6, 443, 0, 0, 0, 0), (6, 1, 0, 0, 0, 0, 0, 0, 0, 0), (44, 3, 18, 0, 6, 443, 0, 0, 0, 0),
  (48, 3, 79, 81, 1, 868, 2, 0, 0, 0), (6, 1, 0, 0, 0, 0, 0, 0, 0, 0), (6, 1, 1, 0, 0, 0, 0, 0, 0, 0), (42, 3, 66, 0, 7, 444, 0, 0, 0, 0), (45, 3, 66, 0, 7, 444, 0, 0, 0, 0), (6, 1, 1, 0, 0, 0, 0, 0, 0, 0),
  (44, 3, 21, 0, 8, 448, 0, 0, 0, 0), (0, 1, 0, 0, 0, 0, 0, 0, 0, 0), (6, 1, 0, 0, 0, 0, 0, 0, 0, 0), (44, 3, 21, 0, 8, 448, 0, 0, 0, 0), (0, 1, 0, 0, 0, 0, 0, 0, 0, 0), (6, 1, 0, 0, 0, 0, 0, 0, 0, 0),
  (44, 3, 21, 0, 8, 448, 0, 0, 0, 0), (32, 1, 0, 0, 0, 0, 0, 0, 0, 0), (50, 3, 83, 0, 1, 872, 0, 0, 0, 0), (6, 1, 1, 0, 0, 0, 0, 0, 0, 0), (44, 3, 25, 0, 9, 449, 0, 0, 0, 0), (6, 1, 0, 0, 0, 0, 0, 0, 0, 0),
  (44, 3, 25, 0, 9, 449, 0, 0, 0, 0), (48, 3, 79, 81, 1, 868, 2, 0, 0, 0), (6, 1, 1, 0, 0, 0, 0, 0, 0, 0), (44, 3, 28, 0, 10, 451, 0, 0, 0, 0), (6, 1, 0, 0, 0, 0, 0, 0, 0, 0), (44, 3, 28, 0, 10, 451, 0, 0, 0, 0),
  (48, 3, 79, 81, 1, 868, 2, 0, 0, 0), (6, 1, 1, 0, 0, 0, 0, 0, 0, 0), (44, 3, 31, 0, 11, 453, 0, 0, 0, 0), (6, 1, 0, 0, 0, 0, 0, 0, 0, 0), (44, 3, 31, 0, 11, 453, 0, 0, 0, 0), (48, 3, 79, 81, 1, 868, 2, 0, 0, 0),
  (6, 1, 1, 0, 0, 0, 0, 0, 0, 0), (44, 3, 34, 0, 12, 455, 0, 0, 0, 0), (6, 1, 0, 0, 0, 0, 0, 0, 0, 0), (44, 3, 34, 0, 12, 455, 0, 0, 0, 0), (48, 3, 79, 81, 1, 868, 2, 0, 0, 0), (6, 1, 1, 0, 0, 0, 0, 0, 0, 0),
  (44, 3, 37, 0, 13, 458, 0, 0, 0, 0), (6, 1, 0, 0, 0, 0, 0, 0, 0, 0), (44, 3, 37, 0, 13, 458, 0, 0, 0, 0), (48, 3, 79, 81, 1, 868, 2, 0, 0, 0), (6, 1, 1, 0, 0, 0, 0, 0, 0, 0), (44, 3, 40, 0, 14, 462, 0, 0, 0, 0),
  (6, 1, 0, 0, 0, 0, 0, 0, 0, 0), (44, 3, 40, 0, 14, 462, 0, 0, 0, 0), (48, 3, 79, 81, 1, 868, 2, 0, 0, 0), (6, 1, 0, 0, 0, 0, 0, 0, 0, 0), (6, 1, 1, 0, 0, 0, 0, 0, 0, 0), (42, 3, 69, 0, 15, 465, 0, 0, 0, 0),
  (45, 3, 69, 0, 15, 465, 0, 0, 0, 0), (6, 1, 0, 0, 0, 0, 0, 0, 0, 0), (6, 1, 1, 0, 0, 0, 0, 0, 0, 0), (42, 3, 72, 0, 16, 467, 0, 0, 0, 0), (45, 3, 72, 0, 16, 467, 0, 0, 0, 0), (6, 1, 0, 0, 0, 0, 0, 0, 0, 0),
  (6, 1, 1, 0, 0, 0, 0, 0, 0, 0), (42, 3, 75, 0, 17, 470, 0, 0, 0, 0), (45, 3, 75, 0, 17, 470, 0, 0, 0, 0), (6, 1, 0, 0, 0, 0, 0, 0, 0, 0), (44, 3, 46, 0, 18, 473, 0, 0, 0, 0), (6, 1, 1, 0, 0, 0, 0, 0, 0, 0),
  (44, 3, 46, 0, 18, 473, 0, 0, 0, 0), (48, 3, 89, 82, 0, 873, 2, 7, 0, 0), (27, 1, 0, 0, 3, 0, 0, 0, 0, 0)]
def xt80 : List (Nat × List XO) := [(0, q80_0)]
def q81_0 : List XO := [(6, 1, 0, 0, 0, 0, 0, 0, 0, 0), (0, 1, 0, 0, 0, 0, 0, 0, 0, 0), (6, 1, 1, 0, 0, 0, 0, 0, 0, 0), (0, 1, 0, 0, 0, 0, 0, 0, 0, 0), (6, 1, 0, 0, 0, 0, 0, 0, 0, 0), (32, 1, 0, 0, 0, 0, 0, 0, 0, 0),
  (6, 1, 1, 0, 0, 0, 0, 0, 0, 0), (32, 1, 0, 0, 0, 0, 0, 0, 0, 0), (48, 3, 93, 34, 1, 871, 2, 99, 0, 0), (50, 3, 83, 0, 0, 872, 0, 0, 0, 0), (27, 1, 0, 0, 3, 0, 0, 0, 0, 0)]
def xt81 : List (Nat × List XO) := [(0, q81_0)]
def q82_0 : List XO := [(6, 1, 0, 0, 0, 0, 0, 0, 0, 0), (6, 1, 1, 0, 0, 0, 0, 0, 0, 0), (42, 3, 30, 7, 0, 370, 0, 0, 0, 0), (61, 3, 30, 7, 0, 370, 0, 0, 0, 0), (6, 1, 0, 0, 0, 0, 0, 0, 0, 0), (6, 1, 1, 0, 0, 0, 0, 0, 0, 0),
  (42, 3, 34, 7, 1, 373, 0, 0, 0, 0), (45, 3, 34, 7, 1, 373, 0, 0, 0, 0), (6, 1, 0, 0, 0, 0, 0, 0, 0, 0), (6, 1, 1, 0, 0, 0, 0, 0, 0, 0), (42, 3, 38, 7, 2, 376, 0, 0, 0, 0), (45, 3, 38, 7, 2, 376, 0, 0, 0, 0),
  (6, 1, 1, 0, 0, 0, 0, 0, 0, 0), (44, 3, 9, 7, 3, 378, 0, 0, 0, 0), (0, 1, 0, 0, 0, 0, 0, 0, 0, 0), (6, 1, 0, 0, 0, 0, 0, 0, 0, 0), (44, 3, 9, 7, 3, 378, 0, 0, 0, 0), (0, 1, 0, 0, 0, 0, 0, 0, 0, 0),
  (6, 1, 0, 0, 0, 0, 0, 0, 0, 0), (44, 3, 9, 7, 3, 378, 0, 0, 0, 0), (32, 1, 0, 0, 0, 0, 0, 0, 0, 0), (50, 3, 41, 0, 0, 877, 0, 0, 0, 0), (6, 1, 1, 0, 0, 0, 0, 0, 0, 0), (44, 3, 15, 7, 4, 381, 0, 0, 0, 0),
  (0, 1, 0, 0, 0, 0, 0, 0, 0, 0), (6, 1, 0, 0, 0, 0, 0, 0, 0, 0), (44, 3, 15, 7, 4, 381, 0, 0, 0, 0), (0, 1, 0, 0, 0, 0, 0, 0, 0, 0), (6, 1, 0, 0, 0, 0, 0, 0, 0, 0), (44, 3, 15, 7, 4, 381, 0, 0, 0, 0),
  (32, 1, 0, 0, 0, 0, 0, 0, 0, 0), (50, 3, 41, 0, 0, 877, 0, 0, 0, 0), (6, 1, 1, 0, 0, 0, 0, 0, 0, 0), (44, 3, 18, 7, 5, 384, 0, 0, 0, 0), (0, 1, 0, 0, 0, 0, 0, 0, 0, 0), (6, 1, 0, 0, 0, 0, 0, 0, 0, 0),
  (44, 3, 18, 7, 5, 384, 0, 0, 0, 0), (0, 1, 0, 0, 0, 0, 0, 0, 0, 0), (6, 1, 0, 0, 0, 0, 0, 0, 0, 0), (44, 3, 18, 7, 5, 384, 0, 0, 0, 0), (32, 1, 0, 0, 0, 0, 0, 0, 0, 0), (50, 3, 41, 0, 0, 877, 0, 0, 0, 0),
  (6, 1, 1, 0, 0, 0, 0, 0, 0, 0), (44, 3, 21, 7, 6, 387, 0, 0, 0, 0), (0, 1, 0, 0, 0, 0, 0, 0, 0, 0), (6, 1, 0, 0, 0, 0, 0, 0, 0, 0), (44, 3, 21, 7, 6, 387, 0, 0, 0, 0), (0, 1, 0, 0, 0, 0, 0, 0, 0, 0),
  (6, 1, 0, 0, 0, 0, 0, 0, 0, 0), (44, 3, 21, 7, 6, 387, 0, 0, 0, 0), (32, 1, 0, 0, 0, 0, 0, 0, 0, 0), (50, 3, 41, 0, 0, 877, 0, 0, 0, 0), (6, 1, 1, 0, 0, 0, 0, 0, 0, 0), (44, 3, 24, 7, 7, 390, 0, 0, 0, 0),
  (0, 1, 0, 0, 0, 0, 0, 0, 0, 0), (6, 1, 0, 0, 0, 0, 0, 0, 0, 0), (44, 3, 24, 7, 7, 390, 0, 0, 0, 0), (0, 1, 0, 0, 0, 0, 0, 0, 0, 0), (6, 1, 0, 0, 0, 0, 0, 0, 0, 0), (44, 3, 24, 7, 7, 390, 0, 0, 0, 0),
  (32, 1, 0, 0, 0, 0, 0, 0, 0, 0), (50, 3, 41, 0, 0, 877, 0, 0, 0, 0), (6, 1, 1, 0, 0, 0, 0, 0, 0, 0), (44, 3, 27, 7, 8, 393, 0, 0, 0, 0), (0, 1, 0, 0, 0, 0, 0, 0, 0, 0), (6, 1, 0, 0, 0, 0, 0, 0, 0, 0),
  (44, 3, 27, 7, 8, 393, 0, 0, 0, 0), (0, 1, 0, 0, 0, 0, 0, 0, 0, 0), (6, 1, 0, 0, 0, 0, 0, 0, 0, 0), (44, 3, 27, 7, 8, 393, 0, 0, 0, 0), (32, 1, 0, 0, 0, 0, 0, 0, 0, 0), (50, 3, 41, 0, 0, 877, 0, 0, 0, 0),
  (27, 1, 0, 0, 3, 0, 0, 0, 0, 0)]
def xt82 : List (Nat × List XO) := [(0, q82_0)]
def q83_0 : List XO := [(6, 1, 0, 0, 0, 0, 0, 0, 0, 0), (0, 1, 0, 0, 0, 0, 0, 0, 0, 0), (45, 3, 80, 9, 13, 529, 0, 0, 0, 0), (4, 1, 1, 0, 0, 0, 0, 0, 0, 0), (27, 1, 0, 0, 0, 0, 0, 0, 0, 0)]
def xt83 : List (Nat × List XO) := [(0, q83_0)]
def q84_0 : List XO := [(4, 1, 1, 0, 0, 0, 0, 0, 0, 0), (22, 3, 19, 0, 2, 0, 0, 0, 0, 0), (4, 1, 1, 0, 0, 0, 0, 0, 0, 0), (6, 1, 0, 0, 0, 0, 0, 0, 0, 0), (42, 3, 116, 9, 12, 528, 0, 0, 0, 0), (23, 3, 19, 0, 4, 0, 0, 0, 0, 0),
  (4, 1, 1, 0, 0, 0, 0, 0, 0, 0), (0, 3, 0, 0, 2, 0, 0, 0, 300, 0), (23, 3, 25, 0, 5, 0, 0, 0, 0, 0), (24, 0, 19, 0, 1, 0, 0, 0, 0, 0)]
def q84_19 : List XO := [(6, 1, 0, 0, 0, 0, 0, 0, 0, 0), (0, 1, 0, 0, 0, 0, 0, 0, 5, 0), (48, 3, 123, 31, 0, 643, 2, 9, 0, 0), (27, 1, 0, 0, 0, 0, 0, 0, 0, 0)]
def q84_25 : List XO := [(6, 1, 0, 0, 0, 0, 0, 0, 0, 0), (44, 3, 37, 9, 4, 520, 0, 0, 0, 0), (6, 1, 0, 0, 0, 0, 0, 0, 0, 0), (44, 3, 23, 9, 2, 518, 0, 0, 0, 0), (4, 1, 1, 0, 0, 0, 0, 0, 0, 0), (6, 1, 0, 0, 0, 0, 0, 0, 0, 0),
  (44, 3, 62, 9, 8, 524, 0, 0, 0, 0), (6, 1, 0, 0, 0, 0, 0, 0, 0, 0), (44, 3, 66, 9, 9, 525, 0, 0, 0, 0), (44, 3, 149, 0, 18, 475, 0, 0, 0, 0), (48, 3, 153, 85, 0, 886, 5, 8, 0, 0), (7, 1, 2, 0, 0, 0, 0, 0, 0, 0),
  (6, 1, 0, 0, 0, 0, 0, 0, 0, 0), (6, 1, 0, 0, 0, 0, 0, 0, 0, 0), (44, 3, 37, 9, 4, 520, 0, 0, 0, 0), (44, 3, 156, 8, 0, 279, 0, 0, 0, 0), (48, 3, 135, 79, 0, 860, 2, 9, 0, 0), (4, 1, 2, 0, 0, 0, 0, 0, 0, 0),
  (22, 3, 71, 0, 1, 0, 0, 0, 0, 0), (6, 1, 0, 0, 0, 0, 0, 0, 0, 0), (0, 2, 0, 0, 1, 0, 0, 0, 10, 0), (48, 3, 123, 31, 0, 643, 2, 9, 0, 0), (27, 1, 0, 0, 0, 0, 0, 0, 0, 0)]
def q84_71 : List XO := [(6, 1, 0, 0, 0, 0, 0, 0, 0, 0), (44, 3, 62, 9, 8, 524, 0, 0, 0, 0), (44, 3, 149, 0, 18, 475, 0, 0, 0, 0), (6, 1, 0, 0, 0, 0, 0, 0, 0, 0), (44, 3, 66, 9, 9, 525, 0, 0, 0, 0), (44, 3, 149, 0, 18, 475, 0, 0, 0, 0),
  (48, 3, 157, 82, 0, 960, 2, 7, 0, 0), (6, 1, 0, 0, 0, 0, 0, 0, 0, 0), (6, 1, 0, 0, 0, 0, 0, 0, 0, 0), (44, 3, 62, 9, 8, 524, 0, 0, 0, 0), (44, 3, 149, 0, 18, 475, 0, 0, 0, 0), (42, 3, 162, 7, 1, 375, 0, 0, 0, 0),
  (48, 3, 146, 83, 0, 878, 2, 9, 0, 0), (27, 1, 0, 0, 0, 0, 0, 0, 0, 0)]
def xt84 : List (Nat × List XO) := [(0, q84_0), (19, q84_19), (25, q84_25), (71, q84_71)]
def q85_0 : List XO := [(6, 1, 0, 0, 0, 0, 0, 0, 0, 0), (44, 3, 12, 8, 0, 278, 0, 0, 0, 0), (6, 1, 1, 0, 0, 0, 0, 0, 0, 0), (4, 1, 2, 0, 0, 0, 0, 0, 0, 0), (48, 3, 22, 33, 0, 890, 3, 5, 0, 0), (6, 2, 4, 0, 0, 0, 0, 0, 0, 0),
  (48, 3, 26, 12, 0, 891, 1, 7, 0, 0), (6, 2, 4, 0, 0, 0, 0, 0, 0, 0), (0, 1, 0, 0, 0, 0, 0, 0, 1, 0), (61, 3, 31, 7, 0, 371, 0, 0, 0, 0), (6, 1, 0, 0, 0, 0, 0, 0, 0, 0), (0, 1, 0, 0, 0, 0, 0, 0, 0, 0),
  (45, 3, 35, 8, 2, 281, 0, 0, 0, 0), (0, 1, 0, 0, 0, 0, 0, 0, 1, 0), (7, 2, 5, 0, 0, 0, 0, 0, 0, 0), (0, 1, 0, 0, 0, 0, 0, 0, 0, 0), (7, 2, 6, 0, 0, 0, 0, 0, 0, 0), (24, 0, 31, 0, 1, 0, 0, 0, 0, 0)]
def q85_31 : List XO := [(4, 2, 6, 0, 0, 0, 0, 0, 0, 0), (0, 3, 0, 0, 2, 0, 0, 0, 900, 0), (23, 3, 168, 0, 3, 0, 0, 0, 0, 0), (4, 2, 5, 0, 0, 0, 0, 0, 0, 0), (22, 3, 168, 0, 0, 0, 0, 0, 0, 0), (6, 1, 0, 0, 0, 0, 0, 0, 0, 0),
  (44, 3, 12, 8, 0, 278, 0, 0, 0, 0), (42, 3, 39, 5, 4, 223, 0, 0, 0, 0), (22, 3, 168, 0, 0, 0, 0, 0, 0, 0), (6, 1, 0, 0, 0, 0, 0, 0, 0, 0), (44, 3, 12, 8, 0, 278, 0, 0, 0, 0), (2, 2, 42, 14, 0, 892, 0, 0, 0, 0),
  (48, 3, 44, 40, 0, 893, 2, 5, 0, 0), (22, 3, 77, 0, 0, 0, 0, 0, 0, 0), (6, 1, 0, 0, 0, 0, 0, 0, 0, 0), (6, 2, 4, 0, 0, 0, 0, 0, 0, 0), (48, 3, 48, 86, 0, 894, 2, 8, 0, 0), (7, 2, 5, 0, 0, 0, 0, 0, 0, 0),
  (24, 3, 140, 0, 0, 0, 0, 0, 0, 0)]
def q85_77 : List XO := [(6, 1, 0, 0, 0, 0, 0, 0, 0, 0), (48, 3, 52, 90, 0, 912, 1, 8, 0, 0), (7, 2, 7, 0, 0, 0, 0, 0, 0, 0), (6, 1, 0, 0, 0, 0, 0, 0, 0, 0), (6, 2, 4, 0, 0, 0, 0, 0, 0, 0), (4, 2, 7, 0, 0, 0, 0, 0, 0, 0),
  (48, 3, 56, 91, 0, 927, 3, 8, 0, 0), (7, 2, 8, 0, 0, 0, 0, 0, 0, 0), (4, 2, 8, 0, 0, 0, 0, 0, 0, 0), (0, 1, 0, 0, 0, 0, 0, 0, (-1), 0), (23, 3, 137, 0, 0, 0, 0, 0, 0, 0), (4, 2, 7, 0, 0, 0, 0, 0, 0, 0),
  (0, 2, 0, 0, 1, 0, 0, 0, 11, 0), (23, 3, 121, 0, 1, 0, 0, 0, 0, 0), (6, 1, 0, 0, 0, 0, 0, 0, 0, 0), (6, 1, 3, 0, 0, 0, 0, 0, 0, 0), (6, 2, 4, 0, 0, 0, 0, 0, 0, 0), (4, 2, 8, 0, 0, 0, 0, 0, 0, 0),
  (48, 3, 60, 92, 0, 932, 4, 8, 0, 0), (22, 3, 137, 0, 0, 0, 0, 0, 0, 0), (24, 3, 133, 0, 0, 0, 0, 0, 0, 0)]
def q85_121 : List XO := [(6, 1, 0, 0, 0, 0, 0, 0, 0, 0), (6, 1, 3, 0, 0, 0, 0, 0, 0, 0), (6, 2, 4, 0, 0, 0, 0, 0, 0, 0), (4, 2, 8, 0, 0, 0, 0, 0, 0, 0), (48, 3, 64, 96, 0, 955, 4, 8, 0, 0), (22, 3, 137, 0, 0, 0, 0, 0, 0, 0),
  (24, 0, 133, 0, 1, 0, 0, 0, 0, 0)]
def q85_133 : List XO := [(0, 1, 0, 0, 0, 0, 0, 0, 1, 0), (24, 3, 138, 0, 0, 0, 0, 0, 0, 0)]
def q85_137 : List XO := [(0, 1, 0, 0, 0, 0, 0, 0, 0, 0), (24, 0, 138, 0, 1, 0, 0, 0, 0, 0)]
def q85_138 : List XO := [(7, 2, 5, 0, 0, 0, 0, 0, 0, 0), (24, 0, 140, 0, 1, 0, 0, 0, 0, 0)]
def q85_140 : List XO := [(4, 2, 5, 0, 0, 0, 0, 0, 0, 0), (22, 3, 159, 0, 0, 0, 0, 0, 0, 0), (6, 1, 0, 0, 0, 0, 0, 0, 0, 0), (44, 3, 12, 8, 0, 278, 0, 0, 0, 0), (48, 3, 67, 57, 0, 959, 1, 5, 0, 0), (22, 3, 159, 0, 0, 0, 0, 0, 0, 0),
  (0, 1, 0, 0, 0, 0, 0, 0, 1, 0), (24, 3, 160, 0, 0, 0, 0, 0, 0, 0)]
def q85_159 : List XO := [(0, 1, 0, 0, 0, 0, 0, 0, 0, 0), (24, 0, 160, 0, 1, 0, 0, 0, 0, 0)]
def q85_160 : List XO := [(7, 2, 5, 0, 0, 0, 0, 0, 0, 0), (10, 3, 6, 0, 0, 0, 0, 0, 1, 0), (24, 3, 31, 0, 0, 0, 0, 0, 0, 0)]
def q85_168 : List XO := [(4, 2, 5, 0, 0, 0, 0, 0, 0, 0), (22, 3, 194, 0, 0, 0, 0, 0, 0, 0), (6, 1, 0, 0, 0, 0, 0, 0, 0, 0), (42, 3, 35, 8, 2, 281, 0, 0, 0, 0), (22, 3, 190, 0, 0, 0, 0, 0, 0, 0), (6, 1, 0, 0, 0, 0, 0, 0, 0, 0),
  (44, 3, 12, 8, 0, 278, 0, 0, 0, 0), (48, 3, 71, 55, 0, 898, 1, 5, 0, 0), (22, 3, 194, 0, 0, 0, 0, 0, 0, 0), (24, 0, 190, 0, 1, 0, 0, 0, 0, 0)]
def q85_190 : List XO := [(0, 1, 0, 0, 0, 0, 0, 0, 1, 0), (24, 3, 195, 0, 0, 0, 0, 0, 0, 0)]
def q85_194 : List XO := [(0, 1, 0, 0, 0, 0, 0, 0, 0, 0), (24, 0, 195, 0, 1, 0, 0, 0, 0, 0)]
def q85_195 : List XO := [(27, 1, 0, 0, 1, 0, 0, 0, 0, 0)]
def xt85 : List (Nat × List XO) := [(0, q85_0), (31, q85_31), (77, q85_77), (121, q85_121), (133, q85_133), (137, q85_137), (138, q85_138), (140, q85_140),
  (159, q85_159), (160, q85_160), (168, q85_168), (190, q85_190), (194, q85_194), (195, q85_195)]
def q86_0 : List XO := [(6, 1, 0, 0, 0, 0, 0, 0, 0, 0), (42, 3, 35, 8, 2, 281, 0, 0, 0, 0), (22, 3, 19, 0, 5, 0, 0, 0, 0, 0), (6, 1, 0, 0, 0, 0, 0, 0, 0, 0), (42, 3, 35, 8, 2, 281, 0, 0, 0, 0), (6, 1, 0, 0, 0, 0, 0, 0, 0, 0),
  (44, 3, 18, 8, 1, 280, 0, 0, 0, 0), (32, 1, 0, 0, 0, 0, 0, 0, 0, 0), (23, 3, 27, 0, 5, 0, 0, 0, 0, 0), (24, 0, 19, 0, 1, 0, 0, 0, 0, 0)]
def q86_19 : List XO := [(6, 1, 0, 0, 0, 0, 0, 0, 0, 0), (44, 3, 12, 8, 0, 278, 0, 0, 0, 0), (48, 3, 71, 55, 0, 898, 1, 5, 0, 0), (27, 1, 0, 0, 1, 0, 0, 0, 0, 0)]
def q86_27 : List XO := [(6, 1, 0, 0, 0, 0, 0, 0, 0, 0), (19, 1, 0, 0, 0, 0, 0, 0, 0, 0), (42, 3, 35, 8, 2, 281, 0, 0, 0, 0), (0, 1, 0, 0, 0, 0, 0, 0, 1, 0), (11, 1, 0, 0, 1, 0, 0, 0, 0, 0), (45, 3, 35, 8, 2, 281, 0, 0, 0, 0),
  (6, 1, 1, 0, 0, 0, 0, 0, 0, 0), (0, 2, 0, 0, 1, 0, 0, 0, 15, 0), (48, 3, 74, 87, 0, 899, 2, 7, 0, 0), (7, 1, 2, 0, 0, 0, 0, 0, 0, 0), (6, 1, 1, 0, 0, 0, 0, 0, 0, 0), (6, 1, 0, 0, 0, 0, 0, 0, 0, 0),
  (44, 3, 18, 8, 1, 280, 0, 0, 0, 0), (6, 1, 0, 0, 0, 0, 0, 0, 0, 0), (42, 3, 35, 8, 2, 281, 0, 0, 0, 0), (33, 1, 0, 0, 0, 0, 0, 0, 0, 0), (4, 1, 2, 0, 0, 0, 0, 0, 0, 0), (48, 3, 78, 88, 0, 903, 3, 7, 0, 0),
  (6, 1, 0, 0, 0, 0, 0, 0, 0, 0), (44, 3, 12, 8, 0, 278, 0, 0, 0, 0), (48, 3, 82, 36, 0, 911, 1, 5, 0, 0), (0, 1, 0, 0, 0, 0, 0, 0, 1, 0), (27, 1, 0, 0, 1, 0, 0, 0, 0, 0)]
def xt86 : List (Nat × List XO) := [(0, q86_0), (19, q86_19), (27, q86_27)]
def q87_0 : List XO := [(6, 1, 0, 0, 0, 0, 0, 0, 0, 0), (42, 3, 38, 7, 2, 376, 0, 0, 0, 0), (0, 2, 0, 0, 1, 0, 0, 0, 60, 0), (23, 3, 11, 0, 2, 0, 0, 0, 0, 0), (0, 1, 0, 0, 0, 0, 0, 0, (-1), 0), (27, 1, 0, 0, 0, 0, 0, 0, 0, 0)]
def q87_11 : List XO := [(6, 1, 0, 0, 0, 0, 0, 0, 0, 0), (44, 3, 9, 7, 3, 378, 0, 0, 0, 0), (6, 1, 0, 0, 0, 0, 0, 0, 0, 0), (42, 3, 38, 7, 2, 376, 0, 0, 0, 0), (4, 1, 1, 0, 0, 0, 0, 0, 0, 0), (34, 1, 0, 0, 0, 0, 0, 0, 0, 0),
  (6, 1, 0, 0, 0, 0, 0, 0, 0, 0), (44, 3, 15, 7, 4, 381, 0, 0, 0, 0), (6, 1, 0, 0, 0, 0, 0, 0, 0, 0), (42, 3, 38, 7, 2, 376, 0, 0, 0, 0), (0, 1, 0, 0, 0, 0, 0, 0, (-1), 0), (34, 1, 0, 0, 0, 0, 0, 0, 0, 0),
  (6, 1, 0, 0, 0, 0, 0, 0, 0, 0), (44, 3, 18, 7, 5, 384, 0, 0, 0, 0), (6, 1, 0, 0, 0, 0, 0, 0, 0, 0), (42, 3, 38, 7, 2, 376, 0, 0, 0, 0), (0, 1, 0, 0, 0, 0, 0, 0, 0, 0), (34, 1, 0, 0, 0, 0, 0, 0, 0, 0),
  (6, 1, 0, 0, 0, 0, 0, 0, 0, 0), (44, 3, 21, 7, 6, 387, 0, 0, 0, 0), (6, 1, 0, 0, 0, 0, 0, 0, 0, 0), (42, 3, 38, 7, 2, 376, 0, 0, 0, 0), (0, 1, 0, 0, 0, 0, 0, 0, 0, 0), (34, 1, 0, 0, 0, 0, 0, 0, 0, 0),
  (6, 1, 0, 0, 0, 0, 0, 0, 0, 0), (44, 3, 24, 7, 7, 390, 0, 0, 0, 0), (6, 1, 0, 0, 0, 0, 0, 0, 0, 0), (42, 3, 38, 7, 2, 376, 0, 0, 0, 0), (0, 1, 0, 0, 0, 0, 0, 0, 0, 0), (34, 1, 0, 0, 0, 0, 0, 0, 0, 0),
  (6, 1, 0, 0, 0, 0, 0, 0, 0, 0), (44, 3, 27, 7, 8, 393, 0, 0, 0, 0), (6, 1, 0, 0, 0, 0, 0, 0, 0, 0), (42, 3, 38, 7, 2, 376, 0, 0, 0, 0), (0, 1, 0, 0, 0, 0, 0, 0, (-1), 0), (34, 1, 0, 0, 0, 0, 0, 0, 0, 0),
  (6, 1, 0, 0, 0, 0, 0, 0, 0, 0), (19, 1, 0, 0, 0, 0, 0, 0, 0, 0), (42, 3, 38, 7, 2, 376, 0, 0, 0, 0), (0, 1, 0, 0, 0, 0, 0, 0, 1, 0), (11, 1, 0, 0, 0, 0, 0, 0, 0, 0), (45, 3, 38, 7, 2, 376, 0, 0, 0, 0),
  (6, 1, 0, 0, 0, 0, 0, 0, 0, 0), (42, 3, 38, 7, 2, 376, 0, 0, 0, 0), (0, 1, 0, 0, 0, 0, 0, 0, 1, 0), (11, 1, 0, 0, 1, 0, 0, 0, 0, 0), (27, 1, 0, 0, 0, 0, 0, 0, 0, 0)]
def xt87 : List (Nat × List XO) := [(0, q87_0), (11, q87_11)]
def q88_0 : List XO := [(6, 1, 0, 0, 0, 0, 0, 0, 0, 0), (4, 1, 1, 0, 0, 0, 0, 0, 0, 0), (48, 3, 47, 89, 0, 907, 2, 7, 0, 0), (22, 3, 30, 0, 0, 0, 0, 0, 0, 0), (6, 1, 0, 0, 0, 0, 0, 0, 0, 0), (4, 1, 2, 0, 0, 0, 0, 0, 0, 0),
  (48, 3, 47, 89, 0, 907, 2, 7, 0, 0), (22, 3, 30, 0, 0, 0, 0, 0, 0, 0), (6, 1, 0, 0, 0, 0, 0, 0, 0, 0), (44, 3, 27, 7, 8, 393, 0, 0, 0, 0), (4, 1, 1, 0, 0, 0, 0, 0, 0, 0), (4, 1, 2, 0, 0, 0, 0, 0, 0, 0),
  (34, 1, 0, 0, 0, 0, 0, 0, 0, 0), (6, 1, 0, 0, 0, 0, 0, 0, 0, 0), (44, 3, 27, 7, 8, 393, 0, 0, 0, 0), (4, 1, 2, 0, 0, 0, 0, 0, 0, 0), (4, 1, 1, 0, 0, 0, 0, 0, 0, 0), (34, 1, 0, 0, 0, 0, 0, 0, 0, 0),
  (24, 0, 30, 0, 1, 0, 0, 0, 0, 0)]
def q88_30 : List XO := [(27, 1, 0, 0, 3, 0, 0, 0, 0, 0)]
def xt88 : List (Nat × List XO) := [(0, q88_0), (30, q88_30)]
def q89_0 : List XO := [(4, 1, 1, 0, 0, 0, 0, 0, 0, 0), (22, 3, 22, 0, 2, 0, 0, 0, 0, 0), (4, 1, 1, 0, 0, 0, 0, 0, 0, 0), (6, 1, 0, 0, 0, 0, 0, 0, 0, 0), (42, 3, 38, 7, 2, 376, 0, 0, 0, 0), (23, 3, 22, 0, 3, 0, 0, 0, 0, 0),
  (4, 1, 1, 0, 0, 0, 0, 0, 0, 0), (0, 2, 0, 0, 1, 0, 0, 0, 60, 0), (23, 3, 22, 0, 3, 0, 0, 0, 0, 0), (0, 1, 0, 0, 0, 0, 0, 0, 1, 0), (24, 3, 23, 0, 0, 0, 0, 0, 0, 0)]
def q89_22 : List XO := [(0, 1, 0, 0, 0, 0, 0, 0, 0, 0), (24, 0, 23, 0, 1, 0, 0, 0, 0, 0)]
def q89_23 : List XO := [(27, 1, 0, 0, 1, 0, 0, 0, 0, 0)]
def xt89 : List (Nat × List XO) := [(0, q89_0), (22, q89_22), (23, q89_23)]
def q90_0 : List XO := [(6, 1, 0, 0, 0, 0, 0, 0, 0, 0), (44, 3, 12, 8, 0, 278, 0, 0, 0, 0), (2, 2, 92, 15, 0, 916, 0, 0, 0, 0), (48, 3, 44, 40, 0, 893, 2, 5, 0, 0), (22, 3, 14, 0, 0, 0, 0, 0, 0, 0), (0, 1, 0, 0, 0, 0, 0, 0, 1, 0),
  (27, 1, 0, 0, 0, 0, 0, 0, 0, 0)]
def q90_14 : List XO := [(6, 1, 0, 0, 0, 0, 0, 0, 0, 0), (44, 3, 12, 8, 0, 278, 0, 0, 0, 0), (2, 2, 94, 16, 0, 917, 0, 0, 0, 0), (48, 3, 44, 40, 0, 893, 2, 5, 0, 0), (22, 3, 28, 0, 0, 0, 0, 0, 0, 0), (0, 1, 0, 0, 0, 0, 0, 0, 2, 0),
  (27, 1, 0, 0, 0, 0, 0, 0, 0, 0)]
def q90_28 : List XO := [(6, 1, 0, 0, 0, 0, 0, 0, 0, 0), (44, 3, 12, 8, 0, 278, 0, 0, 0, 0), (2, 2, 96, 17, 0, 918, 0, 0, 0, 0), (48, 3, 44, 40, 0, 893, 2, 5, 0, 0), (22, 3, 42, 0, 0, 0, 0, 0, 0, 0), (0, 1, 0, 0, 0, 0, 0, 0, 3, 0),
  (27, 1, 0, 0, 0, 0, 0, 0, 0, 0)]
def q90_42 : List XO := [(6, 1, 0, 0, 0, 0, 0, 0, 0, 0), (44, 3, 12, 8, 0, 278, 0, 0, 0, 0), (2, 2, 98, 18, 0, 919, 0, 0, 0, 0), (48, 3, 44, 40, 0, 893, 2, 5, 0, 0), (22, 3, 56, 0, 0, 0, 0, 0, 0, 0), (0, 1, 0, 0, 0, 0, 0, 0, 4, 0),
  (27, 1, 0, 0, 0, 0, 0, 0, 0, 0)]
def q90_56 : List XO := [(6, 1, 0, 0, 0, 0, 0, 0, 0, 0), (44, 3, 12, 8, 0, 278, 0, 0, 0, 0), (2, 2, 100, 19, 0, 920, 0, 0, 0, 0), (48, 3, 44, 40, 0, 893, 2, 5, 0, 0), (22, 3, 70, 0, 0, 0, 0, 0, 0, 0), (0, 1, 0, 0, 0, 0, 0, 0, 5, 0),
  (27, 1, 0, 0, 0, 0, 0, 0, 0, 0)]
def q90_70 : List XO := [(6, 1, 0, 0, 0, 0, 0, 0, 0, 0), (44, 3, 12, 8, 0, 278, 0, 0, 0, 0), (2, 2, 102, 20, 0, 921, 0, 0, 0, 0), (48, 3, 44, 40, 0, 893, 2, 5, 0, 0), (22, 3, 85, 0, 0, 0, 0, 0, 0, 0), (0, 2, 0, 0, 1, 0, 0, 0, 6, 0),
  (27, 1, 0, 0, 0, 0, 0, 0, 0, 0)]
def q90_85 : List XO := [(6, 1, 0, 0, 0, 0, 0, 0, 0, 0), (44, 3, 12, 8, 0, 278, 0, 0, 0, 0), (2, 2, 104, 21, 0, 922, 0, 0, 0, 0), (48, 3, 44, 40, 0, 893, 2, 5, 0, 0), (22, 3, 100, 0, 0, 0, 0, 0, 0, 0), (0, 2, 0, 0, 1, 0, 0, 0, 7, 0),
  (27, 1, 0, 0, 0, 0, 0, 0, 0, 0)]
def q90_100 : List XO := [(6, 1, 0, 0, 0, 0, 0, 0, 0, 0), (44, 3, 12, 8, 0, 278, 0, 0, 0, 0), (2, 2, 106, 22, 0, 923, 0, 0, 0, 0), (48, 3, 44, 40, 0, 893, 2, 5, 0, 0), (22, 3, 115, 0, 0, 0, 0, 0, 0, 0), (0, 2, 0, 0, 1, 0, 0, 0, 8, 0),
  (27, 1, 0, 0, 0, 0, 0, 0, 0, 0)]
def q90_115 : List XO := [(6, 1, 0, 0, 0, 0, 0, 0, 0, 0), (44, 3, 12, 8, 0, 278, 0, 0, 0, 0), (2, 2, 108, 23, 0, 924, 0, 0, 0, 0), (48, 3, 44, 40, 0, 893, 2, 5, 0, 0), (22, 3, 130, 0, 0, 0, 0, 0, 0, 0), (0, 2, 0, 0, 1, 0, 0, 0, 11, 0),
  (27, 1, 0, 0, 0, 0, 0, 0, 0, 0)]
def q90_130 : List XO := [(6, 1, 0, 0, 0, 0, 0, 0, 0, 0), (44, 3, 12, 8, 0, 278, 0, 0, 0, 0), (2, 2, 110, 24, 0, 925, 0, 0, 0, 0), (48, 3, 44, 40, 0, 893, 2, 5, 0, 0), (22, 3, 145, 0, 0, 0, 0, 0, 0, 0), (0, 2, 0, 0, 1, 0, 0, 0, 10, 0),
  (27, 1, 0, 0, 0, 0, 0, 0, 0, 0)]
def q90_145 : List XO := [(6, 1, 0, 0, 0, 0, 0, 0, 0, 0), (44, 3, 12, 8, 0, 278, 0, 0, 0, 0), (2, 2, 112, 25, 0, 926, 0, 0, 0, 0), (48, 3, 44, 40, 0, 893, 2, 5, 0, 0), (22, 3, 162, 0, 0, 0, 0, 0, 0, 0), (0, 2, 0, 0, 1, 0, 0, 0, 9, 0),
  (24, 3, 163, 0, 0, 0, 0, 0, 0, 0)]
def q90_162 : List XO := [(0, 1, 0, 0, 0, 0, 0, 0, (-1), 0), (24, 0, 163, 0, 1, 0, 0, 0, 0, 0)]
def q90_163 : List XO := [(27, 1, 0, 0, 0, 0, 0, 0, 0, 0)]
def xt90 : List (Nat × List XO) := [(0, q90_0), (14, q90_14), (28, q90_28), (42, q90_42), (56, q90_56), (70, q90_70), (85, q90_85), (100, q90_100),
  (115, q90_115), (130, q90_130), (145, q90_145), (162, q90_162), (163, q90_163)]
def q91_0 : List XO := [(4, 1, 2, 0, 0, 0, 0, 0, 0, 0), (0, 2, 0, 0, 1, 0, 0, 0, 11, 0), (23, 3, 12, 0, 0, 0, 0, 0, 0, 0), (4, 1, 2, 0, 0, 0, 0, 0, 0, 0), (0, 2, 0, 0, 1, 0, 0, 0, 10, 0), (23, 3, 16, 0, 1, 0, 0, 0, 0, 0),
  (24, 0, 12, 0, 1, 0, 0, 0, 0, 0)]
def q91_12 : List XO := [(0, 1, 0, 0, 0, 0, 0, 0, 1, 0), (24, 3, 17, 0, 0, 0, 0, 0, 0, 0)]
def q91_16 : List XO := [(0, 1, 0, 0, 0, 0, 0, 0, 0, 0), (24, 0, 17, 0, 1, 0, 0, 0, 0, 0)]
def q91_17 : List XO := [(7, 1, 3, 0, 0, 0, 0, 0, 0, 0), (4, 1, 2, 0, 0, 0, 0, 0, 0, 0), (0, 1, 0, 0, 0, 0, 0, 0, (-1), 0), (23, 3, 33, 0, 1, 0, 0, 0, 0, 0), (6, 1, 0, 0, 0, 0, 0, 0, 0, 0), (44, 3, 12, 8, 0, 278, 0, 0, 0, 0),
  (48, 3, 71, 55, 0, 898, 1, 5, 0, 0), (21, 1, 0, 0, 0, 0, 0, 0, 0, 0), (0, 1, 0, 0, 0, 0, 0, 0, (-1), 0), (27, 1, 0, 0, 0, 0, 0, 0, 0, 0)]
def q91_33 : List XO := [(6, 1, 1, 0, 0, 0, 0, 0, 0, 0), (42, 3, 85, 7, 1, 374, 0, 0, 0, 0), (0, 2, 0, 0, 1, 0, 0, 0, 30, 0), (23, 3, 54, 0, 2, 0, 0, 0, 0, 0), (6, 1, 0, 0, 0, 0, 0, 0, 0, 0), (44, 3, 12, 8, 0, 278, 0, 0, 0, 0),
  (0, 2, 0, 0, 1, 0, 0, 0, 6, 0), (48, 3, 88, 53, 0, 931, 2, 5, 0, 0), (21, 1, 0, 0, 0, 0, 0, 0, 0, 0), (0, 1, 0, 0, 0, 0, 0, 0, (-1), 0), (27, 1, 0, 0, 0, 0, 0, 0, 0, 0)]
def q91_54 : List XO := [(4, 1, 3, 0, 0, 0, 0, 0, 0, 0), (22, 3, 82, 0, 0, 0, 0, 0, 0, 0), (6, 1, 0, 0, 0, 0, 0, 0, 0, 0), (42, 3, 35, 8, 2, 281, 0, 0, 0, 0), (6, 1, 0, 0, 0, 0, 0, 0, 0, 0), (44, 3, 18, 8, 1, 280, 0, 0, 0, 0),
  (32, 1, 0, 0, 0, 0, 0, 0, 0, 0), (23, 3, 82, 0, 2, 0, 0, 0, 0, 0), (6, 1, 0, 0, 0, 0, 0, 0, 0, 0), (44, 3, 12, 8, 0, 278, 0, 0, 0, 0), (0, 2, 0, 0, 1, 0, 0, 0, 7, 0), (48, 3, 88, 53, 0, 931, 2, 5, 0, 0),
  (21, 1, 0, 0, 0, 0, 0, 0, 0, 0), (0, 1, 0, 0, 0, 0, 0, 0, (-1), 0), (27, 1, 0, 0, 0, 0, 0, 0, 0, 0)]
def q91_82 : List XO := [(6, 1, 1, 0, 0, 0, 0, 0, 0, 0), (4, 1, 2, 0, 0, 0, 0, 0, 0, 0), (48, 3, 74, 87, 0, 899, 2, 7, 0, 0), (7, 2, 4, 0, 0, 0, 0, 0, 0, 0), (6, 1, 1, 0, 0, 0, 0, 0, 0, 0), (19, 1, 0, 0, 0, 0, 0, 0, 0, 0),
  (42, 3, 85, 7, 1, 374, 0, 0, 0, 0), (0, 1, 0, 0, 0, 0, 0, 0, 1, 0), (11, 1, 0, 0, 0, 0, 0, 0, 0, 0), (45, 3, 85, 7, 1, 374, 0, 0, 0, 0), (4, 1, 3, 0, 0, 0, 0, 0, 0, 0), (22, 3, 124, 0, 0, 0, 0, 0, 0, 0),
  (6, 1, 0, 0, 0, 0, 0, 0, 0, 0), (44, 3, 18, 8, 1, 280, 0, 0, 0, 0), (6, 1, 0, 0, 0, 0, 0, 0, 0, 0), (42, 3, 35, 8, 2, 281, 0, 0, 0, 0), (4, 2, 4, 0, 0, 0, 0, 0, 0, 0), (34, 1, 0, 0, 0, 0, 0, 0, 0, 0),
  (6, 1, 0, 0, 0, 0, 0, 0, 0, 0), (19, 1, 0, 0, 0, 0, 0, 0, 0, 0), (42, 3, 35, 8, 2, 281, 0, 0, 0, 0), (0, 1, 0, 0, 0, 0, 0, 0, 1, 0), (11, 1, 0, 0, 0, 0, 0, 0, 0, 0), (45, 3, 35, 8, 2, 281, 0, 0, 0, 0),
  (24, 0, 124, 0, 1, 0, 0, 0, 0, 0)]
def q91_124 : List XO := [(6, 1, 0, 0, 0, 0, 0, 0, 0, 0), (44, 3, 12, 8, 0, 278, 0, 0, 0, 0), (48, 3, 82, 36, 0, 911, 1, 5, 0, 0), (4, 2, 4, 0, 0, 0, 0, 0, 0, 0), (27, 1, 0, 0, 0, 0, 0, 0, 0, 0)]
def xt91 : List (Nat × List XO) := [(0, q91_0), (12, q91_12), (16, q91_16), (17, q91_17), (33, q91_33), (54, q91_54), (82, q91_82), (124, q91_124)]
def q92_0 : List XO := [(6, 1, 2, 0, 0, 0, 0, 0, 0, 0), (4, 1, 3, 0, 0, 0, 0, 0, 0, 0), (48, 3, 114, 89, 0, 936, 2, 7, 0, 0), (22, 3, 16, 0, 1, 0, 0, 0, 0, 0), (6, 1, 0, 0, 0, 0, 0, 0, 0, 0), (44, 3, 12, 8, 0, 278, 0, 0, 0, 0),
  (48, 3, 71, 55, 0, 898, 1, 5, 0, 0), (27, 1, 0, 0, 1, 0, 0, 0, 0, 0)]
def q92_16 : List XO := [(6, 1, 0, 0, 0, 0, 0, 0, 0, 0), (44, 3, 12, 8, 0, 278, 0, 0, 0, 0), (2, 2, 144, 26, 0, 937, 0, 0, 0, 0), (48, 3, 44, 40, 0, 893, 2, 5, 0, 0), (22, 3, 83, 0, 0, 0, 0, 0, 0, 0), (6, 1, 2, 0, 0, 0, 0, 0, 0, 0),
  (44, 3, 125, 7, 3, 380, 0, 0, 0, 0), (4, 1, 3, 0, 0, 0, 0, 0, 0, 0), (0, 2, 0, 0, 1, 0, 0, 0, 12, 0), (34, 1, 0, 0, 0, 0, 0, 0, 0, 0), (6, 1, 0, 0, 0, 0, 0, 0, 0, 0), (44, 3, 12, 8, 0, 278, 0, 0, 0, 0),
  (48, 3, 82, 36, 0, 911, 1, 5, 0, 0), (6, 1, 0, 0, 0, 0, 0, 0, 0, 0), (6, 1, 1, 0, 0, 0, 0, 0, 0, 0), (6, 1, 2, 0, 0, 0, 0, 0, 0, 0), (4, 1, 3, 0, 0, 0, 0, 0, 0, 0), (48, 3, 128, 93, 0, 938, 4, 8, 0, 0),
  (22, 3, 81, 0, 0, 0, 0, 0, 0, 0), (6, 1, 0, 0, 0, 0, 0, 0, 0, 0), (6, 1, 2, 0, 0, 0, 0, 0, 0, 0), (44, 3, 131, 7, 5, 386, 0, 0, 0, 0), (4, 1, 3, 0, 0, 0, 0, 0, 0, 0), (0, 1, 0, 0, 0, 0, 0, 0, 0, 0),
  (6, 1, 1, 0, 0, 0, 0, 0, 0, 0), (42, 3, 117, 0, 0, 425, 0, 0, 0, 0), (6, 1, 1, 0, 0, 0, 0, 0, 0, 0), (42, 3, 122, 0, 1, 430, 0, 0, 0, 0), (11, 1, 0, 0, 2, 0, 0, 0, 0, 0), (0, 1, 0, 0, 0, 0, 0, 0, 1, 0),
  (11, 1, 0, 0, 1, 0, 0, 0, 0, 0), (48, 3, 134, 94, 0, 944, 5, 8, 0, 0), (22, 3, 81, 0, 0, 0, 0, 0, 0, 0), (0, 1, 0, 0, 0, 0, 0, 0, 1, 0), (24, 3, 82, 0, 0, 0, 0, 0, 0, 0)]
def q92_81 : List XO := [(0, 1, 0, 0, 0, 0, 0, 0, 0, 0), (24, 0, 82, 0, 1, 0, 0, 0, 0, 0)]
def q92_82 : List XO := [(27, 1, 0, 0, 1, 0, 0, 0, 0, 0)]
def q92_83 : List XO := [(6, 1, 0, 0, 0, 0, 0, 0, 0, 0), (44, 3, 12, 8, 0, 278, 0, 0, 0, 0), (2, 2, 146, 27, 0, 949, 0, 0, 0, 0), (48, 3, 44, 40, 0, 893, 2, 5, 0, 0), (22, 3, 150, 0, 0, 0, 0, 0, 0, 0), (6, 1, 2, 0, 0, 0, 0, 0, 0, 0),
  (44, 3, 125, 7, 3, 380, 0, 0, 0, 0), (4, 1, 3, 0, 0, 0, 0, 0, 0, 0), (0, 2, 0, 0, 1, 0, 0, 0, 13, 0), (34, 1, 0, 0, 0, 0, 0, 0, 0, 0), (6, 1, 0, 0, 0, 0, 0, 0, 0, 0), (44, 3, 12, 8, 0, 278, 0, 0, 0, 0),
  (48, 3, 82, 36, 0, 911, 1, 5, 0, 0), (6, 1, 0, 0, 0, 0, 0, 0, 0, 0), (6, 1, 1, 0, 0, 0, 0, 0, 0, 0), (6, 1, 2, 0, 0, 0, 0, 0, 0, 0), (4, 1, 3, 0, 0, 0, 0, 0, 0, 0), (48, 3, 128, 93, 0, 938, 4, 8, 0, 0),
  (22, 3, 148, 0, 0, 0, 0, 0, 0, 0), (6, 1, 0, 0, 0, 0, 0, 0, 0, 0), (6, 1, 2, 0, 0, 0, 0, 0, 0, 0), (4, 1, 3, 0, 0, 0, 0, 0, 0, 0), (48, 3, 148, 95, 0, 950, 3, 8, 0, 0), (22, 3, 148, 0, 0, 0, 0, 0, 0, 0),
  (6, 1, 0, 0, 0, 0, 0, 0, 0, 0), (6, 1, 2, 0, 0, 0, 0, 0, 0, 0), (44, 3, 131, 7, 5, 386, 0, 0, 0, 0), (4, 1, 3, 0, 0, 0, 0, 0, 0, 0), (0, 1, 0, 0, 0, 0, 0, 0, 0, 0), (0, 2, 0, 0, 1, 0, 0, 0, 9, 0),
  (48, 3, 134, 94, 0, 944, 5, 8, 0, 0), (22, 3, 148, 0, 0, 0, 0, 0, 0, 0), (0, 1, 0, 0, 0, 0, 0, 0, 1, 0), (24, 3, 149, 0, 0, 0, 0, 0, 0, 0)]
def q92_148 : List XO := [(0, 1, 0, 0, 0, 0, 0, 0, 0, 0), (24, 0, 149, 0, 1, 0, 0, 0, 0, 0)]
def q92_149 : List XO := [(27, 1, 0, 0, 1, 0, 0, 0, 0, 0)]
def q92_150 : List XO := [(6, 1, 0, 0, 0, 0, 0, 0, 0, 0), (44, 3, 12, 8, 0, 278, 0, 0, 0, 0), (2, 2, 152, 28, 0, 954, 0, 0, 0, 0), (48, 3, 44, 40, 0, 893, 2, 5, 0, 0), (22, 3, 185, 0, 0, 0, 0, 0, 0, 0), (6, 1, 2, 0, 0, 0, 0, 0, 0, 0),
  (44, 3, 125, 7, 3, 380, 0, 0, 0, 0), (4, 1, 3, 0, 0, 0, 0, 0, 0, 0), (0, 2, 0, 0, 1, 0, 0, 0, 14, 0), (34, 1, 0, 0, 0, 0, 0, 0, 0, 0), (6, 1, 0, 0, 0, 0, 0, 0, 0, 0), (44, 3, 12, 8, 0, 278, 0, 0, 0, 0),
  (48, 3, 82, 36, 0, 911, 1, 5, 0, 0), (6, 1, 0, 0, 0, 0, 0, 0, 0, 0), (6, 1, 1, 0, 0, 0, 0, 0, 0, 0), (6, 1, 2, 0, 0, 0, 0, 0, 0, 0), (4, 1, 3, 0, 0, 0, 0, 0, 0, 0), (48, 3, 128, 93, 0, 938, 4, 8, 0, 0),
  (27, 1, 0, 0, 1, 0, 0, 0, 0, 0)]
def q92_185 : List XO := [(6, 1, 0, 0, 0, 0, 0, 0, 0, 0), (44, 3, 12, 8, 0, 278, 0, 0, 0, 0), (48, 3, 71, 55, 0, 898, 1, 5, 0, 0), (27, 1, 0, 0, 1, 0, 0, 0, 0, 0)]
def xt92 : List (Nat × List XO) := [(0, q92_0), (16, q92_16), (81, q92_81), (82, q92_82), (83, q92_83), (148, q92_148), (149, q92_149), (150, q92_150),
  (185, q92_185)]
def q93_0 : List XO := [(6, 1, 0, 0, 0, 0, 0, 0, 0, 0), (44, 3, 12, 8, 0, 278, 0, 0, 0, 0), (48, 3, 154, 63, 0, 942, 1, 5, 0, 0), (22, 3, 12, 0, 1, 0, 0, 0, 0, 0), (0, 1, 0, 0, 0, 0, 0, 0, 0, 0), (27, 1, 0, 0, 1, 0, 0, 0, 0, 0)]
def q93_12 : List XO := [(6, 1, 1, 0, 0, 0, 0, 0, 0, 0), (6, 1, 0, 0, 0, 0, 0, 0, 0, 0), (44, 3, 12, 8, 0, 278, 0, 0, 0, 0), (43, 3, 157, 5, 5, 227, 0, 0, 0, 0), (48, 3, 161, 65, 0, 943, 2, 0, 0, 0), (7, 2, 4, 0, 0, 0, 0, 0, 0, 0),
  (4, 2, 4, 0, 0, 0, 0, 0, 0, 0), (0, 1, 0, 0, 0, 0, 0, 0, (-1), 0), (23, 3, 40, 0, 1, 0, 0, 0, 0, 0), (6, 1, 0, 0, 0, 0, 0, 0, 0, 0), (44, 3, 12, 8, 0, 278, 0, 0, 0, 0), (0, 1, 0, 0, 0, 0, 0, 0, 3, 0),
  (48, 3, 88, 53, 0, 931, 2, 5, 0, 0), (27, 1, 0, 0, 1, 0, 0, 0, 0, 0)]
def q93_40 : List XO := [(6, 1, 2, 0, 0, 0, 0, 0, 0, 0), (44, 3, 165, 7, 4, 383, 0, 0, 0, 0), (4, 1, 3, 0, 0, 0, 0, 0, 0, 0), (4, 2, 4, 0, 0, 0, 0, 0, 0, 0), (34, 1, 0, 0, 0, 0, 0, 0, 0, 0), (6, 1, 0, 0, 0, 0, 0, 0, 0, 0),
  (44, 3, 12, 8, 0, 278, 0, 0, 0, 0), (48, 3, 82, 36, 0, 911, 1, 5, 0, 0), (0, 1, 0, 0, 0, 0, 0, 0, 1, 0), (27, 1, 0, 0, 1, 0, 0, 0, 0, 0)]
def xt93 : List (Nat × List XO) := [(0, q93_0), (12, q93_12), (40, q93_40)]
def q94_0 : List XO := [(6, 1, 0, 0, 0, 0, 0, 0, 0, 0), (44, 3, 12, 8, 0, 278, 0, 0, 0, 0), (4, 1, 3, 0, 0, 0, 0, 0, 0, 0), (4, 2, 4, 0, 0, 0, 0, 0, 0, 0), (48, 3, 168, 54, 0, 948, 3, 5, 0, 0), (22, 3, 15, 0, 1, 0, 0, 0, 0, 0),
  (0, 1, 0, 0, 0, 0, 0, 0, 0, 0), (27, 1, 0, 0, 1, 0, 0, 0, 0, 0)]
def q94_15 : List XO := [(6, 1, 1, 0, 0, 0, 0, 0, 0, 0), (4, 1, 2, 0, 0, 0, 0, 0, 0, 0), (6, 1, 0, 0, 0, 0, 0, 0, 0, 0), (44, 3, 12, 8, 0, 278, 0, 0, 0, 0), (42, 3, 172, 5, 6, 230, 0, 0, 0, 0), (34, 1, 0, 0, 0, 0, 0, 0, 0, 0),
  (6, 1, 0, 0, 0, 0, 0, 0, 0, 0), (44, 3, 12, 8, 0, 278, 0, 0, 0, 0), (48, 3, 82, 36, 0, 911, 1, 5, 0, 0), (0, 1, 0, 0, 0, 0, 0, 0, 1, 0), (27, 1, 0, 0, 1, 0, 0, 0, 0, 0)]
def xt94 : List (Nat × List XO) := [(0, q94_0), (15, q94_15)]
def q95_0 : List XO := [(6, 1, 0, 0, 0, 0, 0, 0, 0, 0), (44, 3, 12, 8, 0, 278, 0, 0, 0, 0), (42, 3, 39, 5, 4, 223, 0, 0, 0, 0), (0, 1, 0, 0, 0, 0, 0, 0, 3, 0), (23, 3, 23, 0, 1, 0, 0, 0, 0, 0), (6, 1, 0, 0, 0, 0, 0, 0, 0, 0),
  (44, 3, 12, 8, 0, 278, 0, 0, 0, 0), (42, 3, 175, 5, 7, 232, 0, 0, 0, 0), (0, 2, 0, 0, 1, 0, 0, 0, 59, 0), (23, 3, 31, 0, 1, 0, 0, 0, 0, 0), (24, 0, 23, 0, 1, 0, 0, 0, 0, 0)]
def q95_23 : List XO := [(6, 1, 0, 0, 0, 0, 0, 0, 0, 0), (44, 3, 12, 8, 0, 278, 0, 0, 0, 0), (48, 3, 71, 55, 0, 898, 1, 5, 0, 0), (27, 1, 0, 0, 1, 0, 0, 0, 0, 0)]
def q95_31 : List XO := [(6, 1, 1, 0, 0, 0, 0, 0, 0, 0), (44, 3, 138, 7, 6, 389, 0, 0, 0, 0), (4, 1, 2, 0, 0, 0, 0, 0, 0, 0), (6, 1, 0, 0, 0, 0, 0, 0, 0, 0), (44, 3, 12, 8, 0, 278, 0, 0, 0, 0), (42, 3, 175, 5, 7, 232, 0, 0, 0, 0),
  (34, 1, 0, 0, 0, 0, 0, 0, 0, 0), (6, 1, 0, 0, 0, 0, 0, 0, 0, 0), (44, 3, 12, 8, 0, 278, 0, 0, 0, 0), (48, 3, 82, 36, 0, 911, 1, 5, 0, 0), (0, 1, 0, 0, 0, 0, 0, 0, 1, 0), (27, 1, 0, 0, 1, 0, 0, 0, 0, 0)]
def xt95 : List (Nat × List XO) := [(0, q95_0), (23, q95_23), (31, q95_31)]
def q96_0 : List XO := [(6, 1, 2, 0, 0, 0, 0, 0, 0, 0), (4, 1, 3, 0, 0, 0, 0, 0, 0, 0), (48, 3, 114, 89, 0, 936, 2, 7, 0, 0), (22, 3, 16, 0, 1, 0, 0, 0, 0, 0), (6, 1, 0, 0, 0, 0, 0, 0, 0, 0), (44, 3, 12, 8, 0, 278, 0, 0, 0, 0),
  (48, 3, 71, 55, 0, 898, 1, 5, 0, 0), (27, 1, 0, 0, 1, 0, 0, 0, 0, 0)]
def q96_16 : List XO := [(6, 1, 1, 0, 0, 0, 0, 0, 0, 0), (42, 3, 117, 0, 0, 425, 0, 0, 0, 0), (6, 1, 1, 0, 0, 0, 0, 0, 0, 0), (42, 3, 122, 0, 1, 430, 0, 0, 0, 0), (11, 1, 0, 0, 2, 0, 0, 0, 0, 0), (0, 1, 0, 0, 0, 0, 0, 0, 1, 0),
  (11, 1, 0, 0, 1, 0, 0, 0, 0, 0), (7, 2, 4, 0, 0, 0, 0, 0, 0, 0), (6, 1, 2, 0, 0, 0, 0, 0, 0, 0), (44, 3, 125, 7, 3, 380, 0, 0, 0, 0), (4, 1, 3, 0, 0, 0, 0, 0, 0, 0), (33, 1, 0, 0, 0, 0, 0, 0, 0, 0),
  (26, 53, 0, 1, 0, 0, 0, 0, 0, 0)]
def q96_88 : List XO := [(6, 1, 0, 0, 0, 0, 0, 0, 0, 0), (6, 1, 1, 0, 0, 0, 0, 0, 0, 0), (6, 1, 2, 0, 0, 0, 0, 0, 0, 0), (4, 1, 3, 0, 0, 0, 0, 0, 0, 0), (48, 3, 128, 93, 0, 938, 4, 8, 0, 0), (22, 3, 117, 0, 0, 0, 0, 0, 0, 0),
  (6, 1, 0, 0, 0, 0, 0, 0, 0, 0), (6, 1, 2, 0, 0, 0, 0, 0, 0, 0), (44, 3, 131, 7, 5, 386, 0, 0, 0, 0), (4, 1, 3, 0, 0, 0, 0, 0, 0, 0), (0, 1, 0, 0, 0, 0, 0, 0, 1, 0), (0, 2, 0, 0, 1, 0, 0, 0, 9, 0),
  (48, 3, 134, 94, 0, 944, 5, 8, 0, 0), (22, 3, 117, 0, 0, 0, 0, 0, 0, 0), (0, 1, 0, 0, 0, 0, 0, 0, 1, 0), (24, 3, 118, 0, 0, 0, 0, 0, 0, 0)]
def q96_117 : List XO := [(0, 1, 0, 0, 0, 0, 0, 0, 0, 0), (24, 0, 118, 0, 1, 0, 0, 0, 0, 0)]
def q96_118 : List XO := [(27, 1, 0, 0, 1, 0, 0, 0, 0, 0)]
def q96_119 : List XO := [(6, 1, 0, 0, 0, 0, 0, 0, 0, 0), (6, 1, 2, 0, 0, 0, 0, 0, 0, 0), (44, 3, 131, 7, 5, 386, 0, 0, 0, 0), (4, 1, 3, 0, 0, 0, 0, 0, 0, 0), (0, 1, 0, 0, 0, 0, 0, 0, 1, 0), (0, 2, 0, 0, 1, 0, 0, 0, 9, 0),
  (48, 3, 134, 94, 0, 944, 5, 8, 0, 0), (27, 1, 0, 0, 1, 0, 0, 0, 0, 0)]
def q96_132 : List XO := [(6, 1, 0, 0, 0, 0, 0, 0, 0, 0), (6, 1, 1, 0, 0, 0, 0, 0, 0, 0), (6, 1, 2, 0, 0, 0, 0, 0, 0, 0), (4, 1, 3, 0, 0, 0, 0, 0, 0, 0), (48, 3, 128, 93, 0, 938, 4, 8, 0, 0), (27, 1, 0, 0, 1, 0, 0, 0, 0, 0)]
def q96_140 : List XO := [(6, 1, 0, 0, 0, 0, 0, 0, 0, 0), (6, 1, 1, 0, 0, 0, 0, 0, 0, 0), (6, 1, 2, 0, 0, 0, 0, 0, 0, 0), (4, 1, 3, 0, 0, 0, 0, 0, 0, 0), (48, 3, 128, 93, 0, 938, 4, 8, 0, 0), (22, 3, 169, 0, 0, 0, 0, 0, 0, 0),
  (6, 1, 0, 0, 0, 0, 0, 0, 0, 0), (6, 1, 2, 0, 0, 0, 0, 0, 0, 0), (44, 3, 131, 7, 5, 386, 0, 0, 0, 0), (4, 1, 3, 0, 0, 0, 0, 0, 0, 0), (0, 1, 0, 0, 0, 0, 0, 0, 0, 0), (4, 2, 4, 0, 0, 0, 0, 0, 0, 0),
  (48, 3, 134, 94, 0, 944, 5, 8, 0, 0), (22, 3, 169, 0, 0, 0, 0, 0, 0, 0), (0, 1, 0, 0, 0, 0, 0, 0, 1, 0), (24, 3, 170, 0, 0, 0, 0, 0, 0, 0)]
def q96_169 : List XO := [(0, 1, 0, 0, 0, 0, 0, 0, 0, 0), (24, 0, 170, 0, 1, 0, 0, 0, 0, 0)]
def q96_170 : List XO := [(27, 1, 0, 0, 1, 0, 0, 0, 0, 0)]
def q96_171 : List XO := [(6, 1, 0, 0, 0, 0, 0, 0, 0, 0), (6, 1, 1, 0, 0, 0, 0, 0, 0, 0), (6, 1, 2, 0, 0, 0, 0, 0, 0, 0), (4, 1, 3, 0, 0, 0, 0, 0, 0, 0), (48, 3, 128, 93, 0, 938, 4, 8, 0, 0), (22, 3, 230, 0, 0, 0, 0, 0, 0, 0),
  (6, 1, 0, 0, 0, 0, 0, 0, 0, 0), (6, 1, 2, 0, 0, 0, 0, 0, 0, 0), (44, 3, 131, 7, 5, 386, 0, 0, 0, 0), (4, 1, 3, 0, 0, 0, 0, 0, 0, 0), (0, 1, 0, 0, 0, 0, 0, 0, 0, 0), (4, 2, 4, 0, 0, 0, 0, 0, 0, 0),
  (48, 3, 134, 94, 0, 944, 5, 8, 0, 0), (22, 3, 230, 0, 0, 0, 0, 0, 0, 0), (6, 1, 0, 0, 0, 0, 0, 0, 0, 0), (6, 1, 2, 0, 0, 0, 0, 0, 0, 0), (44, 3, 138, 7, 6, 389, 0, 0, 0, 0), (4, 1, 3, 0, 0, 0, 0, 0, 0, 0),
  (0, 1, 0, 0, 0, 0, 0, 0, 0, 0), (4, 2, 4, 0, 0, 0, 0, 0, 0, 0), (48, 3, 134, 94, 0, 944, 5, 8, 0, 0), (22, 3, 230, 0, 0, 0, 0, 0, 0, 0), (6, 1, 0, 0, 0, 0, 0, 0, 0, 0), (6, 1, 2, 0, 0, 0, 0, 0, 0, 0),
  (44, 3, 141, 7, 7, 391, 0, 0, 0, 0), (4, 1, 3, 0, 0, 0, 0, 0, 0, 0), (0, 1, 0, 0, 0, 0, 0, 0, 1, 0), (0, 2, 0, 0, 1, 0, 0, 0, 10, 0), (48, 3, 134, 94, 0, 944, 5, 8, 0, 0), (22, 3, 230, 0, 0, 0, 0, 0, 0, 0),
  (0, 1, 0, 0, 0, 0, 0, 0, 1, 0), (24, 3, 231, 0, 0, 0, 0, 0, 0, 0)]
def q96_230 : List XO := [(0, 1, 0, 0, 0, 0, 0, 0, 0, 0), (24, 0, 231, 0, 1, 0, 0, 0, 0, 0)]
def q96_231 : List XO := [(27, 1, 0, 0, 1, 0, 0, 0, 0, 0)]
def q96_232 : List XO := [(6, 1, 0, 0, 0, 0, 0, 0, 0, 0), (6, 1, 2, 0, 0, 0, 0, 0, 0, 0), (44, 3, 131, 7, 5, 386, 0, 0, 0, 0), (4, 1, 3, 0, 0, 0, 0, 0, 0, 0), (0, 1, 0, 0, 0, 0, 0, 0, 1, 0), (0, 2, 0, 0, 1, 0, 0, 0, 99, 0),
  (48, 3, 134, 94, 0, 944, 5, 8, 0, 0), (27, 1, 0, 0, 1, 0, 0, 0, 0, 0)]
def q96_245 : List XO := [(0, 1, 0, 0, 0, 0, 0, 0, 1, 0), (27, 1, 0, 0, 1, 0, 0, 0, 0, 0)]
def xt96 : List (Nat × List XO) := [(0, q96_0), (16, q96_16), (88, q96_88), (117, q96_117), (118, q96_118), (119, q96_119), (132, q96_132), (140, q96_140),
  (169, q96_169), (170, q96_170), (171, q96_171), (230, q96_230), (231, q96_231), (232, q96_232), (245, q96_245)]
def q97_0 : List XO := [(4, 1, 1, 0, 0, 0, 0, 0, 0, 0), (22, 3, 9, 0, 1, 0, 0, 0, 0, 0), (6, 1, 0, 0, 0, 0, 0, 0, 0, 0), (42, 3, 73, 9, 14, 530, 0, 0, 0, 0), (27, 1, 0, 0, 0, 0, 0, 0, 0, 0)]
def q97_9 : List XO := [(4, 1, 1, 0, 0, 0, 0, 0, 0, 0), (0, 1, 0, 0, 0, 0, 0, 0, 1, 0), (23, 3, 21, 0, 1, 0, 0, 0, 0, 0), (6, 1, 0, 0, 0, 0, 0, 0, 0, 0), (42, 3, 77, 9, 15, 531, 0, 0, 0, 0), (24, 3, 22, 0, 0, 0, 0, 0, 0, 0)]
def q97_21 : List XO := [(0, 1, 0, 0, 0, 0, 0, 0, (-1), 0), (24, 0, 22, 0, 1, 0, 0, 0, 0, 0)]
def q97_22 : List XO := [(27, 1, 0, 0, 0, 0, 0, 0, 0, 0)]
def xt97 : List (Nat × List XO) := [(0, q97_0), (9, q97_9), (21, q97_21), (22, q97_22)]
def q98_0 : List XO := [(4, 1, 1, 0, 0, 0, 0, 0, 0, 0), (26, 51, 0, 2, 0, 0, 0, 0, 0, 0)]
def q98_52 : List XO := [(6, 1, 0, 0, 0, 0, 0, 0, 0, 0), (6, 1, 0, 0, 0, 0, 0, 0, 0, 0), (44, 3, 62, 9, 8, 524, 0, 0, 0, 0), (42, 3, 173, 0, 0, 426, 0, 0, 0, 0), (48, 3, 146, 83, 0, 878, 2, 9, 0, 0), (27, 1, 0, 0, 0, 0, 0, 0, 0, 0)]
def q98_64 : List XO := [(6, 1, 0, 0, 0, 0, 0, 0, 0, 0), (6, 1, 0, 0, 0, 0, 0, 0, 0, 0), (44, 3, 62, 9, 8, 524, 0, 0, 0, 0), (42, 3, 176, 0, 1, 431, 0, 0, 0, 0), (48, 3, 146, 83, 0, 878, 2, 9, 0, 0), (27, 1, 0, 0, 0, 0, 0, 0, 0, 0)]
def q98_76 : List XO := [(6, 1, 0, 0, 0, 0, 0, 0, 0, 0), (6, 1, 0, 0, 0, 0, 0, 0, 0, 0), (44, 3, 62, 9, 8, 524, 0, 0, 0, 0), (42, 3, 179, 0, 3, 438, 0, 0, 0, 0), (48, 3, 146, 83, 0, 878, 2, 9, 0, 0), (27, 1, 0, 0, 0, 0, 0, 0, 0, 0)]
def q98_88 : List XO := [(6, 1, 0, 0, 0, 0, 0, 0, 0, 0), (6, 1, 0, 0, 0, 0, 0, 0, 0, 0), (44, 3, 62, 9, 8, 524, 0, 0, 0, 0), (42, 3, 143, 0, 7, 447, 0, 0, 0, 0), (48, 3, 146, 83, 0, 878, 2, 9, 0, 0), (27, 1, 0, 0, 0, 0, 0, 0, 0, 0)]
def q98_100 : List XO := [(6, 1, 0, 0, 0, 0, 0, 0, 0, 0), (6, 1, 0, 0, 0, 0, 0, 0, 0, 0), (44, 3, 62, 9, 8, 524, 0, 0, 0, 0), (42, 3, 182, 0, 2, 435, 0, 0, 0, 0), (48, 3, 146, 83, 0, 878, 2, 9, 0, 0), (27, 1, 0, 0, 0, 0, 0, 0, 0, 0)]
def q98_112 : List XO := [(6, 1, 0, 0, 0, 0, 0, 0, 0, 0), (6, 1, 0, 0, 0, 0, 0, 0, 0, 0), (44, 3, 62, 9, 8, 524, 0, 0, 0, 0), (42, 3, 185, 0, 16, 469, 0, 0, 0, 0), (48, 3, 146, 83, 0, 878, 2, 9, 0, 0), (27, 1, 0, 0, 0, 0, 0, 0, 0, 0)]
def q98_124 : List XO := [(6, 1, 0, 0, 0, 0, 0, 0, 0, 0), (6, 1, 0, 0, 0, 0, 0, 0, 0, 0), (44, 3, 62, 9, 8, 524, 0, 0, 0, 0), (42, 3, 188, 0, 17, 472, 0, 0, 0, 0), (48, 3, 146, 83, 0, 878, 2, 9, 0, 0), (27, 1, 0, 0, 0, 0, 0, 0, 0, 0)]
def q98_136 : List XO := [(6, 1, 0, 0, 0, 0, 0, 0, 0, 0), (6, 1, 0, 0, 0, 0, 0, 0, 0, 0), (44, 3, 62, 9, 8, 524, 0, 0, 0, 0), (42, 3, 191, 0, 15, 466, 0, 0, 0, 0), (48, 3, 146, 83, 0, 878, 2, 9, 0, 0), (27, 1, 0, 0, 0, 0, 0, 0, 0, 0)]
def q98_148 : List XO := [(6, 1, 0, 0, 0, 0, 0, 0, 0, 0), (6, 1, 0, 0, 0, 0, 0, 0, 0, 0), (44, 3, 62, 9, 8, 524, 0, 0, 0, 0), (48, 3, 194, 99, 0, 969, 1, 0, 0, 0), (48, 3, 146, 83, 0, 878, 2, 9, 0, 0), (27, 1, 0, 0, 0, 0, 0, 0, 0, 0)]
def q98_160 : List XO := [(6, 1, 0, 0, 0, 0, 0, 0, 0, 0), (0, 1, 0, 0, 0, 0, 0, 0, 5, 0), (48, 3, 123, 31, 0, 643, 2, 9, 0, 0), (27, 1, 0, 0, 0, 0, 0, 0, 0, 0)]
def xt98 : List (Nat × List XO) := [(0, q98_0), (52, q98_52), (64, q98_64), (76, q98_76), (88, q98_88), (100, q98_100), (112, q98_112), (124, q98_124),
  (136, q98_136), (148, q98_148), (160, q98_160)]
def q99_0 : List XO := [(6, 1, 0, 0, 0, 0, 0, 0, 0, 0), (44, 3, 18, 0, 6, 443, 0, 0, 0, 0), (6, 1, 0, 0, 0, 0, 0, 0, 0, 0), (44, 3, 18, 0, 6, 443, 0, 0, 0, 0), (32, 1, 0, 0, 0, 0, 0, 0, 0, 0), (0, 1, 0, 0, 0, 0, 0, 0, 1, 0),
  (11, 1, 0, 0, 1, 0, 0, 0, 0, 0), (33, 1, 0, 0, 0, 0, 0, 0, 0, 0), (27, 1, 0, 0, 0, 0, 0, 0, 0, 0)]
def xt99 : List (Nat × List XO) := [(0, q99_0)]
def q100_0 : List XO := [(4, 1, 1, 0, 0, 0, 0, 0, 0, 0), (0, 1, 0, 0, 0, 0, 0, 0, 0, 0), (6, 1, 0, 0, 0, 0, 0, 0, 0, 0), (44, 3, 62, 9, 8, 524, 0, 0, 0, 0), (42, 3, 179, 0, 3, 438, 0, 0, 0, 0), (0, 1, 0, 0, 0, 0, 0, 0, 1, 0),
  (11, 1, 0, 0, 1, 0, 0, 0, 0, 0), (48, 3, 198, 101, 1, 977, 3, 9, 0, 0), (22, 3, 23, 0, 1, 0, 0, 0, 0, 0), (6, 1, 0, 0, 0, 0, 0, 0, 0, 0), (0, 1, 0, 0, 0, 0, 0, 0, 2, 0), (48, 3, 123, 31, 0, 643, 2, 9, 0, 0),
  (27, 1, 0, 0, 0, 0, 0, 0, 0, 0)]
def q100_23 : List XO := [(4, 1, 2, 0, 0, 0, 0, 0, 0, 0), (22, 3, 41, 0, 1, 0, 0, 0, 0, 0), (6, 1, 0, 0, 0, 0, 0, 0, 0, 0), (6, 1, 0, 0, 0, 0, 0, 0, 0, 0), (44, 3, 62, 9, 8, 524, 0, 0, 0, 0), (44, 3, 202, 0, 4, 440, 0, 0, 0, 0),
  (4, 1, 1, 0, 0, 0, 0, 0, 0, 0), (33, 1, 0, 0, 0, 0, 0, 0, 0, 0), (48, 3, 146, 83, 0, 878, 2, 9, 0, 0), (27, 1, 0, 0, 0, 0, 0, 0, 0, 0)]
def q100_41 : List XO := [(4, 1, 2, 0, 0, 0, 0, 0, 0, 0), (0, 1, 0, 0, 0, 0, 0, 0, 1, 0), (23, 3, 62, 0, 1, 0, 0, 0, 0, 0), (6, 1, 0, 0, 0, 0, 0, 0, 0, 0), (6, 1, 0, 0, 0, 0, 0, 0, 0, 0), (44, 3, 62, 9, 8, 524, 0, 0, 0, 0),
  (44, 3, 205, 0, 5, 442, 0, 0, 0, 0), (4, 1, 1, 0, 0, 0, 0, 0, 0, 0), (33, 1, 0, 0, 0, 0, 0, 0, 0, 0), (48, 3, 146, 83, 0, 878, 2, 9, 0, 0), (24, 3, 67, 0, 0, 0, 0, 0, 0, 0)]
def q100_62 : List XO := [(6, 1, 0, 0, 0, 0, 0, 0, 0, 0), (0, 1, 0, 0, 0, 0, 0, 0, 5, 0), (48, 3, 123, 31, 0, 643, 2, 9, 0, 0), (24, 0, 67, 0, 1, 0, 0, 0, 0, 0)]
def q100_67 : List XO := [(27, 1, 0, 0, 0, 0, 0, 0, 0, 0)]
def xt100 : List (Nat × List XO) := [(0, q100_0), (23, q100_23), (41, q100_41), (62, q100_62), (67, q100_67)]
def q101_0 : List XO := [(4, 1, 0, 0, 0, 0, 0, 0, 0, 0), (4, 1, 1, 0, 0, 0, 0, 0, 0, 0), (23, 3, 14, 0, 2, 0, 0, 0, 0, 0), (4, 1, 0, 0, 0, 0, 0, 0, 0, 0), (4, 1, 2, 0, 0, 0, 0, 0, 0, 0), (23, 3, 14, 0, 4, 0, 0, 0, 0, 0),
  (0, 1, 0, 0, 0, 0, 0, 0, 1, 0), (24, 3, 15, 0, 0, 0, 0, 0, 0, 0)]
def q101_14 : List XO := [(0, 1, 0, 0, 0, 0, 0, 0, 0, 0), (24, 0, 15, 0, 1, 0, 0, 0, 0, 0)]
def q101_15 : List XO := [(27, 1, 0, 0, 1, 0, 0, 0, 0, 0)]
def xt101 : List (Nat × List XO) := [(0, q101_0), (14, q101_14), (15, q101_15)]
def q102_0 : List XO := [(6, 1, 0, 0, 0, 0, 0, 0, 0, 0), (44, 3, 62, 9, 8, 524, 0, 0, 0, 0), (4, 1, 1, 0, 0, 0, 0, 0, 0, 0), (48, 3, 208, 76, 0, 984, 2, 0, 0, 0), (22, 3, 17, 0, 1, 0, 0, 0, 0, 0), (6, 1, 0, 0, 0, 0, 0, 0, 0, 0),
  (0, 1, 0, 0, 0, 0, 0, 0, 2, 0), (48, 3, 123, 31, 0, 643, 2, 9, 0, 0), (27, 1, 0, 0, 0, 0, 0, 0, 0, 0)]
def q102_17 : List XO := [(6, 1, 0, 0, 0, 0, 0, 0, 0, 0), (44, 3, 62, 9, 8, 524, 0, 0, 0, 0), (4, 1, 1, 0, 0, 0, 0, 0, 0, 0), (48, 3, 211, 60, 0, 985, 2, 0, 0, 0), (7, 1, 2, 0, 0, 0, 0, 0, 0, 0), (4, 1, 2, 0, 0, 0, 0, 0, 0, 0),
  (0, 1, 0, 0, 0, 0, 0, 0, (-1), 0), (23, 3, 40, 0, 1, 0, 0, 0, 0, 0), (6, 1, 0, 0, 0, 0, 0, 0, 0, 0), (0, 2, 0, 0, 1, 0, 0, 0, 8, 0), (48, 3, 123, 31, 0, 643, 2, 9, 0, 0), (24, 3, 45, 0, 0, 0, 0, 0, 0, 0)]
def q102_40 : List XO := [(6, 1, 0, 0, 0, 0, 0, 0, 0, 0), (4, 1, 2, 0, 0, 0, 0, 0, 0, 0), (48, 3, 146, 83, 0, 878, 2, 9, 0, 0), (24, 0, 45, 0, 1, 0, 0, 0, 0, 0)]
def q102_45 : List XO := [(27, 1, 0, 0, 0, 0, 0, 0, 0, 0)]
def xt102 : List (Nat × List XO) := [(0, q102_0), (17, q102_17), (40, q102_40), (45, q102_45)]
def q103_0 : List XO := [(6, 1, 0, 0, 0, 0, 0, 0, 0, 0), (44, 3, 62, 9, 8, 524, 0, 0, 0, 0), (4, 1, 1, 0, 0, 0, 0, 0, 0, 0), (48, 3, 214, 72, 0, 990, 2, 0, 0, 0), (22, 3, 17, 0, 1, 0, 0, 0, 0, 0), (6, 1, 0, 0, 0, 0, 0, 0, 0, 0),
  (0, 1, 0, 0, 0, 0, 0, 0, 2, 0), (48, 3, 123, 31, 0, 643, 2, 9, 0, 0), (27, 1, 0, 0, 0, 0, 0, 0, 0, 0)]
def q103_17 : List XO := [(4, 1, 2, 0, 0, 0, 0, 0, 0, 0), (26, 42, 0, 3, 0, 0, 0, 0, 0, 0)]
def q103_60 : List XO := [(6, 1, 0, 0, 0, 0, 0, 0, 0, 0), (6, 1, 0, 0, 0, 0, 0, 0, 0, 0), (44, 3, 62, 9, 8, 524, 0, 0, 0, 0), (44, 3, 217, 0, 9, 450, 0, 0, 0, 0), (4, 1, 1, 0, 0, 0, 0, 0, 0, 0), (33, 1, 0, 0, 0, 0, 0, 0, 0, 0),
  (48, 3, 146, 83, 0, 878, 2, 9, 0, 0), (27, 1, 0, 0, 0, 0, 0, 0, 0, 0)]
def q103_74 : List XO := [(6, 1, 0, 0, 0, 0, 0, 0, 0, 0), (6, 1, 0, 0, 0, 0, 0, 0, 0, 0), (44, 3, 62, 9, 8, 524, 0, 0, 0, 0), (44, 3, 220, 0, 10, 452, 0, 0, 0, 0), (4, 1, 1, 0, 0, 0, 0, 0, 0, 0), (33, 1, 0, 0, 0, 0, 0, 0, 0, 0),
  (48, 3, 146, 83, 0, 878, 2, 9, 0, 0), (27, 1, 0, 0, 0, 0, 0, 0, 0, 0)]
def q103_88 : List XO := [(6, 1, 0, 0, 0, 0, 0, 0, 0, 0), (6, 1, 0, 0, 0, 0, 0, 0, 0, 0), (44, 3, 62, 9, 8, 524, 0, 0, 0, 0), (44, 3, 223, 0, 11, 454, 0, 0, 0, 0), (4, 1, 1, 0, 0, 0, 0, 0, 0, 0), (33, 1, 0, 0, 0, 0, 0, 0, 0, 0),
  (48, 3, 146, 83, 0, 878, 2, 9, 0, 0), (27, 1, 0, 0, 0, 0, 0, 0, 0, 0)]
def q103_102 : List XO := [(6, 1, 0, 0, 0, 0, 0, 0, 0, 0), (6, 1, 0, 0, 0, 0, 0, 0, 0, 0), (44, 3, 62, 9, 8, 524, 0, 0, 0, 0), (44, 3, 226, 0, 13, 461, 0, 0, 0, 0), (4, 1, 1, 0, 0, 0, 0, 0, 0, 0), (33, 1, 0, 0, 0, 0, 0, 0, 0, 0),
  (48, 3, 146, 83, 0, 878, 2, 9, 0, 0), (27, 1, 0, 0, 0, 0, 0, 0, 0, 0)]
def q103_116 : List XO := [(6, 1, 0, 0, 0, 0, 0, 0, 0, 0), (6, 1, 0, 0, 0, 0, 0, 0, 0, 0), (44, 3, 62, 9, 8, 524, 0, 0, 0, 0), (4, 1, 1, 0, 0, 0, 0, 0, 0, 0), (48, 3, 229, 74, 0, 991, 2, 0, 0, 0), (22, 3, 132, 0, 0, 0, 0, 0, 0, 0),
  (0, 1, 0, 0, 0, 0, 0, 0, 0, 0), (24, 3, 133, 0, 0, 0, 0, 0, 0, 0)]
def q103_132 : List XO := [(0, 1, 0, 0, 0, 0, 0, 0, 1, 0), (24, 0, 133, 0, 1, 0, 0, 0, 0, 0)]
def q103_133 : List XO := [(48, 3, 146, 83, 0, 878, 2, 9, 0, 0), (27, 1, 0, 0, 0, 0, 0, 0, 0, 0)]
def q103_137 : List XO := [(6, 1, 0, 0, 0, 0, 0, 0, 0, 0), (6, 1, 0, 0, 0, 0, 0, 0, 0, 0), (44, 3, 62, 9, 8, 524, 0, 0, 0, 0), (44, 3, 232, 0, 14, 464, 0, 0, 0, 0), (4, 1, 1, 0, 0, 0, 0, 0, 0, 0), (33, 1, 0, 0, 0, 0, 0, 0, 0, 0),
  (48, 3, 146, 83, 0, 878, 2, 9, 0, 0), (27, 1, 0, 0, 0, 0, 0, 0, 0, 0)]
def q103_151 : List XO := [(6, 1, 0, 0, 0, 0, 0, 0, 0, 0), (6, 1, 0, 0, 0, 0, 0, 0, 0, 0), (44, 3, 62, 9, 8, 524, 0, 0, 0, 0), (44, 3, 235, 0, 12, 457, 0, 0, 0, 0), (4, 1, 1, 0, 0, 0, 0, 0, 0, 0), (33, 1, 0, 0, 0, 0, 0, 0, 0, 0),
  (48, 3, 146, 83, 0, 878, 2, 9, 0, 0), (27, 1, 0, 0, 0, 0, 0, 0, 0, 0)]
def q103_165 : List XO := [(6, 1, 0, 0, 0, 0, 0, 0, 0, 0), (0, 1, 0, 0, 0, 0, 0, 0, 5, 0), (48, 3, 123, 31, 0, 643, 2, 9, 0, 0), (27, 1, 0, 0, 0, 0, 0, 0, 0, 0)]
def xt103 : List (Nat × List XO) := [(0, q103_0), (17, q103_17), (60, q103_60), (74, q103_74), (88, q103_88), (102, q103_102), (116, q103_116), (132, q103_132),
  (133, q103_133), (137, q103_137), (151, q103_151), (165, q103_165)]
def q104_0 : List XO := [(6, 1, 0, 0, 0, 0, 0, 0, 0, 0), (44, 3, 62, 9, 8, 524, 0, 0, 0, 0), (4, 1, 1, 0, 0, 0, 0, 0, 0, 0), (48, 3, 214, 72, 0, 990, 2, 0, 0, 0), (22, 3, 26, 0, 0, 0, 0, 0, 0, 0), (6, 1, 0, 0, 0, 0, 0, 0, 0, 0),
  (6, 1, 0, 0, 0, 0, 0, 0, 0, 0), (44, 3, 62, 9, 8, 524, 0, 0, 0, 0), (4, 1, 1, 0, 0, 0, 0, 0, 0, 0), (48, 3, 238, 105, 0, 996, 2, 0, 0, 0), (48, 3, 146, 83, 0, 878, 2, 9, 0, 0), (24, 3, 31, 0, 0, 0, 0, 0, 0, 0)]
def q104_26 : List XO := [(6, 1, 0, 0, 0, 0, 0, 0, 0, 0), (0, 1, 0, 0, 0, 0, 0, 0, 2, 0), (48, 3, 123, 31, 0, 643, 2, 9, 0, 0), (24, 0, 31, 0, 1, 0, 0, 0, 0, 0)]
def q104_31 : List XO := [(27, 1, 0, 0, 0, 0, 0, 0, 0, 0)]
def xt104 : List (Nat × List XO) := [(0, q104_0), (26, q104_26), (31, q104_31)]
def q105_0 : List XO := [(6, 1, 0, 0, 0, 0, 0, 0, 0, 0), (4, 1, 1, 0, 0, 0, 0, 0, 0, 0), (48, 3, 131, 72, 0, 834, 2, 0, 0, 0), (22, 3, 16, 0, 0, 0, 0, 0, 0, 0), (6, 1, 0, 0, 0, 0, 0, 0, 0, 0), (4, 1, 1, 0, 0, 0, 0, 0, 0, 0),
  (48, 3, 134, 74, 0, 835, 2, 0, 0, 0), (22, 3, 18, 0, 1, 0, 0, 0, 0, 0), (24, 0, 16, 0, 1, 0, 0, 0, 0, 0)]
def q105_16 : List XO := [(0, 1, 0, 0, 0, 0, 0, 0, 0, 0), (27, 1, 0, 0, 0, 0, 0, 0, 0, 0)]
def q105_18 : List XO := [(6, 1, 0, 0, 0, 0, 0, 0, 0, 0), (44, 3, 34, 0, 12, 455, 0, 0, 0, 0), (4, 1, 1, 0, 0, 0, 0, 0, 0, 0), (33, 1, 0, 0, 0, 0, 0, 0, 0, 0), (6, 1, 0, 0, 0, 0, 0, 0, 0, 0), (6, 1, 0, 0, 0, 0, 0, 0, 0, 0),
  (44, 3, 37, 0, 13, 458, 0, 0, 0, 0), (4, 1, 1, 0, 0, 0, 0, 0, 0, 0), (33, 1, 0, 0, 0, 0, 0, 0, 0, 0), (48, 3, 137, 106, 0, 1000, 2, 0, 0, 0), (11, 1, 0, 0, 3, 0, 0, 0, 0, 0), (6, 1, 0, 0, 0, 0, 0, 0, 0, 0),
  (44, 3, 40, 0, 14, 462, 0, 0, 0, 0), (4, 1, 1, 0, 0, 0, 0, 0, 0, 0), (33, 1, 0, 0, 0, 0, 0, 0, 0, 0), (11, 1, 0, 0, 4, 0, 0, 0, 0, 0), (27, 1, 0, 0, 0, 0, 0, 0, 0, 0)]
def xt105 : List (Nat × List XO) := [(0, q105_0), (16, q105_16), (18, q105_18)]
def q106_0 : List XO := [(4, 1, 1, 0, 0, 0, 0, 0, 0, 0), (22, 3, 8, 0, 3, 0, 0, 0, 0, 0), (0, 1, 0, 0, 0, 0, 0, 0, 0, 0), (24, 3, 24, 0, 0, 0, 0, 0, 0, 0)]
def q106_8 : List XO := [(6, 1, 0, 0, 0, 0, 0, 0, 0, 0), (44, 3, 18, 0, 6, 443, 0, 0, 0, 0), (4, 1, 1, 0, 0, 0, 0, 0, 0, 0), (6, 1, 0, 0, 0, 0, 0, 0, 0, 0), (44, 3, 18, 0, 6, 443, 0, 0, 0, 0), (32, 1, 0, 0, 0, 0, 0, 0, 0, 0),
  (0, 1, 0, 0, 0, 0, 0, 0, 1, 0), (11, 1, 0, 0, 1, 0, 0, 0, 0, 0), (48, 3, 93, 34, 1, 871, 2, 99, 0, 0), (33, 1, 0, 0, 0, 0, 0, 0, 0, 0), (24, 0, 24, 0, 1, 0, 0, 0, 0, 0)]
def q106_24 : List XO := [(27, 1, 0, 0, 0, 0, 0, 0, 0, 0)]
def xt106 : List (Nat × List XO) := [(0, q106_0), (8, q106_8), (24, q106_24)]
def q107_0 : List XO := [(6, 1, 0, 0, 0, 0, 0, 0, 0, 0), (44, 3, 19, 9, 1, 517, 0, 0, 0, 0), (4, 1, 1, 0, 0, 0, 0, 0, 0, 0), (6, 1, 0, 0, 0, 0, 0, 0, 0, 0), (44, 3, 62, 9, 8, 524, 0, 0, 0, 0), (42, 3, 143, 0, 7, 447, 0, 0, 0, 0),
  (48, 3, 241, 23, 0, 1008, 3, 6, 0, 0), (7, 1, 2, 0, 0, 0, 0, 0, 0, 0), (4, 1, 2, 0, 0, 0, 0, 0, 0, 0), (22, 3, 26, 0, 0, 0, 0, 0, 0, 0), (6, 1, 0, 0, 0, 0, 0, 0, 0, 0), (4, 1, 2, 0, 0, 0, 0, 0, 0, 0),
  (48, 3, 123, 31, 0, 643, 2, 9, 0, 0), (27, 1, 0, 0, 0, 0, 0, 0, 0, 0)]
def q107_26 : List XO := [(0, 1, 0, 0, 0, 0, 0, 0, 0, 0), (7, 1, 3, 0, 0, 0, 0, 0, 0, 0), (24, 0, 28, 0, 1, 0, 0, 0, 0, 0)]
def q107_28 : List XO := [(4, 1, 3, 0, 0, 0, 0, 0, 0, 0), (6, 1, 0, 0, 0, 0, 0, 0, 0, 0), (44, 3, 62, 9, 8, 524, 0, 0, 0, 0), (42, 3, 143, 0, 7, 447, 0, 0, 0, 0), (23, 3, 65, 0, 3, 0, 0, 0, 0, 0), (6, 1, 0, 0, 0, 0, 0, 0, 0, 0),
  (44, 3, 19, 9, 1, 517, 0, 0, 0, 0), (4, 1, 1, 0, 0, 0, 0, 0, 0, 0), (4, 1, 3, 0, 0, 0, 0, 0, 0, 0), (6, 1, 0, 0, 0, 0, 0, 0, 0, 0), (44, 3, 62, 9, 8, 524, 0, 0, 0, 0), (44, 3, 226, 0, 13, 461, 0, 0, 0, 0),
  (4, 1, 3, 0, 0, 0, 0, 0, 0, 0), (33, 1, 0, 0, 0, 0, 0, 0, 0, 0), (17, 1, 0, 0, 0, 0, 0, 0, 0, 0), (48, 3, 98, 21, 0, 599, 4, 6, 0, 0), (21, 1, 0, 0, 0, 0, 0, 0, 0, 0), (10, 3, 3, 0, 0, 0, 0, 0, 1, 0),
  (24, 3, 28, 0, 0, 0, 0, 0, 0, 0)]
def q107_65 : List XO := [(6, 1, 0, 0, 0, 0, 0, 0, 0, 0), (6, 1, 0, 0, 0, 0, 0, 0, 0, 0), (44, 3, 62, 9, 8, 524, 0, 0, 0, 0), (42, 3, 143, 0, 7, 447, 0, 0, 0, 0), (48, 3, 146, 83, 0, 878, 2, 9, 0, 0), (27, 1, 0, 0, 0, 0, 0, 0, 0, 0)]
def xt107 : List (Nat × List XO) := [(0, q107_0), (26, q107_26), (28, q107_28), (65, q107_65)]
def q108_0 : List XO := [(6, 1, 0, 0, 0, 0, 0, 0, 0, 0), (44, 3, 62, 9, 8, 524, 0, 0, 0, 0), (4, 1, 1, 0, 0, 0, 0, 0, 0, 0), (48, 3, 214, 72, 0, 990, 2, 0, 0, 0), (22, 3, 17, 0, 1, 0, 0, 0, 0, 0), (6, 1, 0, 0, 0, 0, 0, 0, 0, 0),
  (0, 1, 0, 0, 0, 0, 0, 0, 2, 0), (48, 3, 123, 31, 0, 643, 2, 9, 0, 0), (27, 1, 0, 0, 0, 0, 0, 0, 0, 0)]
def q108_17 : List XO := [(4, 1, 2, 0, 0, 0, 0, 0, 0, 0), (0, 1, 0, 0, 0, 0, 0, 0, 1, 0), (0, 2, 0, 0, 1, 0, 0, 0, 9, 0), (48, 3, 198, 101, 1, 977, 3, 9, 0, 0), (22, 3, 33, 0, 1, 0, 0, 0, 0, 0), (6, 1, 0, 0, 0, 0, 0, 0, 0, 0),
  (0, 1, 0, 0, 0, 0, 0, 0, 5, 0), (48, 3, 123, 31, 0, 643, 2, 9, 0, 0), (27, 1, 0, 0, 0, 0, 0, 0, 0, 0)]
def q108_33 : List XO := [(6, 1, 0, 0, 0, 0, 0, 0, 0, 0), (44, 3, 62, 9, 8, 524, 0, 0, 0, 0), (4, 1, 1, 0, 0, 0, 0, 0, 0, 0), (4, 1, 2, 0, 0, 0, 0, 0, 0, 0), (48, 3, 244, 109, 0, 1013, 3, 0, 0, 0), (22, 3, 61, 0, 0, 0, 0, 0, 0, 0),
  (6, 1, 0, 0, 0, 0, 0, 0, 0, 0), (6, 1, 0, 0, 0, 0, 0, 0, 0, 0), (44, 3, 62, 9, 8, 524, 0, 0, 0, 0), (44, 3, 226, 0, 13, 461, 0, 0, 0, 0), (4, 1, 1, 0, 0, 0, 0, 0, 0, 0), (33, 1, 0, 0, 0, 0, 0, 0, 0, 0),
  (48, 3, 146, 83, 0, 878, 2, 9, 0, 0), (24, 3, 67, 0, 0, 0, 0, 0, 0, 0)]
def q108_61 : List XO := [(6, 1, 0, 0, 0, 0, 0, 0, 0, 0), (0, 2, 0, 0, 1, 0, 0, 0, 9, 0), (48, 3, 123, 31, 0, 643, 2, 9, 0, 0), (24, 0, 67, 0, 1, 0, 0, 0, 0, 0)]
def q108_67 : List XO := [(27, 1, 0, 0, 0, 0, 0, 0, 0, 0)]
def xt108 : List (Nat × List XO) := [(0, q108_0), (17, q108_17), (33, q108_33), (61, q108_61), (67, q108_67)]
def q109_0 : List XO := [(6, 1, 0, 0, 0, 0, 0, 0, 0, 0), (4, 1, 1, 0, 0, 0, 0, 0, 0, 0), (48, 3, 131, 72, 0, 834, 2, 0, 0, 0), (22, 3, 27, 0, 0, 0, 0, 0, 0, 0), (6, 1, 0, 0, 0, 0, 0, 0, 0, 0), (4, 1, 1, 0, 0, 0, 0, 0, 0, 0),
  (48, 3, 134, 74, 0, 835, 2, 0, 0, 0), (22, 3, 27, 0, 0, 0, 0, 0, 0, 0), (6, 1, 0, 0, 0, 0, 0, 0, 0, 0), (44, 3, 37, 0, 13, 458, 0, 0, 0, 0), (4, 1, 1, 0, 0, 0, 0, 0, 0, 0), (33, 1, 0, 0, 0, 0, 0, 0, 0, 0),
  (0, 2, 0, 0, 1, 0, 0, 0, 9, 0), (23, 3, 29, 0, 2, 0, 0, 0, 0, 0), (24, 0, 27, 0, 1, 0, 0, 0, 0, 0)]
def q109_27 : List XO := [(0, 1, 0, 0, 0, 0, 0, 0, 0, 0), (27, 1, 0, 0, 1, 0, 0, 0, 0, 0)]
def q109_29 : List XO := [(6, 1, 0, 0, 0, 0, 0, 0, 0, 0), (44, 3, 37, 0, 13, 458, 0, 0, 0, 0), (4, 1, 1, 0, 0, 0, 0, 0, 0, 0), (0, 2, 0, 0, 1, 0, 0, 0, 9, 0), (6, 1, 0, 0, 0, 0, 0, 0, 0, 0), (44, 3, 37, 0, 13, 458, 0, 0, 0, 0),
  (4, 1, 1, 0, 0, 0, 0, 0, 0, 0), (33, 1, 0, 0, 0, 0, 0, 0, 0, 0), (4, 1, 2, 0, 0, 0, 0, 0, 0, 0), (11, 1, 0, 0, 0, 0, 0, 0, 0, 0), (48, 3, 93, 34, 1, 871, 2, 99, 0, 0), (34, 1, 0, 0, 0, 0, 0, 0, 0, 0),
  (0, 1, 0, 0, 0, 0, 0, 0, 1, 0), (27, 1, 0, 0, 1, 0, 0, 0, 0, 0)]
def xt109 : List (Nat × List XO) := [(0, q109_0), (27, q109_27), (29, q109_29)]
def q110_0 : List XO := [(4, 1, 1, 0, 0, 0, 0, 0, 0, 0), (0, 1, 0, 0, 0, 0, 0, 0, 1, 0), (0, 2, 0, 0, 1, 0, 0, 0, 9, 0), (48, 3, 198, 101, 1, 977, 3, 9, 0, 0), (22, 3, 25, 0, 0, 0, 0, 0, 0, 0), (6, 1, 0, 0, 0, 0, 0, 0, 0, 0),
  (6, 1, 0, 0, 0, 0, 0, 0, 0, 0), (44, 3, 62, 9, 8, 524, 0, 0, 0, 0), (4, 1, 1, 0, 0, 0, 0, 0, 0, 0), (48, 3, 248, 111, 0, 1021, 2, 0, 0, 0), (48, 3, 146, 83, 0, 878, 2, 9, 0, 0), (24, 3, 30, 0, 0, 0, 0, 0, 0, 0)]
def q110_25 : List XO := [(6, 1, 0, 0, 0, 0, 0, 0, 0, 0), (0, 1, 0, 0, 0, 0, 0, 0, 5, 0), (48, 3, 123, 31, 0, 643, 2, 9, 0, 0), (24, 0, 30, 0, 1, 0, 0, 0, 0, 0)]
def q110_30 : List XO := [(27, 1, 0, 0, 0, 0, 0, 0, 0, 0)]
def xt110 : List (Nat × List XO) := [(0, q110_0), (25, q110_25), (30, q110_30)]
def q111_0 : List XO := [(0, 1, 0, 0, 0, 0, 0, 0, 0, 0), (7, 1, 2, 0, 0, 0, 0, 0, 0, 0), (0, 1, 0, 0, 0, 0, 0, 0, 0, 0), (7, 1, 3, 0, 0, 0, 0, 0, 0, 0), (24, 0, 4, 0, 1, 0, 0, 0, 0, 0)]
def q111_4 : List XO := [(4, 1, 3, 0, 0, 0, 0, 0, 0, 0), (6, 1, 0, 0, 0, 0, 0, 0, 0, 0), (42, 3, 66, 0, 7, 444, 0, 0, 0, 0), (23, 3, 56, 0, 3, 0, 0, 0, 0, 0), (6, 1, 0, 0, 0, 0, 0, 0, 0, 0), (4, 1, 3, 0, 0, 0, 0, 0, 0, 0),
  (48, 3, 134, 74, 0, 835, 2, 0, 0, 0), (22, 3, 50, 0, 0, 0, 0, 0, 0, 0), (6, 1, 0, 0, 0, 0, 0, 0, 0, 0), (44, 3, 37, 0, 13, 458, 0, 0, 0, 0), (4, 1, 3, 0, 0, 0, 0, 0, 0, 0), (33, 1, 0, 0, 0, 0, 0, 0, 0, 0),
  (22, 3, 50, 0, 5, 0, 0, 0, 0, 0), (6, 1, 0, 0, 0, 0, 0, 0, 0, 0), (44, 3, 37, 0, 13, 458, 0, 0, 0, 0), (4, 1, 3, 0, 0, 0, 0, 0, 0, 0), (0, 1, 0, 0, 0, 0, 0, 0, 0, 0), (6, 1, 0, 0, 0, 0, 0, 0, 0, 0),
  (44, 3, 37, 0, 13, 458, 0, 0, 0, 0), (4, 1, 3, 0, 0, 0, 0, 0, 0, 0), (33, 1, 0, 0, 0, 0, 0, 0, 0, 0), (4, 1, 1, 0, 0, 0, 0, 0, 0, 0), (11, 1, 0, 0, 1, 0, 0, 0, 0, 0), (48, 3, 149, 35, 1, 1025, 2, 99, 0, 0),
  (34, 1, 0, 0, 0, 0, 0, 0, 0, 0), (10, 3, 2, 0, 0, 0, 0, 0, 1, 0), (24, 0, 50, 0, 1, 0, 0, 0, 0, 0)]
def q111_50 : List XO := [(10, 3, 3, 0, 0, 0, 0, 0, 1, 0), (24, 3, 4, 0, 0, 0, 0, 0, 0, 0)]
def q111_56 : List XO := [(4, 1, 2, 0, 0, 0, 0, 0, 0, 0), (27, 1, 0, 0, 0, 0, 0, 0, 0, 0)]
def xt111 : List (Nat × List XO) := [(0, q111_0), (4, q111_4), (50, q111_50), (56, q111_56)]
def q112_0 : List XO := [(6, 1, 0, 0, 0, 0, 0, 0, 0, 0), (44, 3, 62, 9, 8, 524, 0, 0, 0, 0), (4, 1, 1, 0, 0, 0, 0, 0, 0, 0), (48, 3, 214, 72, 0, 990, 2, 0, 0, 0), (22, 3, 17, 0, 1, 0, 0, 0, 0, 0), (6, 1, 0, 0, 0, 0, 0, 0, 0, 0),
  (0, 1, 0, 0, 0, 0, 0, 0, 2, 0), (48, 3, 94, 19, 0, 591, 2, 9, 0, 0), (27, 1, 0, 0, 1, 0, 0, 0, 0, 0)]
def q112_17 : List XO := [(6, 1, 0, 0, 0, 0, 0, 0, 0, 0), (6, 1, 0, 0, 0, 0, 0, 0, 0, 0), (44, 3, 62, 9, 8, 524, 0, 0, 0, 0), (4, 1, 1, 0, 0, 0, 0, 0, 0, 0), (4, 1, 2, 0, 0, 0, 0, 0, 0, 0), (48, 3, 251, 73, 0, 1030, 3, 0, 0, 0),
  (22, 3, 34, 0, 0, 0, 0, 0, 0, 0), (0, 1, 0, 0, 0, 0, 0, 0, 0, 0), (24, 3, 36, 0, 0, 0, 0, 0, 0, 0)]
def q112_34 : List XO := [(0, 2, 0, 0, 1, 0, 0, 0, 9, 0), (24, 0, 36, 0, 1, 0, 0, 0, 0, 0)]
def q112_36 : List XO := [(48, 3, 94, 19, 0, 591, 2, 9, 0, 0), (27, 1, 0, 0, 1, 0, 0, 0, 0, 0)]
def xt112 : List (Nat × List XO) := [(0, q112_0), (17, q112_17), (34, q112_34), (36, q112_36)]
def q113_0 : List XO := [(6, 1, 0, 0, 0, 0, 0, 0, 0, 0), (44, 3, 62, 9, 8, 524, 0, 0, 0, 0), (4, 1, 1, 0, 0, 0, 0, 0, 0, 0), (48, 3, 214, 72, 0, 990, 2, 0, 0, 0), (22, 3, 22, 0, 0, 0, 0, 0, 0, 0), (6, 1, 0, 0, 0, 0, 0, 0, 0, 0),
  (44, 3, 62, 9, 8, 524, 0, 0, 0, 0), (4, 1, 2, 0, 0, 0, 0, 0, 0, 0), (48, 3, 208, 76, 0, 984, 2, 0, 0, 0), (22, 3, 28, 0, 1, 0, 0, 0, 0, 0), (24, 0, 22, 0, 1, 0, 0, 0, 0, 0)]
def q113_22 : List XO := [(6, 1, 0, 0, 0, 0, 0, 0, 0, 0), (0, 1, 0, 0, 0, 0, 0, 0, 2, 0), (48, 3, 123, 31, 0, 643, 2, 9, 0, 0), (27, 1, 0, 0, 0, 0, 0, 0, 0, 0)]
def q113_28 : List XO := [(6, 1, 0, 0, 0, 0, 0, 0, 0, 0), (44, 3, 62, 9, 8, 524, 0, 0, 0, 0), (4, 1, 1, 0, 0, 0, 0, 0, 0, 0), (4, 1, 2, 0, 0, 0, 0, 0, 0, 0), (48, 3, 255, 77, 0, 1035, 3, 0, 0, 0), (7, 1, 3, 0, 0, 0, 0, 0, 0, 0),
  (4, 1, 3, 0, 0, 0, 0, 0, 0, 0), (22, 3, 61, 0, 1, 0, 0, 0, 0, 0), (6, 1, 0, 0, 0, 0, 0, 0, 0, 0), (6, 1, 0, 0, 0, 0, 0, 0, 0, 0), (44, 3, 62, 9, 8, 524, 0, 0, 0, 0), (44, 3, 232, 0, 14, 464, 0, 0, 0, 0),
  (4, 1, 1, 0, 0, 0, 0, 0, 0, 0), (33, 1, 0, 0, 0, 0, 0, 0, 0, 0), (48, 3, 258, 78, 1, 1036, 1, 99, 0, 0), (48, 3, 146, 83, 0, 878, 2, 9, 0, 0), (24, 3, 66, 0, 0, 0, 0, 0, 0, 0)]
def q113_61 : List XO := [(6, 1, 0, 0, 0, 0, 0, 0, 0, 0), (4, 1, 3, 0, 0, 0, 0, 0, 0, 0), (48, 3, 123, 31, 0, 643, 2, 9, 0, 0), (24, 0, 66, 0, 1, 0, 0, 0, 0, 0)]
def q113_66 : List XO := [(27, 1, 0, 0, 0, 0, 0, 0, 0, 0)]
def xt113 : List (Nat × List XO) := [(0, q113_0), (22, q113_22), (28, q113_28), (61, q113_61), (66, q113_66)]
def q114_0 : List XO := [(6, 1, 0, 0, 0, 0, 0, 0, 0, 0), (44, 3, 62, 9, 8, 524, 0, 0, 0, 0), (4, 1, 1, 0, 0, 0, 0, 0, 0, 0), (48, 3, 214, 72, 0, 990, 2, 0, 0, 0), (22, 3, 17, 0, 1, 0, 0, 0, 0, 0), (6, 1, 0, 0, 0, 0, 0, 0, 0, 0),
  (0, 1, 0, 0, 0, 0, 0, 0, 2, 0), (48, 3, 123, 31, 0, 643, 2, 9, 0, 0), (27, 1, 0, 0, 0, 0, 0, 0, 0, 0)]
def q114_17 : List XO := [(6, 1, 0, 0, 0, 0, 0, 0, 0, 0), (44, 3, 62, 9, 8, 524, 0, 0, 0, 0), (4, 1, 1, 0, 0, 0, 0, 0, 0, 0), (48, 3, 263, 115, 0, 1041, 2, 0, 0, 0), (7, 1, 2, 0, 0, 0, 0, 0, 0, 0), (4, 1, 2, 0, 0, 0, 0, 0, 0, 0),
  (22, 3, 38, 0, 5, 0, 0, 0, 0, 0), (6, 1, 0, 0, 0, 0, 0, 0, 0, 0), (4, 1, 2, 0, 0, 0, 0, 0, 0, 0), (48, 3, 146, 83, 0, 878, 2, 9, 0, 0), (24, 3, 44, 0, 0, 0, 0, 0, 0, 0)]
def q114_38 : List XO := [(6, 1, 0, 0, 0, 0, 0, 0, 0, 0), (0, 2, 0, 0, 1, 0, 0, 0, 9, 0), (48, 3, 123, 31, 0, 643, 2, 9, 0, 0), (24, 0, 44, 0, 1, 0, 0, 0, 0, 0)]
def q114_44 : List XO := [(27, 1, 0, 0, 0, 0, 0, 0, 0, 0)]
def xt114 : List (Nat × List XO) := [(0, q114_0), (17, q114_17), (38, q114_38), (44, q114_44)]
def q115_0 : List XO := [(6, 1, 0, 0, 0, 0, 0, 0, 0, 0), (4, 1, 1, 0, 0, 0, 0, 0, 0, 0), (48, 3, 131, 72, 0, 834, 2, 0, 0, 0), (22, 3, 10, 0, 1, 0, 0, 0, 0, 0), (0, 1, 0, 0, 0, 0, 0, 0, 0, 0), (27, 1, 0, 0, 0, 0, 0, 0, 0, 0)]
def q115_10 : List XO := [(6, 1, 0, 0, 0, 0, 0, 0, 0, 0), (44, 3, 40, 0, 14, 462, 0, 0, 0, 0), (4, 1, 1, 0, 0, 0, 0, 0, 0, 0), (33, 1, 0, 0, 0, 0, 0, 0, 0, 0), (48, 3, 152, 78, 1, 853, 1, 99, 0, 0), (7, 1, 2, 0, 0, 0, 0, 0, 0, 0),
  (6, 1, 0, 0, 0, 0, 0, 0, 0, 0), (44, 3, 40, 0, 14, 462, 0, 0, 0, 0), (4, 1, 1, 0, 0, 0, 0, 0, 0, 0), (0, 1, 0, 0, 0, 0, 0, 0, 0, 0), (34, 1, 0, 0, 0, 0, 0, 0, 0, 0), (4, 1, 2, 0, 0, 0, 0, 0, 0, 0),
  (27, 1, 0, 0, 0, 0, 0, 0, 0, 0)]
def xt115 : List (Nat × List XO) := [(0, q115_0), (10, q115_10)]
def q116_0 : List XO := [(6, 1, 0, 0, 0, 0, 0, 0, 0, 0), (44, 3, 62, 9, 8, 524, 0, 0, 0, 0), (4, 1, 1, 0, 0, 0, 0, 0, 0, 0), (48, 3, 208, 76, 0, 984, 2, 0, 0, 0), (22, 3, 17, 0, 1, 0, 0, 0, 0, 0), (6, 1, 0, 0, 0, 0, 0, 0, 0, 0),
  (0, 1, 0, 0, 0, 0, 0, 0, 2, 0), (48, 3, 123, 31, 0, 643, 2, 9, 0, 0), (27, 1, 0, 0, 0, 0, 0, 0, 0, 0)]
def q116_17 : List XO := [(4, 1, 2, 0, 0, 0, 0, 0, 0, 0), (0, 1, 0, 0, 0, 0, 0, 0, 0, 0), (0, 2, 0, 0, 1, 0, 0, 0, 9, 0), (48, 3, 198, 101, 1, 977, 3, 9, 0, 0), (22, 3, 33, 0, 1, 0, 0, 0, 0, 0), (6, 1, 0, 0, 0, 0, 0, 0, 0, 0),
  (0, 1, 0, 0, 0, 0, 0, 0, 5, 0), (48, 3, 123, 31, 0, 643, 2, 9, 0, 0), (27, 1, 0, 0, 0, 0, 0, 0, 0, 0)]
def q116_33 : List XO := [(6, 1, 0, 0, 0, 0, 0, 0, 0, 0), (44, 3, 62, 9, 8, 524, 0, 0, 0, 0), (42, 3, 179, 0, 3, 438, 0, 0, 0, 0), (0, 2, 0, 0, 1, 0, 0, 0, 15, 0), (23, 3, 52, 0, 2, 0, 0, 0, 0, 0), (6, 1, 0, 0, 0, 0, 0, 0, 0, 0),
  (0, 2, 0, 0, 1, 0, 0, 0, 7, 0), (48, 3, 123, 31, 0, 643, 2, 9, 0, 0), (27, 1, 0, 0, 0, 0, 0, 0, 0, 0)]
def q116_52 : List XO := [(6, 1, 0, 0, 0, 0, 0, 0, 0, 0), (44, 3, 62, 9, 8, 524, 0, 0, 0, 0), (4, 1, 1, 0, 0, 0, 0, 0, 0, 0), (48, 3, 211, 60, 0, 985, 2, 0, 0, 0), (0, 1, 0, 0, 0, 0, 0, 0, (-1), 0), (23, 3, 71, 0, 0, 0, 0, 0, 0, 0),
  (6, 1, 0, 0, 0, 0, 0, 0, 0, 0), (0, 2, 0, 0, 1, 0, 0, 0, 9, 0), (48, 3, 123, 31, 0, 643, 2, 9, 0, 0), (27, 1, 0, 0, 0, 0, 0, 0, 0, 0)]
def q116_71 : List XO := [(6, 1, 0, 0, 0, 0, 0, 0, 0, 0), (44, 3, 62, 9, 8, 524, 0, 0, 0, 0), (4, 1, 1, 0, 0, 0, 0, 0, 0, 0), (4, 1, 2, 0, 0, 0, 0, 0, 0, 0), (48, 3, 266, 61, 0, 1049, 3, 0, 0, 0), (6, 1, 0, 0, 0, 0, 0, 0, 0, 0),
  (6, 1, 0, 0, 0, 0, 0, 0, 0, 0), (44, 3, 62, 9, 8, 524, 0, 0, 0, 0), (42, 3, 179, 0, 3, 438, 0, 0, 0, 0), (0, 1, 0, 0, 0, 0, 0, 0, 1, 0), (11, 1, 0, 0, 1, 0, 0, 0, 0, 0), (48, 3, 146, 83, 0, 878, 2, 9, 0, 0),
  (27, 1, 0, 0, 0, 0, 0, 0, 0, 0)]
def xt116 : List (Nat × List XO) := [(0, q116_0), (17, q116_17), (33, q116_33), (52, q116_52), (71, q116_71)]
def q117_0 : List XO := [(6, 1, 0, 0, 0, 0, 0, 0, 0, 0), (4, 1, 1, 0, 0, 0, 0, 0, 0, 0), (4, 1, 2, 0, 0, 0, 0, 0, 0, 0), (4, 1, 3, 0, 0, 0, 0, 0, 0, 0), (4, 2, 4, 0, 0, 0, 0, 0, 0, 0), (48, 3, 270, 118, 0, 1054, 5, 9, 0, 0),
  (7, 2, 5, 0, 0, 0, 0, 0, 0, 0), (4, 2, 5, 0, 0, 0, 0, 0, 0, 0), (22, 3, 23, 0, 0, 0, 0, 0, 0, 0), (6, 1, 0, 0, 0, 0, 0, 0, 0, 0), (4, 2, 5, 0, 0, 0, 0, 0, 0, 0), (48, 3, 123, 31, 0, 643, 2, 9, 0, 0),
  (27, 1, 0, 0, 0, 0, 0, 0, 0, 0)]
def q117_23 : List XO := [(6, 1, 0, 0, 0, 0, 0, 0, 0, 0), (6, 1, 0, 0, 0, 0, 0, 0, 0, 0), (44, 3, 44, 9, 5, 521, 0, 0, 0, 0), (6, 1, 0, 0, 0, 0, 0, 0, 0, 0), (44, 3, 62, 9, 8, 524, 0, 0, 0, 0), (4, 2, 4, 0, 0, 0, 0, 0, 0, 0),
  (48, 3, 274, 131, 0, 1108, 3, 4, 0, 0), (22, 3, 44, 0, 0, 0, 0, 0, 0, 0), (0, 1, 0, 0, 0, 0, 0, 0, 1, 0), (24, 3, 45, 0, 0, 0, 0, 0, 0, 0)]
def q117_44 : List XO := [(0, 1, 0, 0, 0, 0, 0, 0, 0, 0), (24, 0, 45, 0, 1, 0, 0, 0, 0, 0)]
def q117_45 : List XO := [(48, 3, 146, 83, 0, 878, 2, 9, 0, 0), (27, 1, 0, 0, 0, 0, 0, 0, 0, 0)]
def xt117 : List (Nat × List XO) := [(0, q117_0), (23, q117_23), (44, q117_44), (45, q117_45)]
def q118_0 : List XO := [(6, 1, 0, 0, 0, 0, 0, 0, 0, 0), (4, 1, 1, 0, 0, 0, 0, 0, 0, 0), (4, 1, 2, 0, 0, 0, 0, 0, 0, 0), (4, 1, 3, 0, 0, 0, 0, 0, 0, 0), (4, 2, 4, 0, 0, 0, 0, 0, 0, 0), (48, 3, 288, 119, 0, 1058, 5, 9, 0, 0),
  (7, 2, 5, 0, 0, 0, 0, 0, 0, 0), (4, 2, 5, 0, 0, 0, 0, 0, 0, 0), (22, 3, 19, 0, 0, 0, 0, 0, 0, 0), (4, 2, 5, 0, 0, 0, 0, 0, 0, 0), (27, 1, 0, 0, 0, 0, 0, 0, 0, 0)]
def q118_19 : List XO := [(6, 1, 0, 0, 0, 0, 0, 0, 0, 0), (44, 3, 44, 9, 5, 521, 0, 0, 0, 0), (6, 1, 0, 0, 0, 0, 0, 0, 0, 0), (44, 3, 62, 9, 8, 524, 0, 0, 0, 0), (6, 1, 0, 0, 0, 0, 0, 0, 0, 0), (44, 3, 62, 9, 8, 524, 0, 0, 0, 0),
  (4, 1, 1, 0, 0, 0, 0, 0, 0, 0), (48, 3, 291, 122, 0, 1070, 2, 0, 0, 0), (4, 1, 2, 0, 0, 0, 0, 0, 0, 0), (4, 1, 3, 0, 0, 0, 0, 0, 0, 0), (48, 3, 294, 125, 0, 1083, 5, 4, 0, 0), (22, 3, 47, 0, 0, 0, 0, 0, 0, 0),
  (0, 1, 0, 0, 0, 0, 0, 0, 0, 0), (24, 3, 49, 0, 0, 0, 0, 0, 0, 0)]
def q118_47 : List XO := [(0, 2, 0, 0, 1, 0, 0, 0, 8, 0), (24, 0, 49, 0, 1, 0, 0, 0, 0, 0)]
def q118_49 : List XO := [(27, 1, 0, 0, 0, 0, 0, 0, 0, 0)]
def xt118 : List (Nat × List XO) := [(0, q118_0), (19, q118_19), (47, q118_47), (49, q118_49)]
def q119_0 : List XO := [(6, 1, 0, 0, 0, 0, 0, 0, 0, 0), (44, 3, 62, 9, 8, 524, 0, 0, 0, 0), (4, 1, 2, 0, 0, 0, 0, 0, 0, 0), (48, 3, 208, 76, 0, 984, 2, 0, 0, 0), (22, 3, 22, 0, 0, 0, 0, 0, 0, 0), (6, 1, 0, 0, 0, 0, 0, 0, 0, 0),
  (44, 3, 62, 9, 8, 524, 0, 0, 0, 0), (4, 1, 3, 0, 0, 0, 0, 0, 0, 0), (48, 3, 208, 76, 0, 984, 2, 0, 0, 0), (22, 3, 24, 0, 1, 0, 0, 0, 0, 0), (24, 0, 22, 0, 1, 0, 0, 0, 0, 0)]
def q119_22 : List XO := [(0, 1, 0, 0, 0, 0, 0, 0, 2, 0), (27, 1, 0, 0, 0, 0, 0, 0, 0, 0)]
def q119_24 : List XO := [(6, 1, 0, 0, 0, 0, 0, 0, 0, 0), (44, 3, 62, 9, 8, 524, 0, 0, 0, 0), (4, 1, 1, 0, 0, 0, 0, 0, 0, 0), (48, 3, 285, 120, 0, 1062, 2, 0, 0, 0), (22, 3, 50, 0, 0, 0, 0, 0, 0, 0), (4, 2, 4, 0, 0, 0, 0, 0, 0, 0),
  (0, 1, 0, 0, 0, 0, 0, 0, 1, 0), (0, 2, 0, 0, 1, 0, 0, 0, 10, 0), (48, 3, 198, 101, 1, 977, 3, 9, 0, 0), (22, 3, 50, 0, 0, 0, 0, 0, 0, 0), (0, 1, 0, 0, 0, 0, 0, 0, 1, 0), (24, 3, 51, 0, 0, 0, 0, 0, 0, 0)]
def q119_50 : List XO := [(0, 1, 0, 0, 0, 0, 0, 0, 0, 0), (24, 0, 51, 0, 1, 0, 0, 0, 0, 0)]
def q119_51 : List XO := [(7, 2, 5, 0, 0, 0, 0, 0, 0, 0), (4, 2, 5, 0, 0, 0, 0, 0, 0, 0), (22, 3, 62, 0, 0, 0, 0, 0, 0, 0), (0, 1, 0, 0, 0, 0, 0, 0, 0, 0), (24, 3, 63, 0, 0, 0, 0, 0, 0, 0)]
def q119_62 : List XO := [(0, 1, 0, 0, 0, 0, 0, 0, 5, 0), (24, 0, 63, 0, 1, 0, 0, 0, 0, 0)]
def q119_63 : List XO := [(27, 1, 0, 0, 0, 0, 0, 0, 0, 0)]
def xt119 : List (Nat × List XO) := [(0, q119_0), (22, q119_22), (24, q119_24), (50, q119_50), (51, q119_51), (62, q119_62), (63, q119_63)]
def q120_0 : List XO := [(4, 1, 1, 0, 0, 0, 0, 0, 0, 0), (22, 3, 16, 0, 2, 0, 0, 0, 0, 0), (4, 1, 1, 0, 0, 0, 0, 0, 0, 0), (6, 1, 0, 0, 0, 0, 0, 0, 0, 0), (48, 3, 99, 121, 0, 1066, 1, 0, 0, 0), (23, 3, 16, 0, 3, 0, 0, 0, 0, 0),
  (0, 1, 0, 0, 0, 0, 0, 0, 1, 0), (24, 3, 17, 0, 0, 0, 0, 0, 0, 0)]
def q120_16 : List XO := [(0, 1, 0, 0, 0, 0, 0, 0, 0, 0), (24, 0, 17, 0, 1, 0, 0, 0, 0, 0)]
def q120_17 : List XO := [(27, 1, 0, 0, 1, 0, 0, 0, 0, 0)]
def xt120 : List (Nat × List XO) := [(0, q120_0), (16, q120_16), (17, q120_17)]
def q121_0 : List XO := [(0, 1, 0, 0, 0, 0, 0, 0, 1, 0), (6, 1, 0, 0, 0, 0, 0, 0, 0, 0), (42, 3, 66, 0, 7, 444, 0, 0, 0, 0), (11, 1, 0, 0, 6, 0, 0, 0, 0, 0), (27, 1, 0, 0, 0, 0, 0, 0, 0, 0)]
def xt121 : List (Nat × List XO) := [(0, q121_0)]
def q122_0 : List XO := [(0, 1, 0, 0, 0, 0, 0, 0, 0, 0), (7, 1, 2, 0, 0, 0, 0, 0, 0, 0), (0, 1, 0, 0, 0, 0, 0, 0, 0, 0), (7, 1, 3, 0, 0, 0, 0, 0, 0, 0), (24, 0, 4, 0, 1, 0, 0, 0, 0, 0)]
def q122_4 : List XO := [(4, 1, 3, 0, 0, 0, 0, 0, 0, 0), (6, 1, 0, 0, 0, 0, 0, 0, 0, 0), (42, 3, 66, 0, 7, 444, 0, 0, 0, 0), (23, 3, 34, 0, 3, 0, 0, 0, 0, 0), (4, 1, 1, 0, 0, 0, 0, 0, 0, 0), (4, 1, 3, 0, 0, 0, 0, 0, 0, 0),
  (11, 1, 0, 0, 7, 0, 0, 0, 0, 0), (0, 1, 0, 0, 0, 0, 0, 0, 1, 0), (11, 1, 0, 0, 3, 0, 0, 0, 0, 0), (22, 3, 28, 0, 0, 0, 0, 0, 0, 0), (4, 1, 2, 0, 0, 0, 0, 0, 0, 0), (6, 1, 0, 0, 0, 0, 0, 0, 0, 0),
  (4, 1, 3, 0, 0, 0, 0, 0, 0, 0), (48, 3, 140, 105, 0, 1074, 2, 0, 0, 0), (11, 1, 0, 0, 4, 0, 0, 0, 0, 0), (7, 1, 2, 0, 0, 0, 0, 0, 0, 0), (24, 0, 28, 0, 1, 0, 0, 0, 0, 0)]
def q122_28 : List XO := [(10, 3, 3, 0, 0, 0, 0, 0, 1, 0), (24, 3, 4, 0, 0, 0, 0, 0, 0, 0)]
def q122_34 : List XO := [(6, 1, 0, 0, 0, 0, 0, 0, 0, 0), (4, 1, 1, 0, 0, 0, 0, 0, 0, 0), (48, 3, 146, 123, 0, 1075, 2, 0, 0, 0), (4, 1, 2, 0, 0, 0, 0, 0, 0, 0), (0, 1, 0, 0, 0, 0, 0, 0, (-1), 0), (11, 1, 0, 0, 5, 0, 0, 0, 0, 0),
  (11, 1, 0, 0, 3, 0, 0, 0, 0, 0), (27, 1, 0, 0, 0, 0, 0, 0, 0, 0)]
def xt122 : List (Nat × List XO) := [(0, q122_0), (4, q122_4), (28, q122_28), (34, q122_34)]
def q123_0 : List XO := [(6, 1, 0, 0, 0, 0, 0, 0, 0, 0), (4, 1, 1, 0, 0, 0, 0, 0, 0, 0), (6, 1, 0, 0, 0, 0, 0, 0, 0, 0), (42, 3, 69, 0, 15, 465, 0, 0, 0, 0), (0, 1, 0, 0, 0, 0, 0, 0, (-1), 0), (11, 1, 0, 0, 5, 0, 0, 0, 0, 0),
  (11, 1, 0, 0, 3, 0, 0, 0, 0, 0), (48, 3, 143, 124, 0, 1079, 2, 0, 0, 0), (27, 1, 0, 0, 0, 0, 0, 0, 0, 0)]
def xt123 : List (Nat × List XO) := [(0, q123_0)]
def q124_0 : List XO := [(0, 1, 0, 0, 0, 0, 0, 0, 0, 0), (7, 1, 2, 0, 0, 0, 0, 0, 0, 0), (0, 1, 0, 0, 0, 0, 0, 0, 0, 0), (7, 1, 3, 0, 0, 0, 0, 0, 0, 0), (24, 0, 4, 0, 1, 0, 0, 0, 0, 0)]
def q124_4 : List XO := [(4, 1, 3, 0, 0, 0, 0, 0, 0, 0), (6, 1, 0, 0, 0, 0, 0, 0, 0, 0), (42, 3, 66, 0, 7, 444, 0, 0, 0, 0), (23, 3, 35, 0, 3, 0, 0, 0, 0, 0), (4, 1, 1, 0, 0, 0, 0, 0, 0, 0), (4, 1, 3, 0, 0, 0, 0, 0, 0, 0),
  (11, 1, 0, 0, 7, 0, 0, 0, 0, 0), (0, 1, 0, 0, 0, 0, 0, 0, 1, 0), (11, 1, 0, 0, 3, 0, 0, 0, 0, 0), (22, 3, 29, 0, 0, 0, 0, 0, 0, 0), (4, 1, 2, 0, 0, 0, 0, 0, 0, 0), (6, 1, 0, 0, 0, 0, 0, 0, 0, 0),
  (44, 3, 34, 0, 12, 455, 0, 0, 0, 0), (4, 1, 3, 0, 0, 0, 0, 0, 0, 0), (33, 1, 0, 0, 0, 0, 0, 0, 0, 0), (11, 1, 0, 0, 4, 0, 0, 0, 0, 0), (7, 1, 2, 0, 0, 0, 0, 0, 0, 0), (24, 0, 29, 0, 1, 0, 0, 0, 0, 0)]
def q124_29 : List XO := [(10, 3, 3, 0, 0, 0, 0, 0, 1, 0), (24, 3, 4, 0, 0, 0, 0, 0, 0, 0)]
def q124_35 : List XO := [(4, 1, 2, 0, 0, 0, 0, 0, 0, 0), (27, 1, 0, 0, 0, 0, 0, 0, 0, 0)]
def xt124 : List (Nat × List XO) := [(0, q124_0), (4, q124_4), (29, q124_29), (35, q124_35)]
def q125_0 : List XO := [(6, 1, 0, 0, 0, 0, 0, 0, 0, 0), (0, 1, 0, 0, 0, 0, 0, 0, 0, 0), (45, 3, 18, 4, 1, 297, 0, 0, 0, 0), (6, 1, 1, 0, 0, 0, 0, 0, 0, 0), (4, 1, 3, 0, 0, 0, 0, 0, 0, 0), (48, 3, 22, 76, 0, 1087, 2, 0, 0, 0),
  (22, 3, 22, 0, 0, 0, 0, 0, 0, 0), (6, 1, 1, 0, 0, 0, 0, 0, 0, 0), (4, 2, 4, 0, 0, 0, 0, 0, 0, 0), (48, 3, 22, 76, 0, 1087, 2, 0, 0, 0), (22, 3, 24, 0, 1, 0, 0, 0, 0, 0), (24, 0, 22, 0, 1, 0, 0, 0, 0, 0)]
def q125_22 : List XO := [(0, 1, 0, 0, 0, 0, 0, 0, 0, 0), (27, 1, 0, 0, 1, 0, 0, 0, 0, 0)]
def q125_24 : List XO := [(6, 1, 0, 0, 0, 0, 0, 0, 0, 0), (6, 1, 1, 0, 0, 0, 0, 0, 0, 0), (48, 3, 28, 126, 0, 1088, 2, 4, 0, 0), (6, 1, 0, 0, 0, 0, 0, 0, 0, 0), (4, 1, 2, 0, 0, 0, 0, 0, 0, 0), (4, 1, 3, 0, 0, 0, 0, 0, 0, 0),
  (4, 2, 4, 0, 0, 0, 0, 0, 0, 0), (48, 3, 32, 127, 0, 1092, 4, 4, 0, 0), (7, 2, 5, 0, 0, 0, 0, 0, 0, 0), (4, 2, 5, 0, 0, 0, 0, 0, 0, 0), (0, 1, 0, 0, 0, 0, 0, 0, (-1), 0), (23, 3, 47, 0, 1, 0, 0, 0, 0, 0),
  (0, 1, 0, 0, 0, 0, 0, 0, 0, 0), (27, 1, 0, 0, 1, 0, 0, 0, 0, 0)]
def q125_47 : List XO := [(6, 1, 0, 0, 0, 0, 0, 0, 0, 0), (4, 1, 3, 0, 0, 0, 0, 0, 0, 0), (4, 2, 5, 0, 0, 0, 0, 0, 0, 0), (48, 3, 36, 129, 0, 1100, 3, 4, 0, 0), (0, 1, 0, 0, 0, 0, 0, 0, 1, 0), (27, 1, 0, 0, 1, 0, 0, 0, 0, 0)]
def xt125 : List (Nat × List XO) := [(0, q125_0), (22, q125_22), (24, q125_24), (47, q125_47)]
def q126_0 : List XO := [(6, 1, 0, 0, 0, 0, 0, 0, 0, 0), (6, 1, 1, 0, 0, 0, 0, 0, 0, 0), (42, 3, 40, 0, 0, 423, 0, 0, 0, 0), (45, 3, 43, 4, 3, 300, 0, 0, 0, 0), (6, 1, 0, 0, 0, 0, 0, 0, 0, 0), (0, 1, 0, 0, 0, 0, 0, 0, 0, 0),
  (45, 3, 44, 4, 4, 301, 0, 0, 0, 0), (0, 1, 0, 0, 0, 0, 0, 0, 0, 0), (7, 1, 2, 0, 0, 0, 0, 0, 0, 0), (24, 0, 15, 0, 1, 0, 0, 0, 0, 0)]
def q126_15 : List XO := [(4, 1, 2, 0, 0, 0, 0, 0, 0, 0), (6, 1, 1, 0, 0, 0, 0, 0, 0, 0), (42, 3, 47, 0, 1, 428, 0, 0, 0, 0), (23, 3, 46, 0, 3, 0, 0, 0, 0, 0), (6, 1, 0, 0, 0, 0, 0, 0, 0, 0), (19, 1, 0, 0, 0, 0, 0, 0, 0, 0),
  (42, 3, 44, 4, 4, 301, 0, 0, 0, 0), (0, 1, 0, 0, 0, 0, 0, 0, 1, 0), (4, 1, 2, 0, 0, 0, 0, 0, 0, 0), (6, 1, 0, 0, 0, 0, 0, 0, 0, 0), (42, 3, 43, 4, 3, 300, 0, 0, 0, 0), (11, 1, 0, 0, 2, 0, 0, 0, 0, 0),
  (11, 1, 0, 0, 6, 0, 0, 0, 0, 0), (11, 1, 0, 0, 4, 0, 0, 0, 0, 0), (45, 3, 44, 4, 4, 301, 0, 0, 0, 0), (10, 3, 2, 0, 0, 0, 0, 0, 1, 0), (24, 3, 15, 0, 0, 0, 0, 0, 0, 0)]
def q126_46 : List XO := [(6, 1, 0, 0, 0, 0, 0, 0, 0, 0), (6, 1, 0, 0, 0, 0, 0, 0, 0, 0), (42, 3, 44, 4, 4, 301, 0, 0, 0, 0), (6, 1, 0, 0, 0, 0, 0, 0, 0, 0), (42, 3, 43, 4, 3, 300, 0, 0, 0, 0), (0, 1, 0, 0, 0, 0, 0, 0, 1, 0),
  (11, 1, 0, 0, 1, 0, 0, 0, 0, 0), (11, 1, 0, 0, 6, 0, 0, 0, 0, 0), (45, 3, 50, 4, 5, 302, 0, 0, 0, 0), (27, 1, 0, 0, 3, 0, 0, 0, 0, 0)]
def xt126 : List (Nat × List XO) := [(0, q126_0), (15, q126_15), (46, q126_46)]
def q127_0 : List XO := [(6, 1, 0, 0, 0, 0, 0, 0, 0, 0), (44, 3, 15, 4, 2, 299, 0, 0, 0, 0), (0, 1, 0, 0, 0, 0, 0, 0, 0, 0), (0, 1, 0, 0, 0, 0, 0, 0, 1, 0), (4, 1, 3, 0, 0, 0, 0, 0, 0, 0), (11, 1, 0, 0, 6, 0, 0, 0, 0, 0),
  (4, 1, 1, 0, 0, 0, 0, 0, 0, 0), (11, 1, 0, 0, 3, 0, 0, 0, 0, 0), (34, 1, 0, 0, 0, 0, 0, 0, 0, 0), (4, 1, 1, 0, 0, 0, 0, 0, 0, 0), (6, 1, 0, 0, 0, 0, 0, 0, 0, 0), (44, 3, 15, 4, 2, 299, 0, 0, 0, 0),
  (0, 1, 0, 0, 0, 0, 0, 0, 0, 0), (33, 1, 0, 0, 0, 0, 0, 0, 0, 0), (0, 1, 0, 0, 0, 0, 0, 0, (-1), 0), (11, 1, 0, 0, 5, 0, 0, 0, 0, 0), (11, 1, 0, 0, 3, 0, 0, 0, 0, 0), (7, 2, 4, 0, 0, 0, 0, 0, 0, 0),
  (0, 1, 0, 0, 0, 0, 0, 0, 0, 0), (7, 2, 5, 0, 0, 0, 0, 0, 0, 0), (24, 0, 26, 0, 1, 0, 0, 0, 0, 0)]
def q127_26 : List XO := [(4, 2, 5, 0, 0, 0, 0, 0, 0, 0), (0, 2, 0, 0, 1, 0, 0, 0, 30, 0), (23, 3, 105, 0, 3, 0, 0, 0, 0, 0), (6, 1, 0, 0, 0, 0, 0, 0, 0, 0), (44, 3, 15, 4, 2, 299, 0, 0, 0, 0), (4, 2, 5, 0, 0, 0, 0, 0, 0, 0),
  (33, 1, 0, 0, 0, 0, 0, 0, 0, 0), (22, 3, 105, 0, 0, 0, 0, 0, 0, 0), (6, 1, 0, 0, 0, 0, 0, 0, 0, 0), (44, 3, 15, 4, 2, 299, 0, 0, 0, 0), (4, 2, 5, 0, 0, 0, 0, 0, 0, 0), (33, 1, 0, 0, 0, 0, 0, 0, 0, 0),
  (4, 1, 2, 0, 0, 0, 0, 0, 0, 0), (11, 1, 0, 0, 7, 0, 0, 0, 0, 0), (0, 1, 0, 0, 0, 0, 0, 0, 1, 0), (11, 1, 0, 0, 3, 0, 0, 0, 0, 0), (22, 3, 60, 0, 0, 0, 0, 0, 0, 0), (4, 2, 5, 0, 0, 0, 0, 0, 0, 0),
  (27, 1, 0, 0, 0, 0, 0, 0, 0, 0)]
def q127_60 : List XO := [(6, 1, 0, 0, 0, 0, 0, 0, 0, 0), (44, 3, 15, 4, 2, 299, 0, 0, 0, 0), (4, 2, 5, 0, 0, 0, 0, 0, 0, 0), (0, 1, 0, 0, 0, 0, 0, 0, 1, 0), (11, 1, 0, 0, 0, 0, 0, 0, 0, 0), (6, 1, 0, 0, 0, 0, 0, 0, 0, 0),
  (6, 1, 0, 0, 0, 0, 0, 0, 0, 0), (44, 3, 15, 4, 2, 299, 0, 0, 0, 0), (4, 2, 5, 0, 0, 0, 0, 0, 0, 0), (33, 1, 0, 0, 0, 0, 0, 0, 0, 0), (48, 3, 53, 128, 0, 1096, 2, 4, 0, 0), (4, 2, 4, 0, 0, 0, 0, 0, 0, 0),
  (11, 1, 0, 0, 3, 0, 0, 0, 0, 0), (34, 1, 0, 0, 0, 0, 0, 0, 0, 0), (4, 2, 4, 0, 0, 0, 0, 0, 0, 0), (6, 1, 0, 0, 0, 0, 0, 0, 0, 0), (44, 3, 15, 4, 2, 299, 0, 0, 0, 0), (4, 2, 5, 0, 0, 0, 0, 0, 0, 0),
  (0, 1, 0, 0, 0, 0, 0, 0, 1, 0), (11, 1, 0, 0, 0, 0, 0, 0, 0, 0), (33, 1, 0, 0, 0, 0, 0, 0, 0, 0), (0, 1, 0, 0, 0, 0, 0, 0, (-1), 0), (11, 1, 0, 0, 5, 0, 0, 0, 0, 0), (11, 1, 0, 0, 3, 0, 0, 0, 0, 0),
  (7, 2, 4, 0, 0, 0, 0, 0, 0, 0), (10, 3, 5, 0, 0, 0, 0, 0, 1, 0), (24, 3, 26, 0, 0, 0, 0, 0, 0, 0)]
def q127_105 : List XO := [(0, 1, 0, 0, 0, 0, 0, 0, (-1), 0), (27, 1, 0, 0, 0, 0, 0, 0, 0, 0)]
def xt127 : List (Nat × List XO) := [(0, q127_0), (26, q127_26), (60, q127_60), (105, q127_105)]
def q128_0 : List XO := [(4, 1, 1, 0, 0, 0, 0, 0, 0, 0), (6, 1, 0, 0, 0, 0, 0, 0, 0, 0), (42, 3, 43, 4, 3, 300, 0, 0, 0, 0), (11, 1, 0, 0, 6, 0, 0, 0, 0, 0), (4, 1, 1, 0, 0, 0, 0, 0, 0, 0), (6, 1, 0, 0, 0, 0, 0, 0, 0, 0),
  (42, 3, 43, 4, 3, 300, 0, 0, 0, 0), (11, 1, 0, 0, 8, 0, 0, 0, 0, 0), (11, 1, 0, 0, 4, 0, 0, 0, 0, 0), (4, 1, 1, 0, 0, 0, 0, 0, 0, 0), (6, 1, 0, 0, 0, 0, 0, 0, 0, 0), (42, 3, 50, 4, 5, 302, 0, 0, 0, 0),
  (0, 1, 0, 0, 0, 0, 0, 0, (-1), 0), (11, 1, 0, 0, 5, 0, 0, 0, 0, 0), (11, 1, 0, 0, 3, 0, 0, 0, 0, 0), (0, 1, 0, 0, 0, 0, 0, 0, 1, 0), (11, 1, 0, 0, 6, 0, 0, 0, 0, 0), (11, 1, 0, 0, 4, 0, 0, 0, 0, 0),
  (4, 1, 1, 0, 0, 0, 0, 0, 0, 0), (6, 1, 0, 0, 0, 0, 0, 0, 0, 0), (42, 3, 44, 4, 4, 301, 0, 0, 0, 0), (0, 1, 0, 0, 0, 0, 0, 0, (-1), 0), (11, 1, 0, 0, 5, 0, 0, 0, 0, 0), (11, 1, 0, 0, 3, 0, 0, 0, 0, 0),
  (0, 1, 0, 0, 0, 0, 0, 0, 1, 0), (11, 1, 0, 0, 8, 0, 0, 0, 0, 0), (11, 1, 0, 0, 4, 0, 0, 0, 0, 0), (27, 1, 0, 0, 0, 0, 0, 0, 0, 0)]
def xt128 : List (Nat × List XO) := [(0, q128_0)]
def q129_0 : List XO := [(6, 1, 0, 0, 0, 0, 0, 0, 0, 0), (44, 3, 9, 4, 0, 295, 0, 0, 0, 0), (0, 1, 0, 0, 0, 0, 0, 0, 0, 0), (4, 1, 1, 0, 0, 0, 0, 0, 0, 0), (34, 1, 0, 0, 0, 0, 0, 0, 0, 0), (6, 1, 0, 0, 0, 0, 0, 0, 0, 0),
  (0, 1, 0, 0, 0, 0, 0, 0, 1, 0), (45, 3, 18, 4, 1, 297, 0, 0, 0, 0), (4, 1, 2, 0, 0, 0, 0, 0, 0, 0), (0, 1, 0, 0, 0, 0, 0, 0, 1, 0), (11, 1, 0, 0, 1, 0, 0, 0, 0, 0), (7, 1, 3, 0, 0, 0, 0, 0, 0, 0),
  (24, 0, 16, 0, 1, 0, 0, 0, 0, 0)]
def q129_16 : List XO := [(4, 1, 3, 0, 0, 0, 0, 0, 0, 0), (22, 3, 84, 0, 2, 0, 0, 0, 0, 0), (6, 1, 0, 0, 0, 0, 0, 0, 0, 0), (42, 3, 18, 4, 1, 297, 0, 0, 0, 0), (6, 1, 0, 0, 0, 0, 0, 0, 0, 0), (44, 3, 9, 4, 0, 295, 0, 0, 0, 0),
  (32, 1, 0, 0, 0, 0, 0, 0, 0, 0), (23, 3, 84, 0, 3, 0, 0, 0, 0, 0), (6, 1, 0, 0, 0, 0, 0, 0, 0, 0), (44, 3, 9, 4, 0, 295, 0, 0, 0, 0), (6, 1, 0, 0, 0, 0, 0, 0, 0, 0), (42, 3, 18, 4, 1, 297, 0, 0, 0, 0),
  (6, 1, 0, 0, 0, 0, 0, 0, 0, 0), (0, 1, 0, 0, 0, 0, 0, 0, 1, 0), (6, 1, 0, 0, 0, 0, 0, 0, 0, 0), (44, 3, 9, 4, 0, 295, 0, 0, 0, 0), (6, 1, 0, 0, 0, 0, 0, 0, 0, 0), (42, 3, 18, 4, 1, 297, 0, 0, 0, 0),
  (0, 1, 0, 0, 0, 0, 0, 0, 1, 0), (11, 1, 0, 0, 1, 0, 0, 0, 0, 0), (33, 1, 0, 0, 0, 0, 0, 0, 0, 0), (11, 1, 0, 0, 6, 0, 0, 0, 0, 0), (48, 3, 53, 128, 0, 1096, 2, 4, 0, 0), (6, 1, 0, 0, 0, 0, 0, 0, 0, 0),
  (44, 3, 15, 4, 2, 299, 0, 0, 0, 0), (4, 1, 3, 0, 0, 0, 0, 0, 0, 0), (33, 1, 0, 0, 0, 0, 0, 0, 0, 0), (11, 1, 0, 0, 3, 0, 0, 0, 0, 0), (48, 3, 57, 130, 1, 1104, 1, 4, 0, 0), (34, 1, 0, 0, 0, 0, 0, 0, 0, 0),
  (6, 1, 0, 0, 0, 0, 0, 0, 0, 0), (19, 1, 0, 0, 0, 0, 0, 0, 0, 0), (42, 3, 18, 4, 1, 297, 0, 0, 0, 0), (0, 1, 0, 0, 0, 0, 0, 0, 1, 0), (11, 1, 0, 0, 0, 0, 0, 0, 0, 0), (45, 3, 18, 4, 1, 297, 0, 0, 0, 0),
  (10, 3, 3, 0, 0, 0, 0, 0, (-1), 0), (24, 3, 16, 0, 0, 0, 0, 0, 0, 0)]
def q129_84 : List XO := [(27, 1, 0, 0, 3, 0, 0, 0, 0, 0)]
def xt129 : List (Nat × List XO) := [(0, q129_0), (16, q129_16), (84, q129_84)]
def q130_0 : List XO := [(4, 1, 0, 0, 0, 0, 0, 0, 0, 0), (4, 1, 0, 0, 0, 0, 0, 0, 0, 0), (13, 1, 0, 0, 0, 0, 0, 0, 0, 0), (11, 1, 0, 0, 3, 0, 0, 0, 0, 0), (0, 1, 0, 0, 0, 0, 0, 0, 1, 0), (11, 1, 0, 0, 1, 0, 0, 0, 0, 0),
  (48, 3, 60, 78, 1, 1107, 1, 99, 0, 0), (27, 1, 0, 0, 0, 0, 0, 0, 0, 0)]
def xt130 : List (Nat × List XO) := [(0, q130_0)]
def q131_0 : List XO := [(6, 1, 0, 0, 0, 0, 0, 0, 0, 0), (6, 1, 1, 0, 0, 0, 0, 0, 0, 0), (4, 1, 2, 0, 0, 0, 0, 0, 0, 0), (48, 3, 75, 132, 0, 1112, 3, 4, 0, 0), (0, 1, 0, 0, 0, 0, 0, 0, (-1), 0), (23, 3, 22, 0, 0, 0, 0, 0, 0, 0),
  (6, 1, 1, 0, 0, 0, 0, 0, 0, 0), (19, 1, 0, 0, 0, 0, 0, 0, 0, 0), (42, 3, 79, 0, 16, 468, 0, 0, 0, 0), (0, 1, 0, 0, 0, 0, 0, 0, 1, 0), (11, 1, 0, 0, 0, 0, 0, 0, 0, 0), (45, 3, 79, 0, 16, 468, 0, 0, 0, 0),
  (0, 1, 0, 0, 0, 0, 0, 0, 0, 0), (27, 1, 0, 0, 1, 0, 0, 0, 0, 0)]
def q131_22 : List XO := [(6, 1, 1, 0, 0, 0, 0, 0, 0, 0), (19, 1, 0, 0, 0, 0, 0, 0, 0, 0), (42, 3, 82, 0, 17, 471, 0, 0, 0, 0), (0, 1, 0, 0, 0, 0, 0, 0, 1, 0), (11, 1, 0, 0, 0, 0, 0, 0, 0, 0), (45, 3, 82, 0, 17, 471, 0, 0, 0, 0),
  (0, 1, 0, 0, 0, 0, 0, 0, 1, 0), (27, 1, 0, 0, 1, 0, 0, 0, 0, 0)]
def xt131 : List (Nat × List XO) := [(0, q131_0), (22, q131_22)]
def q132_0 : List XO := [(6, 1, 1, 0, 0, 0, 0, 0, 0, 0), (4, 1, 2, 0, 0, 0, 0, 0, 0, 0), (48, 3, 65, 106, 0, 1116, 2, 0, 0, 0), (7, 1, 3, 0, 0, 0, 0, 0, 0, 0), (0, 1, 0, 0, 0, 0, 0, 0, 0, 0), (7, 2, 4, 0, 0, 0, 0, 0, 0, 0),
  (24, 0, 9, 0, 1, 0, 0, 0, 0, 0)]
def q132_9 : List XO := [(4, 2, 4, 0, 0, 0, 0, 0, 0, 0), (6, 1, 0, 0, 0, 0, 0, 0, 0, 0), (42, 3, 18, 4, 1, 297, 0, 0, 0, 0), (23, 3, 56, 0, 3, 0, 0, 0, 0, 0), (4, 2, 4, 0, 0, 0, 0, 0, 0, 0), (6, 1, 0, 0, 0, 0, 0, 0, 0, 0),
  (44, 3, 9, 4, 0, 295, 0, 0, 0, 0), (32, 1, 0, 0, 0, 0, 0, 0, 0, 0), (23, 3, 56, 0, 3, 0, 0, 0, 0, 0), (4, 1, 3, 0, 0, 0, 0, 0, 0, 0), (6, 1, 0, 0, 0, 0, 0, 0, 0, 0), (44, 3, 9, 4, 0, 295, 0, 0, 0, 0),
  (4, 2, 4, 0, 0, 0, 0, 0, 0, 0), (33, 1, 0, 0, 0, 0, 0, 0, 0, 0), (11, 1, 0, 0, 7, 0, 0, 0, 0, 0), (0, 1, 0, 0, 0, 0, 0, 0, 1, 0), (11, 1, 0, 0, 3, 0, 0, 0, 0, 0), (22, 3, 50, 0, 0, 0, 0, 0, 0, 0),
  (6, 1, 0, 0, 0, 0, 0, 0, 0, 0), (44, 3, 9, 4, 0, 295, 0, 0, 0, 0), (4, 2, 4, 0, 0, 0, 0, 0, 0, 0), (33, 1, 0, 0, 0, 0, 0, 0, 0, 0), (27, 1, 0, 0, 0, 0, 0, 0, 0, 0)]
def q132_50 : List XO := [(10, 3, 4, 0, 0, 0, 0, 0, 1, 0), (24, 3, 9, 0, 0, 0, 0, 0, 0, 0)]
def q132_56 : List XO := [(0, 1, 0, 0, 0, 0, 0, 0, (-1), 0), (27, 1, 0, 0, 0, 0, 0, 0, 0, 0)]
def xt132 : List (Nat × List XO) := [(0, q132_0), (9, q132_9), (50, q132_50), (56, q132_56)]
def q133_0 : List XO := [(6, 1, 0, 0, 0, 0, 0, 0, 0, 0), (44, 3, 62, 9, 8, 524, 0, 0, 0, 0), (4, 1, 1, 0, 0, 0, 0, 0, 0, 0), (48, 3, 208, 76, 0, 984, 2, 0, 0, 0), (22, 3, 17, 0, 1, 0, 0, 0, 0, 0), (6, 1, 0, 0, 0, 0, 0, 0, 0, 0),
  (0, 1, 0, 0, 0, 0, 0, 0, 2, 0), (48, 3, 123, 31, 0, 643, 2, 9, 0, 0), (27, 1, 0, 0, 0, 0, 0, 0, 0, 0)]
def q133_17 : List XO := [(6, 1, 0, 0, 0, 0, 0, 0, 0, 0), (44, 3, 62, 9, 8, 524, 0, 0, 0, 0), (4, 1, 1, 0, 0, 0, 0, 0, 0, 0), (4, 1, 2, 0, 0, 0, 0, 0, 0, 0), (4, 1, 3, 0, 0, 0, 0, 0, 0, 0), (48, 3, 278, 134, 0, 1121, 4, 0, 0, 0),
  (22, 3, 36, 0, 1, 0, 0, 0, 0, 0), (6, 1, 0, 0, 0, 0, 0, 0, 0, 0), (0, 1, 0, 0, 0, 0, 0, 0, 5, 0), (48, 3, 123, 31, 0, 643, 2, 9, 0, 0), (27, 1, 0, 0, 0, 0, 0, 0, 0, 0)]
def q133_36 : List XO := [(6, 1, 0, 0, 0, 0, 0, 0, 0, 0), (44, 3, 62, 9, 8, 524, 0, 0, 0, 0), (42, 3, 143, 0, 7, 447, 0, 0, 0, 0), (0, 2, 0, 0, 1, 0, 0, 0, 6, 0), (23, 3, 55, 0, 2, 0, 0, 0, 0, 0), (6, 1, 0, 0, 0, 0, 0, 0, 0, 0),
  (0, 2, 0, 0, 1, 0, 0, 0, 7, 0), (48, 3, 123, 31, 0, 643, 2, 9, 0, 0), (27, 1, 0, 0, 0, 0, 0, 0, 0, 0)]
def q133_55 : List XO := [(6, 1, 0, 0, 0, 0, 0, 0, 0, 0), (44, 3, 62, 9, 8, 524, 0, 0, 0, 0), (1, 1, 0, 0, 0, 0, 0, 0, 0, 0), (4, 1, 1, 0, 0, 0, 0, 0, 0, 0), (4, 1, 2, 0, 0, 0, 0, 0, 0, 0), (4, 1, 3, 0, 0, 0, 0, 0, 0, 0),
  (48, 3, 281, 69, 0, 1127, 5, 0, 0, 0), (6, 1, 0, 0, 0, 0, 0, 0, 0, 0), (6, 1, 0, 0, 0, 0, 0, 0, 0, 0), (44, 3, 62, 9, 8, 524, 0, 0, 0, 0), (42, 3, 143, 0, 7, 447, 0, 0, 0, 0), (0, 1, 0, 0, 0, 0, 0, 0, 1, 0),
  (11, 1, 0, 0, 1, 0, 0, 0, 0, 0), (48, 3, 146, 83, 0, 878, 2, 9, 0, 0), (27, 1, 0, 0, 0, 0, 0, 0, 0, 0)]
def xt133 : List (Nat × List XO) := [(0, q133_0), (17, q133_17), (36, q133_36), (55, q133_55)]
def q134_0 : List XO := [(6, 1, 0, 0, 0, 0, 0, 0, 0, 0), (4, 1, 1, 0, 0, 0, 0, 0, 0, 0), (48, 3, 103, 76, 0, 852, 2, 0, 0, 0), (22, 3, 50, 0, 0, 0, 0, 0, 0, 0), (4, 1, 2, 0, 0, 0, 0, 0, 0, 0), (0, 1, 0, 0, 0, 0, 0, 0, 1, 0),
  (23, 3, 50, 0, 2, 0, 0, 0, 0, 0), (4, 1, 3, 0, 0, 0, 0, 0, 0, 0), (0, 1, 0, 0, 0, 0, 0, 0, 1, 0), (23, 3, 50, 0, 2, 0, 0, 0, 0, 0), (4, 1, 2, 0, 0, 0, 0, 0, 0, 0), (6, 1, 0, 0, 0, 0, 0, 0, 0, 0),
  (42, 3, 53, 0, 0, 422, 0, 0, 0, 0), (6, 1, 0, 0, 0, 0, 0, 0, 0, 0), (4, 1, 1, 0, 0, 0, 0, 0, 0, 0), (48, 3, 107, 67, 0, 1125, 2, 0, 0, 0), (11, 1, 0, 0, 1, 0, 0, 0, 0, 0), (23, 3, 50, 0, 4, 0, 0, 0, 0, 0),
  (4, 1, 3, 0, 0, 0, 0, 0, 0, 0), (6, 1, 0, 0, 0, 0, 0, 0, 0, 0), (42, 3, 57, 0, 1, 427, 0, 0, 0, 0), (6, 1, 0, 0, 0, 0, 0, 0, 0, 0), (4, 1, 1, 0, 0, 0, 0, 0, 0, 0), (48, 3, 111, 68, 0, 1126, 2, 0, 0, 0),
  (11, 1, 0, 0, 1, 0, 0, 0, 0, 0), (23, 3, 50, 0, 4, 0, 0, 0, 0, 0), (0, 1, 0, 0, 0, 0, 0, 0, 1, 0), (24, 3, 51, 0, 0, 0, 0, 0, 0, 0)]
def q134_50 : List XO := [(0, 1, 0, 0, 0, 0, 0, 0, 0, 0), (24, 0, 51, 0, 1, 0, 0, 0, 0, 0)]
def q134_51 : List XO := [(27, 1, 0, 0, 1, 0, 0, 0, 0, 0)]
def xt134 : List (Nat × List XO) := [(0, q134_0), (50, q134_50), (51, q134_51)]
def q135_0 : List XO := [(4, 1, 1, 0, 0, 0, 0, 0, 0, 0), (0, 1, 0, 0, 0, 0, 0, 0, 0, 0), (0, 2, 0, 0, 1, 0, 0, 0, 16, 0), (48, 3, 198, 101, 1, 977, 3, 9, 0, 0), (22, 3, 16, 0, 1, 0, 0, 0, 0, 0), (6, 1, 0, 0, 0, 0, 0, 0, 0, 0),
  (0, 1, 0, 0, 0, 0, 0, 0, 5, 0), (48, 3, 94, 19, 0, 591, 2, 9, 0, 0), (27, 1, 0, 0, 1, 0, 0, 0, 0, 0)]
def q135_16 : List XO := [(6, 1, 0, 0, 0, 0, 0, 0, 0, 0), (44, 3, 62, 9, 8, 524, 0, 0, 0, 0), (4, 1, 1, 0, 0, 0, 0, 0, 0, 0), (45, 3, 182, 0, 2, 435, 0, 0, 0, 0), (6, 1, 0, 0, 0, 0, 0, 0, 0, 0), (0, 1, 0, 0, 0, 0, 0, 0, 0, 0),
  (48, 3, 94, 19, 0, 591, 2, 9, 0, 0), (27, 1, 0, 0, 1, 0, 0, 0, 0, 0)]
def xt135 : List (Nat × List XO) := [(0, q135_0), (16, q135_16)]
def q136_0 : List XO := [(6, 1, 0, 0, 0, 0, 0, 0, 0, 0), (44, 3, 62, 9, 8, 524, 0, 0, 0, 0), (4, 1, 1, 0, 0, 0, 0, 0, 0, 0), (48, 3, 285, 120, 0, 1062, 2, 0, 0, 0), (22, 3, 26, 0, 0, 0, 0, 0, 0, 0), (6, 1, 0, 0, 0, 0, 0, 0, 0, 0),
  (6, 1, 0, 0, 0, 0, 0, 0, 0, 0), (44, 3, 62, 9, 8, 524, 0, 0, 0, 0), (4, 1, 1, 0, 0, 0, 0, 0, 0, 0), (48, 3, 298, 123, 0, 1136, 2, 0, 0, 0), (48, 3, 146, 83, 0, 878, 2, 9, 0, 0), (24, 3, 31, 0, 0, 0, 0, 0, 0, 0)]
def q136_26 : List XO := [(6, 1, 0, 0, 0, 0, 0, 0, 0, 0), (0, 1, 0, 0, 0, 0, 0, 0, 5, 0), (48, 3, 123, 31, 0, 643, 2, 9, 0, 0), (24, 0, 31, 0, 1, 0, 0, 0, 0, 0)]
def q136_31 : List XO := [(27, 1, 0, 0, 0, 0, 0, 0, 0, 0)]
def xt136 : List (Nat × List XO) := [(0, q136_0), (26, q136_26), (31, q136_31)]
def q137_0 : List XO := [(6, 1, 0, 0, 0, 0, 0, 0, 0, 0), (44, 3, 62, 9, 8, 524, 0, 0, 0, 0), (4, 1, 1, 0, 0, 0, 0, 0, 0, 0), (48, 3, 285, 120, 0, 1062, 2, 0, 0, 0), (22, 3, 26, 0, 0, 0, 0, 0, 0, 0), (6, 1, 0, 0, 0, 0, 0, 0, 0, 0),
  (6, 1, 0, 0, 0, 0, 0, 0, 0, 0), (44, 3, 62, 9, 8, 524, 0, 0, 0, 0), (4, 1, 1, 0, 0, 0, 0, 0, 0, 0), (48, 3, 291, 122, 0, 1070, 2, 0, 0, 0), (48, 3, 146, 83, 0, 878, 2, 9, 0, 0), (24, 3, 31, 0, 0, 0, 0, 0, 0, 0)]
def q137_26 : List XO := [(6, 1, 0, 0, 0, 0, 0, 0, 0, 0), (0, 1, 0, 0, 0, 0, 0, 0, 5, 0), (48, 3, 123, 31, 0, 643, 2, 9, 0, 0), (24, 0, 31, 0, 1, 0, 0, 0, 0, 0)]
def q137_31 : List XO := [(27, 1, 0, 0, 0, 0, 0, 0, 0, 0)]
def xt137 : List (Nat × List XO) := [(0, q137_0), (26, q137_26), (31, q137_31)]
def q138_0 : List XO := [(6, 1, 0, 0, 0, 0, 0, 0, 0, 0), (4, 1, 1, 0, 0, 0, 0, 0, 0, 0), (4, 1, 2, 0, 0, 0, 0, 0, 0, 0), (4, 1, 3, 0, 0, 0, 0, 0, 0, 0), (0, 1, 0, 0, 0, 0, 0, 0, 1, 0), (48, 3, 270, 118, 0, 1054, 5, 9, 0, 0),
  (7, 2, 4, 0, 0, 0, 0, 0, 0, 0), (4, 2, 4, 0, 0, 0, 0, 0, 0, 0), (22, 3, 29, 0, 1, 0, 0, 0, 0, 0), (6, 1, 0, 0, 0, 0, 0, 0, 0, 0), (6, 1, 0, 0, 0, 0, 0, 0, 0, 0), (44, 3, 44, 9, 5, 521, 0, 0, 0, 0),
  (42, 3, 301, 4, 1, 298, 0, 0, 0, 0), (48, 3, 146, 83, 0, 878, 2, 9, 0, 0), (24, 3, 35, 0, 0, 0, 0, 0, 0, 0)]
def q138_29 : List XO := [(6, 1, 0, 0, 0, 0, 0, 0, 0, 0), (4, 2, 4, 0, 0, 0, 0, 0, 0, 0), (48, 3, 123, 31, 0, 643, 2, 9, 0, 0), (24, 0, 35, 0, 1, 0, 0, 0, 0, 0)]
def q138_35 : List XO := [(27, 1, 0, 0, 0, 0, 0, 0, 0, 0)]
def xt138 : List (Nat × List XO) := [(0, q138_0), (29, q138_29), (35, q138_35)]
def q139_0 : List XO := [(6, 1, 0, 0, 0, 0, 0, 0, 0, 0), (4, 1, 1, 0, 0, 0, 0, 0, 0, 0), (4, 1, 2, 0, 0, 0, 0, 0, 0, 0), (4, 1, 3, 0, 0, 0, 0, 0, 0, 0), (0, 1, 0, 0, 0, 0, 0, 0, 1, 0), (48, 3, 270, 118, 0, 1054, 5, 9, 0, 0),
  (7, 2, 5, 0, 0, 0, 0, 0, 0, 0), (4, 2, 5, 0, 0, 0, 0, 0, 0, 0), (22, 3, 22, 0, 0, 0, 0, 0, 0, 0), (6, 1, 0, 0, 0, 0, 0, 0, 0, 0), (4, 2, 5, 0, 0, 0, 0, 0, 0, 0), (48, 3, 123, 31, 0, 643, 2, 9, 0, 0),
  (27, 1, 0, 0, 0, 0, 0, 0, 0, 0)]
def q139_22 : List XO := [(4, 2, 4, 0, 0, 0, 0, 0, 0, 0), (0, 1, 0, 0, 0, 0, 0, 0, 0, 0), (6, 1, 0, 0, 0, 0, 0, 0, 0, 0), (44, 3, 44, 9, 5, 521, 0, 0, 0, 0), (42, 3, 301, 4, 1, 298, 0, 0, 0, 0), (0, 1, 0, 0, 0, 0, 0, 0, 1, 0),
  (11, 1, 0, 0, 1, 0, 0, 0, 0, 0), (48, 3, 198, 101, 1, 977, 3, 9, 0, 0), (22, 3, 57, 0, 0, 0, 0, 0, 0, 0), (6, 1, 0, 0, 0, 0, 0, 0, 0, 0), (6, 1, 0, 0, 0, 0, 0, 0, 0, 0), (44, 3, 44, 9, 5, 521, 0, 0, 0, 0),
  (44, 3, 304, 4, 0, 296, 0, 0, 0, 0), (4, 2, 4, 0, 0, 0, 0, 0, 0, 0), (33, 1, 0, 0, 0, 0, 0, 0, 0, 0), (48, 3, 146, 83, 0, 878, 2, 9, 0, 0), (24, 3, 63, 0, 0, 0, 0, 0, 0, 0)]
def q139_57 : List XO := [(6, 1, 0, 0, 0, 0, 0, 0, 0, 0), (0, 2, 0, 0, 1, 0, 0, 0, 8, 0), (48, 3, 123, 31, 0, 643, 2, 9, 0, 0), (24, 0, 63, 0, 1, 0, 0, 0, 0, 0)]
def q139_63 : List XO := [(27, 1, 0, 0, 0, 0, 0, 0, 0, 0)]
def xt139 : List (Nat × List XO) := [(0, q139_0), (22, q139_22), (57, q139_57), (63, q139_63)]
def q140_0 : List XO := [(6, 1, 0, 0, 0, 0, 0, 0, 0, 0), (4, 1, 1, 0, 0, 0, 0, 0, 0, 0), (4, 1, 2, 0, 0, 0, 0, 0, 0, 0), (4, 1, 3, 0, 0, 0, 0, 0, 0, 0), (4, 2, 4, 0, 0, 0, 0, 0, 0, 0), (48, 3, 270, 118, 0, 1054, 5, 9, 0, 0),
  (7, 2, 5, 0, 0, 0, 0, 0, 0, 0), (4, 2, 5, 0, 0, 0, 0, 0, 0, 0), (22, 3, 23, 0, 0, 0, 0, 0, 0, 0), (6, 1, 0, 0, 0, 0, 0, 0, 0, 0), (4, 2, 5, 0, 0, 0, 0, 0, 0, 0), (48, 3, 123, 31, 0, 643, 2, 9, 0, 0),
  (27, 1, 0, 0, 0, 0, 0, 0, 0, 0)]
def q140_23 : List XO := [(6, 1, 0, 0, 0, 0, 0, 0, 0, 0), (44, 3, 44, 9, 5, 521, 0, 0, 0, 0), (6, 1, 0, 0, 0, 0, 0, 0, 0, 0), (44, 3, 62, 9, 8, 524, 0, 0, 0, 0), (4, 2, 4, 0, 0, 0, 0, 0, 0, 0), (48, 3, 307, 132, 0, 1153, 3, 4, 0, 0),
  (7, 2, 6, 0, 0, 0, 0, 0, 0, 0), (4, 2, 6, 0, 0, 0, 0, 0, 0, 0), (0, 1, 0, 0, 0, 0, 0, 0, (-1), 0), (23, 3, 53, 0, 1, 0, 0, 0, 0, 0), (6, 1, 0, 0, 0, 0, 0, 0, 0, 0), (0, 2, 0, 0, 1, 0, 0, 0, 8, 0),
  (48, 3, 123, 31, 0, 643, 2, 9, 0, 0), (24, 3, 59, 0, 0, 0, 0, 0, 0, 0)]
def q140_53 : List XO := [(6, 1, 0, 0, 0, 0, 0, 0, 0, 0), (4, 2, 6, 0, 0, 0, 0, 0, 0, 0), (48, 3, 146, 83, 0, 878, 2, 9, 0, 0), (24, 0, 59, 0, 1, 0, 0, 0, 0, 0)]
def q140_59 : List XO := [(27, 1, 0, 0, 0, 0, 0, 0, 0, 0)]
def xt140 : List (Nat × List XO) := [(0, q140_0), (23, q140_23), (53, q140_53), (59, q140_59)]
def q141_0 : List XO := [(6, 1, 0, 0, 0, 0, 0, 0, 0, 0), (4, 1, 1, 0, 0, 0, 0, 0, 0, 0), (4, 1, 2, 0, 0, 0, 0, 0, 0, 0), (4, 1, 3, 0, 0, 0, 0, 0, 0, 0), (48, 3, 311, 142, 0, 1158, 4, 9, 0, 0), (7, 2, 4, 0, 0, 0, 0, 0, 0, 0),
  (4, 2, 4, 0, 0, 0, 0, 0, 0, 0), (0, 1, 0, 0, 0, 0, 0, 0, (-1), 0), (23, 3, 19, 0, 1, 0, 0, 0, 0, 0), (0, 1, 0, 0, 0, 0, 0, 0, (-1), 0), (24, 3, 28, 0, 0, 0, 0, 0, 0, 0)]
def q141_19 : List XO := [(6, 1, 0, 0, 0, 0, 0, 0, 0, 0), (4, 2, 4, 0, 0, 0, 0, 0, 0, 0), (48, 3, 258, 78, 1, 1036, 1, 99, 0, 0), (48, 3, 146, 83, 0, 878, 2, 9, 0, 0), (24, 0, 28, 0, 1, 0, 0, 0, 0, 0)]
def q141_28 : List XO := [(27, 1, 0, 0, 0, 0, 0, 0, 0, 0)]
def xt141 : List (Nat × List XO) := [(0, q141_0), (19, q141_19), (28, q141_28)]
def q142_0 : List XO := [(6, 1, 0, 0, 0, 0, 0, 0, 0, 0), (0, 1, 0, 0, 0, 0, 0, 0, 0, 0), (4, 1, 1, 0, 0, 0, 0, 0, 0, 0), (4, 1, 2, 0, 0, 0, 0, 0, 0, 0), (4, 1, 3, 0, 0, 0, 0, 0, 0, 0), (48, 3, 288, 119, 0, 1058, 5, 9, 0, 0),
  (7, 2, 4, 0, 0, 0, 0, 0, 0, 0), (4, 2, 4, 0, 0, 0, 0, 0, 0, 0), (22, 3, 22, 0, 0, 0, 0, 0, 0, 0), (6, 1, 0, 0, 0, 0, 0, 0, 0, 0), (4, 2, 4, 0, 0, 0, 0, 0, 0, 0), (48, 3, 123, 31, 0, 643, 2, 9, 0, 0),
  (27, 1, 0, 0, 0, 0, 0, 0, 0, 0)]
def q142_22 : List XO := [(0, 1, 0, 0, 0, 0, 0, 0, (-1), 0), (7, 2, 5, 0, 0, 0, 0, 0, 0, 0), (0, 2, 0, 0, 1, 0, 0, 0, 7, 0), (7, 2, 6, 0, 0, 0, 0, 0, 0, 0), (0, 1, 0, 0, 0, 0, 0, 0, 0, 0), (7, 2, 7, 0, 0, 0, 0, 0, 0, 0),
  (24, 0, 32, 0, 1, 0, 0, 0, 0, 0)]
def q142_32 : List XO := [(4, 2, 7, 0, 0, 0, 0, 0, 0, 0), (6, 1, 0, 0, 0, 0, 0, 0, 0, 0), (44, 3, 62, 9, 8, 524, 0, 0, 0, 0), (48, 3, 314, 121, 0, 1162, 1, 0, 0, 0), (23, 3, 91, 0, 3, 0, 0, 0, 0, 0), (4, 2, 7, 0, 0, 0, 0, 0, 0, 0),
  (48, 3, 258, 78, 1, 1036, 1, 99, 0, 0), (7, 2, 8, 0, 0, 0, 0, 0, 0, 0), (4, 2, 8, 0, 0, 0, 0, 0, 0, 0), (4, 2, 6, 0, 0, 0, 0, 0, 0, 0), (23, 3, 85, 0, 3, 0, 0, 0, 0, 0), (6, 1, 0, 0, 0, 0, 0, 0, 0, 0),
  (44, 3, 44, 9, 5, 521, 0, 0, 0, 0), (6, 1, 0, 0, 0, 0, 0, 0, 0, 0), (44, 3, 62, 9, 8, 524, 0, 0, 0, 0), (4, 2, 7, 0, 0, 0, 0, 0, 0, 0), (4, 1, 1, 0, 0, 0, 0, 0, 0, 0), (4, 1, 2, 0, 0, 0, 0, 0, 0, 0),
  (4, 1, 3, 0, 0, 0, 0, 0, 0, 0), (48, 3, 317, 143, 0, 1163, 6, 4, 0, 0), (22, 3, 85, 0, 0, 0, 0, 0, 0, 0), (4, 2, 7, 0, 0, 0, 0, 0, 0, 0), (7, 2, 5, 0, 0, 0, 0, 0, 0, 0), (4, 2, 8, 0, 0, 0, 0, 0, 0, 0),
  (7, 2, 6, 0, 0, 0, 0, 0, 0, 0), (24, 0, 85, 0, 1, 0, 0, 0, 0, 0)]
def q142_85 : List XO := [(10, 3, 7, 0, 0, 0, 0, 0, 1, 0), (24, 3, 32, 0, 0, 0, 0, 0, 0, 0)]
def q142_91 : List XO := [(4, 2, 5, 0, 0, 0, 0, 0, 0, 0), (0, 1, 0, 0, 0, 0, 0, 0, (-1), 0), (23, 3, 106, 0, 1, 0, 0, 0, 0, 0), (6, 1, 0, 0, 0, 0, 0, 0, 0, 0), (0, 2, 0, 0, 1, 0, 0, 0, 8, 0), (48, 3, 123, 31, 0, 643, 2, 9, 0, 0),
  (24, 3, 112, 0, 0, 0, 0, 0, 0, 0)]
def q142_106 : List XO := [(6, 1, 0, 0, 0, 0, 0, 0, 0, 0), (4, 2, 5, 0, 0, 0, 0, 0, 0, 0), (48, 3, 146, 83, 0, 878, 2, 9, 0, 0), (24, 0, 112, 0, 1, 0, 0, 0, 0, 0)]
def q142_112 : List XO := [(27, 1, 0, 0, 0, 0, 0, 0, 0, 0)]
def xt142 : List (Nat × List XO) := [(0, q142_0), (22, q142_22), (32, q142_32), (85, q142_85), (91, q142_91), (106, q142_106), (112, q142_112)]
def q143_0 : List XO := [(6, 1, 0, 0, 0, 0, 0, 0, 0, 0), (6, 1, 1, 0, 0, 0, 0, 0, 0, 0), (6, 1, 1, 0, 0, 0, 0, 0, 0, 0), (4, 1, 2, 0, 0, 0, 0, 0, 0, 0), (48, 3, 68, 122, 0, 1167, 2, 0, 0, 0), (4, 1, 3, 0, 0, 0, 0, 0, 0, 0),
  (4, 2, 4, 0, 0, 0, 0, 0, 0, 0), (48, 3, 71, 125, 0, 1168, 5, 4, 0, 0), (22, 3, 31, 0, 0, 0, 0, 0, 0, 0), (6, 1, 0, 0, 0, 0, 0, 0, 0, 0), (6, 1, 1, 0, 0, 0, 0, 0, 0, 0), (4, 2, 5, 0, 0, 0, 0, 0, 0, 0),
  (48, 3, 75, 132, 0, 1112, 3, 4, 0, 0), (0, 1, 0, 0, 0, 0, 0, 0, (-1), 0), (23, 3, 31, 0, 1, 0, 0, 0, 0, 0), (0, 1, 0, 0, 0, 0, 0, 0, 1, 0), (24, 3, 32, 0, 0, 0, 0, 0, 0, 0)]
def q143_31 : List XO := [(0, 1, 0, 0, 0, 0, 0, 0, 0, 0), (24, 0, 32, 0, 1, 0, 0, 0, 0, 0)]
def q143_32 : List XO := [(27, 1, 0, 0, 1, 0, 0, 0, 0, 0)]
def xt143 : List (Nat × List XO) := [(0, q143_0), (31, q143_31), (32, q143_32)]
def q144_0 : List XO := [(6, 1, 0, 0, 0, 0, 0, 0, 0, 0), (4, 1, 1, 0, 0, 0, 0, 0, 0, 0), (4, 1, 2, 0, 0, 0, 0, 0, 0, 0), (4, 1, 3, 0, 0, 0, 0, 0, 0, 0), (48, 3, 311, 142, 0, 1158, 4, 9, 0, 0), (27, 1, 0, 0, 0, 0, 0, 0, 0, 0)]
def xt144 : List (Nat × List XO) := [(0, q144_0)]
def q145_0 : List XO := [(6, 1, 0, 0, 0, 0, 0, 0, 0, 0), (4, 1, 1, 0, 0, 0, 0, 0, 0, 0), (4, 1, 2, 0, 0, 0, 0, 0, 0, 0), (4, 1, 3, 0, 0, 0, 0, 0, 0, 0), (0, 1, 0, 0, 0, 0, 0, 0, 1, 0), (48, 3, 270, 118, 0, 1054, 5, 9, 0, 0),
  (7, 2, 4, 0, 0, 0, 0, 0, 0, 0), (4, 2, 4, 0, 0, 0, 0, 0, 0, 0), (22, 3, 22, 0, 0, 0, 0, 0, 0, 0), (6, 1, 0, 0, 0, 0, 0, 0, 0, 0), (4, 2, 4, 0, 0, 0, 0, 0, 0, 0), (48, 3, 123, 31, 0, 643, 2, 9, 0, 0),
  (27, 1, 0, 0, 0, 0, 0, 0, 0, 0)]
def q145_22 : List XO := [(0, 2, 0, 0, 1, 0, 0, 0, 10, 0), (7, 2, 5, 0, 0, 0, 0, 0, 0, 0), (24, 0, 26, 0, 1, 0, 0, 0, 0, 0)]
def q145_26 : List XO := [(4, 2, 5, 0, 0, 0, 0, 0, 0, 0), (0, 1, 0, 0, 0, 0, 0, 0, 1, 0), (23, 3, 62, 0, 2, 0, 0, 0, 0, 0), (6, 1, 0, 0, 0, 0, 0, 0, 0, 0), (44, 3, 44, 9, 5, 521, 0, 0, 0, 0), (6, 1, 0, 0, 0, 0, 0, 0, 0, 0),
  (44, 3, 62, 9, 8, 524, 0, 0, 0, 0), (4, 2, 5, 0, 0, 0, 0, 0, 0, 0), (48, 3, 307, 132, 0, 1153, 3, 4, 0, 0), (0, 1, 0, 0, 0, 0, 0, 0, (-1), 0), (23, 3, 56, 0, 1, 0, 0, 0, 0, 0), (6, 1, 0, 0, 0, 0, 0, 0, 0, 0),
  (4, 2, 5, 0, 0, 0, 0, 0, 0, 0), (48, 3, 146, 83, 0, 878, 2, 9, 0, 0), (27, 1, 0, 0, 0, 0, 0, 0, 0, 0)]
def q145_56 : List XO := [(10, 3, 5, 0, 0, 0, 0, 0, (-1), 0), (24, 3, 26, 0, 0, 0, 0, 0, 0, 0)]
def q145_62 : List XO := [(6, 1, 0, 0, 0, 0, 0, 0, 0, 0), (0, 2, 0, 0, 1, 0, 0, 0, 8, 0), (48, 3, 123, 31, 0, 643, 2, 9, 0, 0), (27, 1, 0, 0, 0, 0, 0, 0, 0, 0)]
def xt145 : List (Nat × List XO) := [(0, q145_0), (22, q145_22), (26, q145_26), (56, q145_56), (62, q145_62)]
def q146_0 : List XO := [(6, 1, 0, 0, 0, 0, 0, 0, 0, 0), (44, 3, 62, 9, 8, 524, 0, 0, 0, 0), (4, 1, 1, 0, 0, 0, 0, 0, 0, 0), (48, 3, 214, 72, 0, 990, 2, 0, 0, 0), (22, 3, 17, 0, 1, 0, 0, 0, 0, 0), (6, 1, 0, 0, 0, 0, 0, 0, 0, 0),
  (0, 1, 0, 0, 0, 0, 0, 0, 2, 0), (48, 3, 123, 31, 0, 643, 2, 9, 0, 0), (27, 1, 0, 0, 0, 0, 0, 0, 0, 0)]
def q146_17 : List XO := [(6, 1, 0, 0, 0, 0, 0, 0, 0, 0), (44, 3, 62, 9, 8, 524, 0, 0, 0, 0), (44, 3, 235, 0, 12, 457, 0, 0, 0, 0), (4, 1, 1, 0, 0, 0, 0, 0, 0, 0), (33, 1, 0, 0, 0, 0, 0, 0, 0, 0), (6, 1, 0, 0, 0, 0, 0, 0, 0, 0),
  (44, 3, 62, 9, 8, 524, 0, 0, 0, 0), (48, 3, 194, 99, 0, 969, 1, 0, 0, 0), (11, 1, 0, 0, 3, 0, 0, 0, 0, 0), (7, 1, 2, 0, 0, 0, 0, 0, 0, 0), (6, 1, 0, 0, 0, 0, 0, 0, 0, 0), (44, 3, 62, 9, 8, 524, 0, 0, 0, 0),
  (44, 3, 226, 0, 13, 461, 0, 0, 0, 0), (4, 1, 1, 0, 0, 0, 0, 0, 0, 0), (33, 1, 0, 0, 0, 0, 0, 0, 0, 0), (7, 1, 3, 0, 0, 0, 0, 0, 0, 0), (24, 0, 45, 0, 1, 0, 0, 0, 0, 0)]
def q146_45 : List XO := [(4, 1, 3, 0, 0, 0, 0, 0, 0, 0), (0, 2, 0, 0, 1, 0, 0, 0, 9, 0), (23, 3, 88, 0, 4, 0, 0, 0, 0, 0), (4, 1, 2, 0, 0, 0, 0, 0, 0, 0), (6, 1, 0, 0, 0, 0, 0, 0, 0, 0), (44, 3, 62, 9, 8, 524, 0, 0, 0, 0),
  (4, 1, 3, 0, 0, 0, 0, 0, 0, 0), (48, 3, 321, 106, 0, 1181, 2, 0, 0, 0), (0, 1, 0, 0, 0, 0, 0, 0, (-1), 0), (11, 1, 0, 0, 5, 0, 0, 0, 0, 0), (11, 1, 0, 0, 3, 0, 0, 0, 0, 0), (22, 3, 82, 0, 1, 0, 0, 0, 0, 0),
  (6, 1, 0, 0, 0, 0, 0, 0, 0, 0), (4, 1, 3, 0, 0, 0, 0, 0, 0, 0), (6, 1, 0, 0, 0, 0, 0, 0, 0, 0), (44, 3, 62, 9, 8, 524, 0, 0, 0, 0), (44, 3, 226, 0, 13, 461, 0, 0, 0, 0), (4, 1, 1, 0, 0, 0, 0, 0, 0, 0),
  (33, 1, 0, 0, 0, 0, 0, 0, 0, 0), (11, 1, 0, 0, 1, 0, 0, 0, 0, 0), (48, 3, 146, 83, 0, 878, 2, 9, 0, 0), (27, 1, 0, 0, 0, 0, 0, 0, 0, 0)]
def q146_82 : List XO := [(10, 3, 3, 0, 0, 0, 0, 0, 1, 0), (24, 3, 45, 0, 0, 0, 0, 0, 0, 0)]
def q146_88 : List XO := [(6, 1, 0, 0, 0, 0, 0, 0, 0, 0), (0, 2, 0, 0, 1, 0, 0, 0, 9, 0), (48, 3, 123, 31, 0, 643, 2, 9, 0, 0), (27, 1, 0, 0, 0, 0, 0, 0, 0, 0)]
def xt146 : List (Nat × List XO) := [(0, q146_0), (17, q146_17), (45, q146_45), (82, q146_82), (88, q146_88)]
def q147_0 : List XO := [(6, 1, 0, 0, 0, 0, 0, 0, 0, 0), (44, 3, 62, 9, 8, 524, 0, 0, 0, 0), (4, 1, 1, 0, 0, 0, 0, 0, 0, 0), (48, 3, 214, 72, 0, 990, 2, 0, 0, 0), (22, 3, 17, 0, 1, 0, 0, 0, 0, 0), (6, 1, 0, 0, 0, 0, 0, 0, 0, 0),
  (0, 1, 0, 0, 0, 0, 0, 0, 2, 0), (48, 3, 123, 31, 0, 643, 2, 9, 0, 0), (27, 1, 0, 0, 0, 0, 0, 0, 0, 0)]
def q147_17 : List XO := [(6, 1, 0, 0, 0, 0, 0, 0, 0, 0), (6, 1, 0, 0, 0, 0, 0, 0, 0, 0), (44, 3, 62, 9, 8, 524, 0, 0, 0, 0), (44, 3, 232, 0, 14, 464, 0, 0, 0, 0), (4, 1, 1, 0, 0, 0, 0, 0, 0, 0), (33, 1, 0, 0, 0, 0, 0, 0, 0, 0),
  (6, 1, 0, 0, 0, 0, 0, 0, 0, 0), (44, 3, 62, 9, 8, 524, 0, 0, 0, 0), (48, 3, 194, 99, 0, 969, 1, 0, 0, 0), (0, 1, 0, 0, 0, 0, 0, 0, (-1), 0), (11, 1, 0, 0, 5, 0, 0, 0, 0, 0), (11, 1, 0, 0, 3, 0, 0, 0, 0, 0),
  (48, 3, 258, 78, 1, 1036, 1, 99, 0, 0), (48, 3, 146, 83, 0, 878, 2, 9, 0, 0), (27, 1, 0, 0, 0, 0, 0, 0, 0, 0)]
def xt147 : List (Nat × List XO) := [(0, q147_0), (17, q147_17)]
def q148_0 : List XO := [(6, 1, 0, 0, 0, 0, 0, 0, 0, 0), (44, 3, 62, 9, 8, 524, 0, 0, 0, 0), (4, 1, 1, 0, 0, 0, 0, 0, 0, 0), (48, 3, 214, 72, 0, 990, 2, 0, 0, 0), (22, 3, 22, 0, 0, 0, 0, 0, 0, 0), (6, 1, 0, 0, 0, 0, 0, 0, 0, 0),
  (44, 3, 62, 9, 8, 524, 0, 0, 0, 0), (4, 1, 2, 0, 0, 0, 0, 0, 0, 0), (48, 3, 214, 72, 0, 990, 2, 0, 0, 0), (22, 3, 28, 0, 1, 0, 0, 0, 0, 0), (24, 0, 22, 0, 1, 0, 0, 0, 0, 0)]
def q148_22 : List XO := [(6, 1, 0, 0, 0, 0, 0, 0, 0, 0), (0, 1, 0, 0, 0, 0, 0, 0, 2, 0), (48, 3, 123, 31, 0, 643, 2, 9, 0, 0), (27, 1, 0, 0, 0, 0, 0, 0, 0, 0)]
def q148_28 : List XO := [(4, 1, 1, 0, 0, 0, 0, 0, 0, 0), (4, 1, 2, 0, 0, 0, 0, 0, 0, 0), (23, 3, 39, 0, 1, 0, 0, 0, 0, 0), (6, 1, 0, 0, 0, 0, 0, 0, 0, 0), (0, 1, 0, 0, 0, 0, 0, 0, 5, 0), (48, 3, 123, 31, 0, 643, 2, 9, 0, 0),
  (27, 1, 0, 0, 0, 0, 0, 0, 0, 0)]
def q148_39 : List XO := [(6, 1, 0, 0, 0, 0, 0, 0, 0, 0), (44, 3, 62, 9, 8, 524, 0, 0, 0, 0), (44, 3, 235, 0, 12, 457, 0, 0, 0, 0), (4, 1, 1, 0, 0, 0, 0, 0, 0, 0), (33, 1, 0, 0, 0, 0, 0, 0, 0, 0), (6, 1, 0, 0, 0, 0, 0, 0, 0, 0),
  (44, 3, 62, 9, 8, 524, 0, 0, 0, 0), (44, 3, 235, 0, 12, 457, 0, 0, 0, 0), (4, 1, 2, 0, 0, 0, 0, 0, 0, 0), (33, 1, 0, 0, 0, 0, 0, 0, 0, 0), (11, 1, 0, 0, 3, 0, 0, 0, 0, 0), (7, 1, 3, 0, 0, 0, 0, 0, 0, 0),
  (6, 1, 0, 0, 0, 0, 0, 0, 0, 0), (6, 1, 0, 0, 0, 0, 0, 0, 0, 0), (44, 3, 62, 9, 8, 524, 0, 0, 0, 0), (4, 1, 1, 0, 0, 0, 0, 0, 0, 0), (48, 3, 238, 105, 0, 996, 2, 0, 0, 0), (6, 1, 0, 0, 0, 0, 0, 0, 0, 0),
  (44, 3, 62, 9, 8, 524, 0, 0, 0, 0), (4, 1, 2, 0, 0, 0, 0, 0, 0, 0), (48, 3, 238, 105, 0, 996, 2, 0, 0, 0), (11, 1, 0, 0, 5, 0, 0, 0, 0, 0), (4, 1, 3, 0, 0, 0, 0, 0, 0, 0), (11, 1, 0, 0, 3, 0, 0, 0, 0, 0),
  (48, 3, 146, 83, 0, 878, 2, 9, 0, 0), (27, 1, 0, 0, 0, 0, 0, 0, 0, 0)]
def xt148 : List (Nat × List XO) := [(0, q148_0), (22, q148_22), (28, q148_28), (39, q148_39)]
def q149_0 : List XO := [(6, 1, 0, 0, 0, 0, 0, 0, 0, 0), (48, 3, 324, 150, 0, 1194, 1, 9, 0, 0), (7, 1, 1, 0, 0, 0, 0, 0, 0, 0), (4, 1, 1, 0, 0, 0, 0, 0, 0, 0), (0, 1, 0, 0, 0, 0, 0, 0, (-1), 0), (23, 3, 14, 0, 1, 0, 0, 0, 0, 0),
  (0, 1, 0, 0, 0, 0, 0, 0, (-1), 0), (24, 3, 22, 0, 0, 0, 0, 0, 0, 0)]
def q149_14 : List XO := [(6, 1, 0, 0, 0, 0, 0, 0, 0, 0), (4, 1, 1, 0, 0, 0, 0, 0, 0, 0), (48, 3, 258, 78, 1, 1036, 1, 99, 0, 0), (48, 3, 146, 83, 0, 878, 2, 9, 0, 0), (24, 0, 22, 0, 1, 0, 0, 0, 0, 0)]
def q149_22 : List XO := [(27, 1, 0, 0, 0, 0, 0, 0, 0, 0)]
def xt149 : List (Nat × List XO) := [(0, q149_0), (14, q149_14), (22, q149_22)]
def q150_0 : List XO := [(0, 1, 0, 0, 0, 0, 0, 0, (-1), 0), (7, 1, 1, 0, 0, 0, 0, 0, 0, 0), (0, 2, 0, 0, 1, 0, 0, 0, 7, 0), (7, 1, 2, 0, 0, 0, 0, 0, 0, 0), (0, 1, 0, 0, 0, 0, 0, 0, 0, 0), (7, 1, 3, 0, 0, 0, 0, 0, 0, 0),
  (24, 0, 7, 0, 1, 0, 0, 0, 0, 0)]
def q150_7 : List XO := [(4, 1, 3, 0, 0, 0, 0, 0, 0, 0), (6, 1, 0, 0, 0, 0, 0, 0, 0, 0), (44, 3, 62, 9, 8, 524, 0, 0, 0, 0), (48, 3, 314, 121, 0, 1162, 1, 0, 0, 0), (23, 3, 62, 0, 3, 0, 0, 0, 0, 0), (4, 1, 3, 0, 0, 0, 0, 0, 0, 0),
  (48, 3, 258, 78, 1, 1036, 1, 99, 0, 0), (7, 2, 4, 0, 0, 0, 0, 0, 0, 0), (4, 2, 4, 0, 0, 0, 0, 0, 0, 0), (4, 1, 2, 0, 0, 0, 0, 0, 0, 0), (23, 3, 56, 0, 3, 0, 0, 0, 0, 0), (6, 1, 0, 0, 0, 0, 0, 0, 0, 0),
  (44, 3, 62, 9, 8, 524, 0, 0, 0, 0), (48, 3, 194, 99, 0, 969, 1, 0, 0, 0), (6, 1, 0, 0, 0, 0, 0, 0, 0, 0), (44, 3, 62, 9, 8, 524, 0, 0, 0, 0), (4, 1, 3, 0, 0, 0, 0, 0, 0, 0), (48, 3, 327, 124, 0, 1198, 2, 0, 0, 0),
  (0, 1, 0, 0, 0, 0, 0, 0, (-1), 0), (11, 1, 0, 0, 5, 0, 0, 0, 0, 0), (11, 1, 0, 0, 3, 0, 0, 0, 0, 0), (22, 3, 56, 0, 1, 0, 0, 0, 0, 0), (4, 1, 3, 0, 0, 0, 0, 0, 0, 0), (7, 1, 1, 0, 0, 0, 0, 0, 0, 0),
  (4, 2, 4, 0, 0, 0, 0, 0, 0, 0), (7, 1, 2, 0, 0, 0, 0, 0, 0, 0), (24, 0, 56, 0, 1, 0, 0, 0, 0, 0)]
def q150_56 : List XO := [(10, 3, 3, 0, 0, 0, 0, 0, 1, 0), (24, 3, 7, 0, 0, 0, 0, 0, 0, 0)]
def q150_62 : List XO := [(4, 1, 1, 0, 0, 0, 0, 0, 0, 0), (0, 1, 0, 0, 0, 0, 0, 0, (-1), 0), (23, 3, 76, 0, 1, 0, 0, 0, 0, 0), (6, 1, 0, 0, 0, 0, 0, 0, 0, 0), (0, 2, 0, 0, 1, 0, 0, 0, 8, 0), (48, 3, 123, 31, 0, 643, 2, 9, 0, 0),
  (24, 3, 81, 0, 0, 0, 0, 0, 0, 0)]
def q150_76 : List XO := [(6, 1, 0, 0, 0, 0, 0, 0, 0, 0), (4, 1, 1, 0, 0, 0, 0, 0, 0, 0), (48, 3, 146, 83, 0, 878, 2, 9, 0, 0), (24, 0, 81, 0, 1, 0, 0, 0, 0, 0)]
def q150_81 : List XO := [(27, 1, 0, 0, 0, 0, 0, 0, 0, 0)]
def xt150 : List (Nat × List XO) := [(0, q150_0), (7, q150_7), (56, q150_56), (62, q150_62), (76, q150_76), (81, q150_81)]
def q151_0 : List XO := [(6, 1, 0, 0, 0, 0, 0, 0, 0, 0), (48, 3, 324, 150, 0, 1194, 1, 9, 0, 0), (27, 1, 0, 0, 0, 0, 0, 0, 0, 0)]
def xt151 : List (Nat × List XO) := [(0, q151_0)]
def q152_0 : List XO := [(6, 1, 0, 0, 0, 0, 0, 0, 0, 0), (4, 1, 1, 0, 0, 0, 0, 0, 0, 0), (4, 1, 2, 0, 0, 0, 0, 0, 0, 0), (4, 1, 3, 0, 0, 0, 0, 0, 0, 0), (4, 2, 4, 0, 0, 0, 0, 0, 0, 0), (48, 3, 330, 153, 0, 1207, 5, 9, 0, 0),
  (7, 2, 5, 0, 0, 0, 0, 0, 0, 0), (4, 2, 5, 0, 0, 0, 0, 0, 0, 0), (22, 3, 23, 0, 0, 0, 0, 0, 0, 0), (6, 1, 0, 0, 0, 0, 0, 0, 0, 0), (4, 2, 5, 0, 0, 0, 0, 0, 0, 0), (48, 3, 123, 31, 0, 643, 2, 9, 0, 0),
  (27, 1, 0, 0, 0, 0, 0, 0, 0, 0)]
def q152_23 : List XO := [(6, 1, 0, 0, 0, 0, 0, 0, 0, 0), (6, 1, 0, 0, 0, 0, 0, 0, 0, 0), (44, 3, 62, 9, 8, 524, 0, 0, 0, 0), (6, 1, 0, 0, 0, 0, 0, 0, 0, 0), (44, 3, 19, 9, 1, 517, 0, 0, 0, 0), (4, 1, 1, 0, 0, 0, 0, 0, 0, 0),
  (4, 1, 2, 0, 0, 0, 0, 0, 0, 0), (48, 3, 333, 155, 0, 1214, 3, 6, 0, 0), (4, 1, 3, 0, 0, 0, 0, 0, 0, 0), (4, 2, 4, 0, 0, 0, 0, 0, 0, 0), (48, 3, 336, 156, 0, 1218, 4, 0, 0, 0), (48, 3, 258, 78, 1, 1036, 1, 99, 0, 0),
  (48, 3, 146, 83, 0, 878, 2, 9, 0, 0), (27, 1, 0, 0, 0, 0, 0, 0, 0, 0)]
def xt152 : List (Nat × List XO) := [(0, q152_0), (23, q152_23)]
def q153_0 : List XO := [(6, 1, 0, 0, 0, 0, 0, 0, 0, 0), (44, 3, 19, 9, 1, 517, 0, 0, 0, 0), (4, 1, 1, 0, 0, 0, 0, 0, 0, 0), (4, 1, 2, 0, 0, 0, 0, 0, 0, 0), (48, 3, 241, 23, 0, 1008, 3, 6, 0, 0), (7, 2, 5, 0, 0, 0, 0, 0, 0, 0),
  (4, 2, 5, 0, 0, 0, 0, 0, 0, 0), (22, 3, 19, 0, 0, 0, 0, 0, 0, 0), (4, 2, 5, 0, 0, 0, 0, 0, 0, 0), (27, 1, 0, 0, 0, 0, 0, 0, 0, 0)]
def q153_19 : List XO := [(4, 1, 2, 0, 0, 0, 0, 0, 0, 0), (0, 1, 0, 0, 0, 0, 0, 0, 0, 0), (0, 2, 0, 0, 1, 0, 0, 0, 20, 0), (48, 3, 198, 101, 1, 977, 3, 9, 0, 0), (22, 3, 38, 0, 0, 0, 0, 0, 0, 0), (4, 1, 3, 0, 0, 0, 0, 0, 0, 0),
  (4, 2, 4, 0, 0, 0, 0, 0, 0, 0), (48, 3, 339, 154, 1, 1211, 2, 9, 0, 0), (22, 3, 40, 0, 1, 0, 0, 0, 0, 0), (24, 0, 38, 0, 1, 0, 0, 0, 0, 0)]
def q153_38 : List XO := [(0, 1, 0, 0, 0, 0, 0, 0, 5, 0), (27, 1, 0, 0, 0, 0, 0, 0, 0, 0)]
def q153_40 : List XO := [(0, 1, 0, 0, 0, 0, 0, 0, 0, 0), (7, 2, 6, 0, 0, 0, 0, 0, 0, 0), (24, 0, 43, 0, 1, 0, 0, 0, 0, 0)]
def q153_43 : List XO := [(4, 2, 6, 0, 0, 0, 0, 0, 0, 0), (4, 1, 2, 0, 0, 0, 0, 0, 0, 0), (23, 3, 89, 0, 3, 0, 0, 0, 0, 0), (6, 1, 0, 0, 0, 0, 0, 0, 0, 0), (44, 3, 19, 9, 1, 517, 0, 0, 0, 0), (44, 3, 106, 6, 0, 195, 0, 0, 0, 0),
  (4, 1, 1, 0, 0, 0, 0, 0, 0, 0), (39, 1, 0, 0, 0, 0, 0, 0, 0, 0), (4, 2, 6, 0, 0, 0, 0, 0, 0, 0), (35, 1, 0, 0, 0, 0, 0, 0, 0, 0), (8, 2, 7, 0, 0, 0, 0, 0, 0, 0), (5, 2, 7, 0, 0, 0, 0, 0, 0, 0),
  (1, 1, 0, 0, 0, 0, 0, 0, 0, 0), (18, 1, 0, 0, 0, 0, 0, 0, 0, 0), (22, 3, 81, 0, 2, 0, 0, 0, 0, 0), (5, 2, 7, 0, 0, 0, 0, 0, 0, 0), (4, 1, 3, 0, 0, 0, 0, 0, 0, 0), (4, 2, 4, 0, 0, 0, 0, 0, 0, 0),
  (11, 1, 0, 0, 2, 0, 0, 0, 0, 0), (17, 1, 0, 0, 0, 0, 0, 0, 0, 0), (18, 1, 0, 0, 0, 0, 0, 0, 0, 0), (22, 3, 83, 0, 2, 0, 0, 0, 0, 0), (24, 0, 81, 0, 1, 0, 0, 0, 0, 0)]
def q153_81 : List XO := [(0, 1, 0, 0, 0, 0, 0, 0, 5, 0), (27, 1, 0, 0, 0, 0, 0, 0, 0, 0)]
def q153_83 : List XO := [(10, 3, 6, 0, 0, 0, 0, 0, 1, 0), (24, 3, 43, 0, 0, 0, 0, 0, 0, 0)]
def q153_89 : List XO := [(0, 1, 0, 0, 0, 0, 0, 0, 0, 0), (27, 1, 0, 0, 0, 0, 0, 0, 0, 0)]
def xt153 : List (Nat × List XO) := [(0, q153_0), (19, q153_19), (38, q153_38), (40, q153_40), (43, q153_43), (81, q153_81), (83, q153_83), (89, q153_89)]
def q154_0 : List XO := [(4, 1, 0, 0, 0, 0, 0, 0, 0, 0), (0, 1, 0, 0, 0, 0, 0, 0, 1, 0), (0, 2, 0, 0, 1, 0, 0, 0, 6, 0), (48, 3, 198, 101, 1, 977, 3, 9, 0, 0), (22, 3, 23, 0, 0, 0, 0, 0, 0, 0), (4, 1, 1, 0, 0, 0, 0, 0, 0, 0),
  (0, 1, 0, 0, 0, 0, 0, 0, 1, 0), (0, 1, 0, 0, 0, 0, 0, 0, 5, 0), (48, 3, 198, 101, 1, 977, 3, 9, 0, 0), (22, 3, 23, 0, 0, 0, 0, 0, 0, 0), (0, 1, 0, 0, 0, 0, 0, 0, 1, 0), (24, 3, 24, 0, 0, 0, 0, 0, 0, 0)]
def q154_23 : List XO := [(0, 1, 0, 0, 0, 0, 0, 0, 0, 0), (24, 0, 24, 0, 1, 0, 0, 0, 0, 0)]
def q154_24 : List XO := [(27, 1, 0, 0, 1, 0, 0, 0, 0, 0)]
def xt154 : List (Nat × List XO) := [(0, q154_0), (23, q154_23), (24, q154_24)]
def q155_0 : List XO := [(0, 1, 0, 0, 0, 0, 0, 0, 0, 0), (7, 1, 3, 0, 0, 0, 0, 0, 0, 0), (0, 1, 0, 0, 0, 0, 0, 0, 0, 0), (7, 2, 4, 0, 0, 0, 0, 0, 0, 0), (24, 0, 5, 0, 1, 0, 0, 0, 0, 0)]
def q155_5 : List XO := [(4, 2, 4, 0, 0, 0, 0, 0, 0, 0), (4, 1, 2, 0, 0, 0, 0, 0, 0, 0), (23, 3, 46, 0, 3, 0, 0, 0, 0, 0), (4, 2, 4, 0, 0, 0, 0, 0, 0, 0), (0, 2, 0, 0, 1, 0, 0, 0, 60, 0), (23, 3, 46, 0, 3, 0, 0, 0, 0, 0),
  (4, 1, 1, 0, 0, 0, 0, 0, 0, 0), (48, 3, 23, 18, 1, 588, 1, 6, 0, 0), (22, 3, 46, 0, 0, 0, 0, 0, 0, 0), (4, 1, 3, 0, 0, 0, 0, 0, 0, 0), (0, 1, 0, 0, 0, 0, 0, 0, 1, 0), (6, 1, 0, 0, 0, 0, 0, 0, 0, 0),
  (44, 3, 11, 6, 0, 194, 0, 0, 0, 0), (4, 1, 1, 0, 0, 0, 0, 0, 0, 0), (39, 1, 0, 0, 0, 0, 0, 0, 0, 0), (4, 2, 4, 0, 0, 0, 0, 0, 0, 0), (35, 1, 0, 0, 0, 0, 0, 0, 0, 0), (17, 1, 0, 0, 1, 0, 0, 0, 0, 0),
  (11, 1, 0, 0, 6, 0, 0, 0, 0, 0), (11, 1, 0, 0, 4, 0, 0, 0, 0, 0), (7, 1, 3, 0, 0, 0, 0, 0, 0, 0), (10, 3, 4, 0, 0, 0, 0, 0, 1, 0), (24, 3, 5, 0, 0, 0, 0, 0, 0, 0)]
def q155_46 : List XO := [(4, 1, 3, 0, 0, 0, 0, 0, 0, 0), (27, 1, 0, 0, 0, 0, 0, 0, 0, 0)]
def xt155 : List (Nat × List XO) := [(0, q155_0), (5, q155_5), (46, q155_46)]
def q156_0 : List XO := [(6, 1, 0, 0, 0, 0, 0, 0, 0, 0), (4, 1, 2, 0, 0, 0, 0, 0, 0, 0), (4, 1, 3, 0, 0, 0, 0, 0, 0, 0), (48, 3, 121, 157, 0, 1222, 3, 0, 0, 0), (7, 2, 4, 0, 0, 0, 0, 0, 0, 0), (0, 1, 0, 0, 0, 0, 0, 0, 0, 0),
  (7, 2, 5, 0, 0, 0, 0, 0, 0, 0), (24, 0, 11, 0, 1, 0, 0, 0, 0, 0)]
def q156_11 : List XO := [(4, 2, 5, 0, 0, 0, 0, 0, 0, 0), (4, 1, 2, 0, 0, 0, 0, 0, 0, 0), (4, 1, 3, 0, 0, 0, 0, 0, 0, 0), (11, 1, 0, 0, 2, 0, 0, 0, 0, 0), (23, 3, 57, 0, 3, 0, 0, 0, 0, 0), (6, 1, 0, 0, 0, 0, 0, 0, 0, 0),
  (4, 2, 5, 0, 0, 0, 0, 0, 0, 0), (4, 1, 2, 0, 0, 0, 0, 0, 0, 0), (48, 3, 124, 158, 0, 1227, 3, 0, 0, 0), (7, 2, 6, 0, 0, 0, 0, 0, 0, 0), (4, 2, 4, 0, 0, 0, 0, 0, 0, 0), (4, 1, 1, 0, 0, 0, 0, 0, 0, 0),
  (4, 2, 5, 0, 0, 0, 0, 0, 0, 0), (11, 1, 0, 0, 7, 0, 0, 0, 0, 0), (0, 1, 0, 0, 0, 0, 0, 0, 1, 0), (11, 1, 0, 0, 3, 0, 0, 0, 0, 0), (22, 3, 44, 0, 0, 0, 0, 0, 0, 0), (4, 2, 6, 0, 0, 0, 0, 0, 0, 0),
  (24, 3, 48, 0, 0, 0, 0, 0, 0, 0)]
def q156_44 : List XO := [(4, 2, 6, 0, 0, 0, 0, 0, 0, 0), (0, 1, 0, 0, 0, 0, 0, 0, (-1), 0), (11, 1, 0, 0, 5, 0, 0, 0, 0, 0), (24, 0, 48, 0, 1, 0, 0, 0, 0, 0)]
def q156_48 : List XO := [(11, 1, 0, 0, 3, 0, 0, 0, 0, 0), (7, 2, 4, 0, 0, 0, 0, 0, 0, 0), (10, 3, 5, 0, 0, 0, 0, 0, 1, 0), (24, 3, 11, 0, 0, 0, 0, 0, 0, 0)]
def q156_57 : List XO := [(4, 2, 4, 0, 0, 0, 0, 0, 0, 0), (27, 1, 0, 0, 0, 0, 0, 0, 0, 0)]
def xt156 : List (Nat × List XO) := [(0, q156_0), (11, q156_11), (44, q156_44), (48, q156_48), (57, q156_57)]
def q157_0 : List XO := [(0, 1, 0, 0, 0, 0, 0, 0, 0, 0), (7, 1, 3, 0, 0, 0, 0, 0, 0, 0), (0, 1, 0, 0, 0, 0, 0, 0, 0, 0), (7, 2, 4, 0, 0, 0, 0, 0, 0, 0), (24, 0, 5, 0, 1, 0, 0, 0, 0, 0)]
def q157_5 : List XO := [(4, 2, 4, 0, 0, 0, 0, 0, 0, 0), (6, 1, 0, 0, 0, 0, 0, 0, 0, 0), (42, 3, 53, 0, 0, 422, 0, 0, 0, 0), (6, 1, 0, 0, 0, 0, 0, 0, 0, 0), (42, 3, 57, 0, 1, 427, 0, 0, 0, 0), (11, 1, 0, 0, 2, 0, 0, 0, 0, 0),
  (23, 3, 43, 0, 3, 0, 0, 0, 0, 0), (6, 1, 0, 0, 0, 0, 0, 0, 0, 0), (4, 2, 4, 0, 0, 0, 0, 0, 0, 0), (4, 1, 1, 0, 0, 0, 0, 0, 0, 0), (4, 1, 2, 0, 0, 0, 0, 0, 0, 0), (48, 3, 114, 134, 0, 1226, 4, 0, 0, 0),
  (22, 3, 37, 0, 0, 0, 0, 0, 0, 0), (4, 1, 3, 0, 0, 0, 0, 0, 0, 0), (0, 1, 0, 0, 0, 0, 0, 0, 1, 0), (4, 2, 4, 0, 0, 0, 0, 0, 0, 0), (11, 1, 0, 0, 6, 0, 0, 0, 0, 0), (11, 1, 0, 0, 4, 0, 0, 0, 0, 0),
  (7, 1, 3, 0, 0, 0, 0, 0, 0, 0), (24, 0, 37, 0, 1, 0, 0, 0, 0, 0)]
def q157_37 : List XO := [(10, 3, 4, 0, 0, 0, 0, 0, 1, 0), (24, 3, 5, 0, 0, 0, 0, 0, 0, 0)]
def q157_43 : List XO := [(4, 1, 3, 0, 0, 0, 0, 0, 0, 0), (27, 1, 0, 0, 0, 0, 0, 0, 0, 0)]
def xt157 : List (Nat × List XO) := [(0, q157_0), (5, q157_5), (37, q157_37), (43, q157_43)]
def q158_0 : List XO := [(4, 1, 2, 0, 0, 0, 0, 0, 0, 0), (0, 1, 0, 0, 0, 0, 0, 0, 1, 0), (23, 3, 7, 0, 3, 0, 0, 0, 0, 0), (0, 1, 0, 0, 0, 0, 0, 0, 0, 0), (27, 1, 0, 0, 0, 0, 0, 0, 0, 0)]
def q158_7 : List XO := [(6, 1, 0, 0, 0, 0, 0, 0, 0, 0), (48, 3, 118, 99, 0, 1231, 1, 0, 0, 0), (4, 1, 1, 0, 0, 0, 0, 0, 0, 0), (4, 1, 2, 0, 0, 0, 0, 0, 0, 0), (12, 1, 0, 0, 0, 0, 0, 0, 0, 0), (6, 1, 0, 0, 0, 0, 0, 0, 0, 0),
  (42, 3, 53, 0, 0, 422, 0, 0, 0, 0), (11, 1, 0, 0, 2, 0, 0, 0, 0, 0), (4, 1, 1, 0, 0, 0, 0, 0, 0, 0), (4, 1, 2, 0, 0, 0, 0, 0, 0, 0), (12, 1, 0, 0, 1, 0, 0, 0, 0, 0), (11, 1, 0, 0, 0, 0, 0, 0, 0, 0),
  (11, 1, 0, 0, 7, 0, 0, 0, 0, 0), (27, 1, 0, 0, 0, 0, 0, 0, 0, 0)]
def xt158 : List (Nat × List XO) := [(0, q158_0), (7, q158_7)]
def q159_0 : List XO := [(6, 1, 0, 0, 0, 0, 0, 0, 0, 0), (4, 1, 1, 0, 0, 0, 0, 0, 0, 0), (4, 1, 2, 0, 0, 0, 0, 0, 0, 0), (4, 1, 3, 0, 0, 0, 0, 0, 0, 0), (4, 2, 4, 0, 0, 0, 0, 0, 0, 0), (48, 3, 330, 153, 0, 1207, 5, 9, 0, 0),
  (7, 2, 6, 0, 0, 0, 0, 0, 0, 0), (4, 2, 6, 0, 0, 0, 0, 0, 0, 0), (22, 3, 23, 0, 0, 0, 0, 0, 0, 0), (6, 1, 0, 0, 0, 0, 0, 0, 0, 0), (4, 2, 6, 0, 0, 0, 0, 0, 0, 0), (48, 3, 123, 31, 0, 643, 2, 9, 0, 0),
  (27, 1, 0, 0, 0, 0, 0, 0, 0, 0)]
def q159_23 : List XO := [(6, 1, 0, 0, 0, 0, 0, 0, 0, 0), (44, 3, 62, 9, 8, 524, 0, 0, 0, 0), (6, 1, 0, 0, 0, 0, 0, 0, 0, 0), (44, 3, 19, 9, 1, 517, 0, 0, 0, 0), (4, 1, 1, 0, 0, 0, 0, 0, 0, 0), (4, 1, 2, 0, 0, 0, 0, 0, 0, 0),
  (48, 3, 333, 155, 0, 1214, 3, 6, 0, 0), (4, 1, 3, 0, 0, 0, 0, 0, 0, 0), (4, 2, 4, 0, 0, 0, 0, 0, 0, 0), (48, 3, 336, 156, 0, 1218, 4, 0, 0, 0), (7, 2, 7, 0, 0, 0, 0, 0, 0, 0), (0, 1, 0, 0, 0, 0, 0, 0, 0, 0),
  (7, 2, 8, 0, 0, 0, 0, 0, 0, 0), (0, 1, 0, 0, 0, 0, 0, 0, 0, 0), (7, 2, 9, 0, 0, 0, 0, 0, 0, 0), (24, 0, 50, 0, 1, 0, 0, 0, 0, 0)]
def q159_50 : List XO := [(4, 2, 9, 0, 0, 0, 0, 0, 0, 0), (0, 2, 0, 0, 1, 0, 0, 0, 30, 0), (23, 3, 90, 0, 3, 0, 0, 0, 0, 0), (4, 2, 7, 0, 0, 0, 0, 0, 0, 0), (4, 2, 9, 0, 0, 0, 0, 0, 0, 0), (11, 1, 0, 0, 7, 0, 0, 0, 0, 0),
  (0, 1, 0, 0, 0, 0, 0, 0, 1, 0), (11, 1, 0, 0, 3, 0, 0, 0, 0, 0), (22, 3, 84, 0, 0, 0, 0, 0, 0, 0), (4, 2, 8, 0, 0, 0, 0, 0, 0, 0), (4, 2, 5, 0, 0, 0, 0, 0, 0, 0), (23, 3, 81, 0, 1, 0, 0, 0, 0, 0),
  (6, 1, 0, 0, 0, 0, 0, 0, 0, 0), (4, 2, 9, 0, 0, 0, 0, 0, 0, 0), (48, 3, 146, 83, 0, 878, 2, 9, 0, 0), (27, 1, 0, 0, 0, 0, 0, 0, 0, 0)]
def q159_81 : List XO := [(10, 3, 8, 0, 0, 0, 0, 0, 1, 0), (24, 0, 84, 0, 1, 0, 0, 0, 0, 0)]
def q159_84 : List XO := [(10, 3, 9, 0, 0, 0, 0, 0, 1, 0), (24, 3, 50, 0, 0, 0, 0, 0, 0, 0)]
def q159_90 : List XO := [(6, 1, 0, 0, 0, 0, 0, 0, 0, 0), (0, 2, 0, 0, 1, 0, 0, 0, 8, 0), (48, 3, 123, 31, 0, 643, 2, 9, 0, 0), (27, 1, 0, 0, 0, 0, 0, 0, 0, 0)]
def xt159 : List (Nat × List XO) := [(0, q159_0), (23, q159_23), (50, q159_50), (81, q159_81), (84, q159_84), (90, q159_90)]
def q160_0 : List XO := [(4, 1, 1, 0, 0, 0, 0, 0, 0, 0), (4, 1, 2, 0, 0, 0, 0, 0, 0, 0), (48, 3, 339, 154, 1, 1211, 2, 9, 0, 0), (22, 3, 14, 0, 1, 0, 0, 0, 0, 0), (6, 1, 0, 0, 0, 0, 0, 0, 0, 0), (0, 1, 0, 0, 0, 0, 0, 0, 5, 0),
  (48, 3, 123, 31, 0, 643, 2, 9, 0, 0), (27, 1, 0, 0, 0, 0, 0, 0, 0, 0)]
def q160_14 : List XO := [(6, 1, 0, 0, 0, 0, 0, 0, 0, 0), (44, 3, 62, 9, 8, 524, 0, 0, 0, 0), (4, 1, 1, 0, 0, 0, 0, 0, 0, 0), (4, 1, 2, 0, 0, 0, 0, 0, 0, 0), (48, 3, 342, 157, 0, 1240, 3, 0, 0, 0), (7, 1, 3, 0, 0, 0, 0, 0, 0, 0),
  (4, 1, 3, 0, 0, 0, 0, 0, 0, 0), (48, 3, 258, 78, 1, 1036, 1, 99, 0, 0), (7, 2, 4, 0, 0, 0, 0, 0, 0, 0), (4, 2, 4, 0, 0, 0, 0, 0, 0, 0), (0, 1, 0, 0, 0, 0, 0, 0, 2, 0), (23, 3, 43, 0, 3, 0, 0, 0, 0, 0),
  (6, 1, 0, 0, 0, 0, 0, 0, 0, 0), (0, 2, 0, 0, 1, 0, 0, 0, 8, 0), (48, 3, 123, 31, 0, 643, 2, 9, 0, 0), (27, 1, 0, 0, 0, 0, 0, 0, 0, 0)]
def q160_43 : List XO := [(0, 1, 0, 0, 0, 0, 0, 0, (-1), 0), (7, 2, 5, 0, 0, 0, 0, 0, 0, 0), (4, 2, 4, 0, 0, 0, 0, 0, 0, 0), (0, 1, 0, 0, 0, 0, 0, 0, 1, 0), (11, 1, 0, 0, 0, 0, 0, 0, 0, 0), (7, 2, 6, 0, 0, 0, 0, 0, 0, 0),
  (0, 1, 0, 0, 0, 0, 0, 0, 0, 0), (7, 2, 7, 0, 0, 0, 0, 0, 0, 0), (24, 0, 55, 0, 1, 0, 0, 0, 0, 0)]
def q160_55 : List XO := [(4, 2, 7, 0, 0, 0, 0, 0, 0, 0), (4, 1, 1, 0, 0, 0, 0, 0, 0, 0), (4, 1, 2, 0, 0, 0, 0, 0, 0, 0), (11, 1, 0, 0, 2, 0, 0, 0, 0, 0), (23, 3, 113, 0, 3, 0, 0, 0, 0, 0), (4, 1, 3, 0, 0, 0, 0, 0, 0, 0),
  (6, 1, 0, 0, 0, 0, 0, 0, 0, 0), (44, 3, 62, 9, 8, 524, 0, 0, 0, 0), (4, 2, 7, 0, 0, 0, 0, 0, 0, 0), (4, 1, 1, 0, 0, 0, 0, 0, 0, 0), (48, 3, 345, 158, 0, 1241, 3, 0, 0, 0), (11, 1, 0, 0, 3, 0, 0, 0, 0, 0),
  (48, 3, 258, 78, 1, 1036, 1, 99, 0, 0), (7, 2, 8, 0, 0, 0, 0, 0, 0, 0), (4, 2, 8, 0, 0, 0, 0, 0, 0, 0), (4, 2, 4, 0, 0, 0, 0, 0, 0, 0), (4, 2, 8, 0, 0, 0, 0, 0, 0, 0), (11, 1, 0, 0, 1, 0, 0, 0, 0, 0),
  (48, 3, 348, 35, 1, 1242, 2, 99, 0, 0), (7, 2, 9, 0, 0, 0, 0, 0, 0, 0), (4, 2, 9, 0, 0, 0, 0, 0, 0, 0), (4, 2, 6, 0, 0, 0, 0, 0, 0, 0), (23, 3, 107, 0, 3, 0, 0, 0, 0, 0), (4, 2, 7, 0, 0, 0, 0, 0, 0, 0),
  (7, 2, 5, 0, 0, 0, 0, 0, 0, 0), (4, 2, 9, 0, 0, 0, 0, 0, 0, 0), (7, 2, 6, 0, 0, 0, 0, 0, 0, 0), (24, 0, 107, 0, 1, 0, 0, 0, 0, 0)]
def q160_107 : List XO := [(10, 3, 7, 0, 0, 0, 0, 0, 1, 0), (24, 3, 55, 0, 0, 0, 0, 0, 0, 0)]
def q160_113 : List XO := [(6, 1, 0, 0, 0, 0, 0, 0, 0, 0), (4, 2, 5, 0, 0, 0, 0, 0, 0, 0), (48, 3, 146, 83, 0, 878, 2, 9, 0, 0), (27, 1, 0, 0, 0, 0, 0, 0, 0, 0)]
def xt160 : List (Nat × List XO) := [(0, q160_0), (14, q160_14), (43, q160_43), (55, q160_55), (107, q160_107), (113, q160_113)]
def q161_0 : List XO := [(4, 1, 1, 0, 0, 0, 0, 0, 0, 0), (0, 1, 0, 0, 0, 0, 0, 0, 0, 0), (0, 1, 0, 0, 0, 0, 0, 0, 4, 0), (48, 3, 198, 101, 1, 977, 3, 9, 0, 0), (22, 3, 15, 0, 1, 0, 0, 0, 0, 0), (6, 1, 0, 0, 0, 0, 0, 0, 0, 0),
  (0, 1, 0, 0, 0, 0, 0, 0, 5, 0), (48, 3, 123, 31, 0, 643, 2, 9, 0, 0), (27, 1, 0, 0, 0, 0, 0, 0, 0, 0)]
def q161_15 : List XO := [(6, 1, 0, 0, 0, 0, 0, 0, 0, 0), (44, 3, 66, 9, 9, 525, 0, 0, 0, 0), (6, 1, 0, 0, 0, 0, 0, 0, 0, 0), (44, 3, 62, 9, 8, 524, 0, 0, 0, 0), (48, 3, 139, 80, 0, 864, 2, 0, 0, 0), (6, 1, 0, 0, 0, 0, 0, 0, 0, 0),
  (6, 1, 0, 0, 0, 0, 0, 0, 0, 0), (44, 3, 66, 9, 9, 525, 0, 0, 0, 0), (4, 1, 1, 0, 0, 0, 0, 0, 0, 0), (0, 1, 0, 0, 0, 0, 0, 0, 1, 0), (48, 3, 353, 162, 1, 1247, 3, 9, 0, 0), (48, 3, 146, 83, 0, 878, 2, 9, 0, 0),
  (27, 1, 0, 0, 0, 0, 0, 0, 0, 0)]
def xt161 : List (Nat × List XO) := [(0, q161_0), (15, q161_15)]
def q162_0 : List XO := [(4, 1, 1, 0, 0, 0, 0, 0, 0, 0), (22, 3, 12, 0, 4, 0, 0, 0, 0, 0), (6, 1, 0, 0, 0, 0, 0, 0, 0, 0), (48, 3, 361, 163, 0, 1250, 1, 0, 0, 0), (48, 3, 258, 78, 1, 1036, 1, 99, 0, 0), (27, 1, 0, 0, 0, 0, 0, 0, 0, 0)]
def q162_12 : List XO := [(6, 1, 0, 0, 0, 0, 0, 0, 0, 0), (4, 1, 1, 0, 0, 0, 0, 0, 0, 0), (0, 1, 0, 0, 0, 0, 0, 0, 1, 0), (11, 1, 0, 0, 1, 0, 0, 0, 0, 0), (4, 1, 2, 0, 0, 0, 0, 0, 0, 0), (22, 3, 24, 0, 1, 0, 0, 0, 0, 0),
  (0, 1, 0, 0, 0, 0, 0, 0, 1, 0), (24, 3, 25, 0, 0, 0, 0, 0, 0, 0)]
def q162_24 : List XO := [(0, 1, 0, 0, 0, 0, 0, 0, 0, 0), (24, 0, 25, 0, 1, 0, 0, 0, 0, 0)]
def q162_25 : List XO := [(48, 3, 353, 162, 1, 1247, 3, 9, 0, 0), (7, 1, 3, 0, 0, 0, 0, 0, 0, 0), (0, 1, 0, 0, 0, 0, 0, 0, 0, 0), (7, 2, 4, 0, 0, 0, 0, 0, 0, 0), (24, 0, 32, 0, 1, 0, 0, 0, 0, 0)]
def q162_32 : List XO := [(4, 2, 4, 0, 0, 0, 0, 0, 0, 0), (6, 1, 0, 0, 0, 0, 0, 0, 0, 0), (42, 3, 143, 0, 7, 447, 0, 0, 0, 0), (23, 3, 83, 0, 3, 0, 0, 0, 0, 0), (6, 1, 0, 0, 0, 0, 0, 0, 0, 0), (4, 2, 4, 0, 0, 0, 0, 0, 0, 0),
  (4, 1, 1, 0, 0, 0, 0, 0, 0, 0), (4, 1, 2, 0, 0, 0, 0, 0, 0, 0), (48, 3, 357, 164, 1, 1254, 4, 9, 0, 0), (7, 2, 5, 0, 0, 0, 0, 0, 0, 0), (4, 2, 5, 0, 0, 0, 0, 0, 0, 0), (0, 1, 0, 0, 0, 0, 0, 0, (-1), 0),
  (23, 3, 77, 0, 0, 0, 0, 0, 0, 0), (4, 1, 2, 0, 0, 0, 0, 0, 0, 0), (22, 3, 70, 0, 0, 0, 0, 0, 0, 0), (4, 1, 3, 0, 0, 0, 0, 0, 0, 0), (4, 2, 5, 0, 0, 0, 0, 0, 0, 0), (48, 3, 348, 35, 1, 1242, 2, 99, 0, 0),
  (24, 3, 76, 0, 0, 0, 0, 0, 0, 0)]
def q162_70 : List XO := [(4, 1, 3, 0, 0, 0, 0, 0, 0, 0), (4, 2, 5, 0, 0, 0, 0, 0, 0, 0), (48, 3, 364, 34, 1, 1257, 2, 99, 0, 0), (24, 0, 76, 0, 1, 0, 0, 0, 0, 0)]
def q162_76 : List XO := [(7, 1, 3, 0, 0, 0, 0, 0, 0, 0), (24, 0, 77, 0, 1, 0, 0, 0, 0, 0)]
def q162_77 : List XO := [(10, 3, 4, 0, 0, 0, 0, 0, 1, 0), (24, 3, 32, 0, 0, 0, 0, 0, 0, 0)]
def q162_83 : List XO := [(4, 1, 3, 0, 0, 0, 0, 0, 0, 0), (27, 1, 0, 0, 0, 0, 0, 0, 0, 0)]
def xt162 : List (Nat × List XO) := [(0, q162_0), (12, q162_12), (24, q162_24), (25, q162_25), (32, q162_32), (70, q162_70), (76, q162_76), (77, q162_77),
  (83, q162_83)]
def q163_0 : List XO := [(0, 1, 0, 0, 0, 0, 0, 0, 0, 0), (7, 1, 1, 0, 0, 0, 0, 0, 0, 0), (0, 1, 0, 0, 0, 0, 0, 0, 0, 0), (7, 1, 2, 0, 0, 0, 0, 0, 0, 0), (24, 0, 4, 0, 1, 0, 0, 0, 0, 0)]
def q163_4 : List XO := [(4, 1, 2, 0, 0, 0, 0, 0, 0, 0), (6, 1, 0, 0, 0, 0, 0, 0, 0, 0), (42, 3, 66, 0, 7, 444, 0, 0, 0, 0), (23, 3, 26, 0, 3, 0, 0, 0, 0, 0), (4, 1, 1, 0, 0, 0, 0, 0, 0, 0), (6, 1, 0, 0, 0, 0, 0, 0, 0, 0),
  (4, 1, 2, 0, 0, 0, 0, 0, 0, 0), (48, 3, 140, 105, 0, 1074, 2, 0, 0, 0), (11, 1, 0, 0, 4, 0, 0, 0, 0, 0), (7, 1, 1, 0, 0, 0, 0, 0, 0, 0), (10, 3, 2, 0, 0, 0, 0, 0, 1, 0), (24, 3, 4, 0, 0, 0, 0, 0, 0, 0)]
def q163_26 : List XO := [(4, 1, 1, 0, 0, 0, 0, 0, 0, 0), (6, 1, 0, 0, 0, 0, 0, 0, 0, 0), (48, 3, 118, 99, 0, 1231, 1, 0, 0, 0), (11, 1, 0, 0, 3, 0, 0, 0, 0, 0), (27, 1, 0, 0, 0, 0, 0, 0, 0, 0)]
def xt163 : List (Nat × List XO) := [(0, q163_0), (4, q163_4), (26, q163_26)]
def q164_0 : List XO := [(6, 1, 0, 0, 0, 0, 0, 0, 0, 0), (4, 1, 1, 0, 0, 0, 0, 0, 0, 0), (48, 3, 214, 72, 0, 990, 2, 0, 0, 0), (22, 3, 16, 0, 0, 0, 0, 0, 0, 0), (6, 1, 0, 0, 0, 0, 0, 0, 0, 0), (4, 1, 1, 0, 0, 0, 0, 0, 0, 0),
  (48, 3, 229, 74, 0, 991, 2, 0, 0, 0), (22, 3, 18, 0, 1, 0, 0, 0, 0, 0), (24, 0, 16, 0, 1, 0, 0, 0, 0, 0)]
def q164_16 : List XO := [(0, 1, 0, 0, 0, 0, 0, 0, (-1), 0), (27, 1, 0, 0, 0, 0, 0, 0, 0, 0)]
def q164_18 : List XO := [(6, 1, 0, 0, 0, 0, 0, 0, 0, 0), (44, 3, 226, 0, 13, 461, 0, 0, 0, 0), (4, 1, 1, 0, 0, 0, 0, 0, 0, 0), (33, 1, 0, 0, 0, 0, 0, 0, 0, 0), (7, 2, 4, 0, 0, 0, 0, 0, 0, 0), (4, 1, 3, 0, 0, 0, 0, 0, 0, 0),
  (22, 3, 42, 0, 0, 0, 0, 0, 0, 0), (0, 2, 0, 0, 1, 0, 0, 0, 9, 0), (4, 2, 4, 0, 0, 0, 0, 0, 0, 0), (0, 1, 0, 0, 0, 0, 0, 0, 1, 0), (11, 1, 0, 0, 0, 0, 0, 0, 0, 0), (48, 3, 364, 34, 1, 1257, 2, 99, 0, 0),
  (24, 3, 50, 0, 0, 0, 0, 0, 0, 0)]
def q164_42 : List XO := [(0, 1, 0, 0, 0, 0, 0, 0, 0, 0), (4, 2, 4, 0, 0, 0, 0, 0, 0, 0), (0, 1, 0, 0, 0, 0, 0, 0, 2, 0), (11, 1, 0, 0, 1, 0, 0, 0, 0, 0), (48, 3, 348, 35, 1, 1242, 2, 99, 0, 0), (24, 0, 50, 0, 1, 0, 0, 0, 0, 0)]
def q164_50 : List XO := [(7, 2, 5, 0, 0, 0, 0, 0, 0, 0), (4, 2, 5, 0, 0, 0, 0, 0, 0, 0), (4, 2, 4, 0, 0, 0, 0, 0, 0, 0), (23, 3, 61, 0, 1, 0, 0, 0, 0, 0), (0, 1, 0, 0, 0, 0, 0, 0, (-1), 0), (27, 1, 0, 0, 0, 0, 0, 0, 0, 0)]
def q164_61 : List XO := [(6, 1, 0, 0, 0, 0, 0, 0, 0, 0), (44, 3, 226, 0, 13, 461, 0, 0, 0, 0), (4, 1, 1, 0, 0, 0, 0, 0, 0, 0), (4, 2, 5, 0, 0, 0, 0, 0, 0, 0), (34, 1, 0, 0, 0, 0, 0, 0, 0, 0), (6, 1, 0, 0, 0, 0, 0, 0, 0, 0),
  (4, 1, 2, 0, 0, 0, 0, 0, 0, 0), (0, 1, 0, 0, 0, 0, 0, 0, 1, 0), (11, 1, 0, 0, 1, 0, 0, 0, 0, 0), (4, 1, 3, 0, 0, 0, 0, 0, 0, 0), (22, 3, 81, 0, 1, 0, 0, 0, 0, 0), (0, 1, 0, 0, 0, 0, 0, 0, 1, 0),
  (24, 3, 82, 0, 0, 0, 0, 0, 0, 0)]
def q164_81 : List XO := [(0, 1, 0, 0, 0, 0, 0, 0, 0, 0), (24, 0, 82, 0, 1, 0, 0, 0, 0, 0)]
def q164_82 : List XO := [(48, 3, 353, 162, 1, 1247, 3, 9, 0, 0), (7, 2, 6, 0, 0, 0, 0, 0, 0, 0), (6, 1, 0, 0, 0, 0, 0, 0, 0, 0), (44, 3, 226, 0, 13, 461, 0, 0, 0, 0), (4, 1, 1, 0, 0, 0, 0, 0, 0, 0), (4, 2, 4, 0, 0, 0, 0, 0, 0, 0),
  (34, 1, 0, 0, 0, 0, 0, 0, 0, 0), (4, 2, 6, 0, 0, 0, 0, 0, 0, 0), (27, 1, 0, 0, 0, 0, 0, 0, 0, 0)]
def xt164 : List (Nat × List XO) := [(0, q164_0), (16, q164_16), (18, q164_18), (42, q164_42), (50, q164_50), (61, q164_61), (81, q164_81), (82, q164_82)]
def q165_0 : List XO := [(4, 1, 1, 0, 0, 0, 0, 0, 0, 0), (0, 1, 0, 0, 0, 0, 0, 0, 1, 0), (0, 1, 0, 0, 0, 0, 0, 0, 4, 0), (48, 3, 198, 101, 1, 977, 3, 9, 0, 0), (22, 3, 15, 0, 1, 0, 0, 0, 0, 0), (6, 1, 0, 0, 0, 0, 0, 0, 0, 0),
  (0, 1, 0, 0, 0, 0, 0, 0, 5, 0), (48, 3, 123, 31, 0, 643, 2, 9, 0, 0), (27, 1, 0, 0, 0, 0, 0, 0, 0, 0)]
def q165_15 : List XO := [(6, 1, 0, 0, 0, 0, 0, 0, 0, 0), (44, 3, 66, 9, 9, 525, 0, 0, 0, 0), (6, 1, 0, 0, 0, 0, 0, 0, 0, 0), (44, 3, 62, 9, 8, 524, 0, 0, 0, 0), (48, 3, 139, 80, 0, 864, 2, 0, 0, 0), (0, 1, 0, 0, 0, 0, 0, 0, (-1), 0),
  (7, 1, 2, 0, 0, 0, 0, 0, 0, 0), (0, 1, 0, 0, 0, 0, 0, 0, (-1), 0), (7, 1, 3, 0, 0, 0, 0, 0, 0, 0), (0, 1, 0, 0, 0, 0, 0, 0, 0, 0), (7, 2, 4, 0, 0, 0, 0, 0, 0, 0), (24, 0, 33, 0, 1, 0, 0, 0, 0, 0)]
def q165_33 : List XO := [(4, 2, 4, 0, 0, 0, 0, 0, 0, 0), (6, 1, 0, 0, 0, 0, 0, 0, 0, 0), (44, 3, 66, 9, 9, 525, 0, 0, 0, 0), (42, 3, 143, 0, 7, 447, 0, 0, 0, 0), (23, 3, 76, 0, 3, 0, 0, 0, 0, 0), (6, 1, 0, 0, 0, 0, 0, 0, 0, 0),
  (44, 3, 66, 9, 9, 525, 0, 0, 0, 0), (4, 2, 4, 0, 0, 0, 0, 0, 0, 0), (4, 1, 1, 0, 0, 0, 0, 0, 0, 0), (0, 1, 0, 0, 0, 0, 0, 0, 1, 0), (48, 3, 357, 164, 1, 1254, 4, 9, 0, 0), (7, 2, 5, 0, 0, 0, 0, 0, 0, 0),
  (4, 2, 5, 0, 0, 0, 0, 0, 0, 0), (4, 1, 3, 0, 0, 0, 0, 0, 0, 0), (23, 3, 70, 0, 5, 0, 0, 0, 0, 0), (4, 2, 4, 0, 0, 0, 0, 0, 0, 0), (7, 1, 2, 0, 0, 0, 0, 0, 0, 0), (4, 2, 5, 0, 0, 0, 0, 0, 0, 0),
  (7, 1, 3, 0, 0, 0, 0, 0, 0, 0), (24, 0, 70, 0, 1, 0, 0, 0, 0, 0)]
def q165_70 : List XO := [(10, 3, 4, 0, 0, 0, 0, 0, 1, 0), (24, 3, 33, 0, 0, 0, 0, 0, 0, 0)]
def q165_76 : List XO := [(6, 1, 0, 0, 0, 0, 0, 0, 0, 0), (44, 3, 66, 9, 9, 525, 0, 0, 0, 0), (4, 1, 1, 0, 0, 0, 0, 0, 0, 0), (0, 1, 0, 0, 0, 0, 0, 0, 1, 0), (11, 1, 0, 0, 1, 0, 0, 0, 0, 0), (0, 1, 0, 0, 0, 0, 0, 0, 0, 0),
  (48, 3, 353, 162, 1, 1247, 3, 9, 0, 0), (7, 2, 4, 0, 0, 0, 0, 0, 0, 0), (4, 2, 4, 0, 0, 0, 0, 0, 0, 0), (4, 1, 3, 0, 0, 0, 0, 0, 0, 0), (23, 3, 104, 0, 5, 0, 0, 0, 0, 0), (6, 1, 0, 0, 0, 0, 0, 0, 0, 0),
  (0, 2, 0, 0, 1, 0, 0, 0, 8, 0), (48, 3, 123, 31, 0, 643, 2, 9, 0, 0), (24, 3, 109, 0, 0, 0, 0, 0, 0, 0)]
def q165_104 : List XO := [(6, 1, 0, 0, 0, 0, 0, 0, 0, 0), (4, 1, 2, 0, 0, 0, 0, 0, 0, 0), (48, 3, 146, 83, 0, 878, 2, 9, 0, 0), (24, 0, 109, 0, 1, 0, 0, 0, 0, 0)]
def q165_109 : List XO := [(27, 1, 0, 0, 0, 0, 0, 0, 0, 0)]
def xt165 : List (Nat × List XO) := [(0, q165_0), (15, q165_15), (33, q165_33), (70, q165_70), (76, q165_76), (104, q165_104), (109, q165_109)]
def q166_0 : List XO := [(6, 1, 0, 0, 0, 0, 0, 0, 0, 0), (44, 3, 62, 9, 8, 524, 0, 0, 0, 0), (4, 1, 1, 0, 0, 0, 0, 0, 0, 0), (48, 3, 214, 72, 0, 990, 2, 0, 0, 0), (22, 3, 22, 0, 0, 0, 0, 0, 0, 0), (6, 1, 0, 0, 0, 0, 0, 0, 0, 0),
  (44, 3, 62, 9, 8, 524, 0, 0, 0, 0), (4, 1, 2, 0, 0, 0, 0, 0, 0, 0), (48, 3, 214, 72, 0, 990, 2, 0, 0, 0), (22, 3, 28, 0, 1, 0, 0, 0, 0, 0), (24, 0, 22, 0, 1, 0, 0, 0, 0, 0)]
def q166_22 : List XO := [(6, 1, 0, 0, 0, 0, 0, 0, 0, 0), (0, 1, 0, 0, 0, 0, 0, 0, 2, 0), (48, 3, 94, 19, 0, 591, 2, 9, 0, 0), (27, 1, 0, 0, 1, 0, 0, 0, 0, 0)]
def q166_28 : List XO := [(4, 1, 1, 0, 0, 0, 0, 0, 0, 0), (4, 1, 2, 0, 0, 0, 0, 0, 0, 0), (23, 3, 43, 0, 0, 0, 0, 0, 0, 0), (4, 1, 3, 0, 0, 0, 0, 0, 0, 0), (0, 1, 0, 0, 0, 0, 0, 0, 0, 0), (0, 2, 0, 0, 1, 0, 0, 0, 15, 0),
  (48, 3, 198, 101, 1, 977, 3, 9, 0, 0), (22, 3, 49, 0, 1, 0, 0, 0, 0, 0), (24, 0, 43, 0, 1, 0, 0, 0, 0, 0)]
def q166_43 : List XO := [(6, 1, 0, 0, 0, 0, 0, 0, 0, 0), (0, 1, 0, 0, 0, 0, 0, 0, 5, 0), (48, 3, 94, 19, 0, 591, 2, 9, 0, 0), (27, 1, 0, 0, 1, 0, 0, 0, 0, 0)]
def q166_49 : List XO := [(6, 1, 0, 0, 0, 0, 0, 0, 0, 0), (44, 3, 62, 9, 8, 524, 0, 0, 0, 0), (44, 3, 235, 0, 12, 457, 0, 0, 0, 0), (4, 1, 1, 0, 0, 0, 0, 0, 0, 0), (33, 1, 0, 0, 0, 0, 0, 0, 0, 0), (6, 1, 0, 0, 0, 0, 0, 0, 0, 0),
  (44, 3, 62, 9, 8, 524, 0, 0, 0, 0), (48, 3, 194, 99, 0, 969, 1, 0, 0, 0), (11, 1, 0, 0, 3, 0, 0, 0, 0, 0), (7, 2, 4, 0, 0, 0, 0, 0, 0, 0), (6, 1, 0, 0, 0, 0, 0, 0, 0, 0), (44, 3, 62, 9, 8, 524, 0, 0, 0, 0),
  (44, 3, 235, 0, 12, 457, 0, 0, 0, 0), (4, 1, 2, 0, 0, 0, 0, 0, 0, 0), (33, 1, 0, 0, 0, 0, 0, 0, 0, 0), (6, 1, 0, 0, 0, 0, 0, 0, 0, 0), (44, 3, 62, 9, 8, 524, 0, 0, 0, 0), (48, 3, 194, 99, 0, 969, 1, 0, 0, 0),
  (11, 1, 0, 0, 3, 0, 0, 0, 0, 0), (7, 2, 5, 0, 0, 0, 0, 0, 0, 0), (4, 2, 4, 0, 0, 0, 0, 0, 0, 0), (4, 2, 5, 0, 0, 0, 0, 0, 0, 0), (11, 1, 0, 0, 3, 0, 0, 0, 0, 0), (48, 3, 258, 78, 1, 1036, 1, 99, 0, 0),
  (7, 2, 6, 0, 0, 0, 0, 0, 0, 0), (6, 1, 0, 0, 0, 0, 0, 0, 0, 0), (44, 3, 12, 9, 0, 516, 0, 0, 0, 0), (4, 2, 4, 0, 0, 0, 0, 0, 0, 0), (4, 2, 5, 0, 0, 0, 0, 0, 0, 0), (11, 1, 0, 0, 5, 0, 0, 0, 0, 0),
  (48, 3, 258, 78, 1, 1036, 1, 99, 0, 0), (0, 2, 0, 0, 1, 0, 0, 0, 8, 0), (4, 1, 3, 0, 0, 0, 0, 0, 0, 0), (4, 2, 6, 0, 0, 0, 0, 0, 0, 0), (11, 1, 0, 0, 1, 0, 0, 0, 0, 0), (48, 3, 367, 167, 0, 1266, 4, 2, 0, 0),
  (6, 1, 0, 0, 0, 0, 0, 0, 0, 0), (0, 1, 0, 0, 0, 0, 0, 0, 0, 0), (48, 3, 94, 19, 0, 591, 2, 9, 0, 0), (27, 1, 0, 0, 1, 0, 0, 0, 0, 0)]
def xt166 : List (Nat × List XO) := [(0, q166_0), (22, q166_22), (28, q166_28), (43, q166_43), (49, q166_49)]
def q167_0 : List XO := [(6, 1, 0, 0, 0, 0, 0, 0, 0, 0), (4, 1, 1, 0, 0, 0, 0, 0, 0, 0), (4, 1, 2, 0, 0, 0, 0, 0, 0, 0), (48, 3, 26, 168, 0, 1270, 3, 2, 0, 0), (1, 1, 0, 0, 0, 0, 0, 0, 0, 0), (8, 2, 4, 0, 0, 0, 0, 0, 0, 0),
  (0, 1, 0, 0, 0, 0, 0, 0, 0, 0), (4, 1, 3, 0, 0, 0, 0, 0, 0, 0), (48, 3, 30, 35, 1, 1274, 2, 99, 0, 0), (7, 2, 6, 0, 0, 0, 0, 0, 0, 0), (24, 0, 16, 0, 1, 0, 0, 0, 0, 0)]
def q167_16 : List XO := [(4, 2, 6, 0, 0, 0, 0, 0, 0, 0), (4, 1, 1, 0, 0, 0, 0, 0, 0, 0), (23, 3, 50, 0, 4, 0, 0, 0, 0, 0), (4, 2, 6, 0, 0, 0, 0, 0, 0, 0), (6, 1, 0, 0, 0, 0, 0, 0, 0, 0), (44, 3, 18, 2, 2, 177, 0, 0, 0, 0),
  (32, 1, 0, 0, 0, 0, 0, 0, 0, 0), (23, 3, 50, 0, 3, 0, 0, 0, 0, 0), (5, 2, 4, 0, 0, 0, 0, 0, 0, 0), (6, 1, 0, 0, 0, 0, 0, 0, 0, 0), (44, 3, 18, 2, 2, 177, 0, 0, 0, 0), (4, 2, 6, 0, 0, 0, 0, 0, 0, 0),
  (35, 1, 0, 0, 0, 0, 0, 0, 0, 0), (14, 1, 0, 0, 0, 0, 0, 0, 0, 0), (8, 2, 4, 0, 0, 0, 0, 0, 0, 0), (10, 3, 6, 0, 0, 0, 0, 0, 1, 0), (24, 3, 16, 0, 0, 0, 0, 0, 0, 0)]
def q167_50 : List XO := [(6, 1, 0, 0, 0, 0, 0, 0, 0, 0), (5, 2, 4, 0, 0, 0, 0, 0, 0, 0), (1, 1, 0, 0, 0, 0, 0, 0, 0, 1), (0, 1, 0, 0, 0, 0, 0, 0, 4, 0), (4, 1, 1, 0, 0, 0, 0, 0, 0, 0), (11, 1, 0, 0, 2, 0, 0, 0, 0, 0),
  (16, 1, 0, 0, 0, 0, 0, 0, 0, 0), (48, 3, 36, 169, 0, 1275, 3, 2, 0, 0), (27, 1, 0, 0, 3, 0, 0, 0, 0, 0)]
def xt167 : List (Nat × List XO) := [(0, q167_0), (16, q167_16), (50, q167_50)]
def q168_0 : List XO := [(6, 1, 0, 0, 0, 0, 0, 0, 0, 0), (44, 3, 18, 2, 2, 177, 0, 0, 0, 0), (0, 1, 0, 0, 0, 0, 0, 0, 0, 0), (1, 1, 0, 0, 0, 0, 0, 0, 0, 1), (36, 1, 0, 0, 0, 0, 0, 0, 0, 0), (0, 1, 0, 0, 0, 0, 0, 0, 1, 0),
  (7, 1, 3, 0, 0, 0, 0, 0, 0, 0), (24, 0, 9, 0, 1, 0, 0, 0, 0, 0)]
def q168_9 : List XO := [(4, 1, 3, 0, 0, 0, 0, 0, 0, 0), (6, 1, 0, 0, 0, 0, 0, 0, 0, 0), (44, 3, 18, 2, 2, 177, 0, 0, 0, 0), (32, 1, 0, 0, 0, 0, 0, 0, 0, 0), (23, 3, 31, 0, 3, 0, 0, 0, 0, 0), (6, 1, 0, 0, 0, 0, 0, 0, 0, 0),
  (44, 3, 18, 2, 2, 177, 0, 0, 0, 0), (4, 1, 3, 0, 0, 0, 0, 0, 0, 0), (1, 1, 0, 0, 0, 0, 0, 0, 0, 0), (36, 1, 0, 0, 0, 0, 0, 0, 0, 0), (10, 3, 3, 0, 0, 0, 0, 0, 1, 0), (24, 3, 9, 0, 0, 0, 0, 0, 0, 0)]
def q168_31 : List XO := [(0, 1, 0, 0, 0, 0, 0, 0, 1, 0), (7, 1, 3, 0, 0, 0, 0, 0, 0, 0), (24, 0, 33, 0, 1, 0, 0, 0, 0, 0)]
def q168_33 : List XO := [(4, 1, 3, 0, 0, 0, 0, 0, 0, 0), (4, 1, 1, 0, 0, 0, 0, 0, 0, 0), (23, 3, 118, 0, 4, 0, 0, 0, 0, 0), (4, 1, 3, 0, 0, 0, 0, 0, 0, 0), (6, 1, 0, 0, 0, 0, 0, 0, 0, 0), (44, 3, 18, 2, 2, 177, 0, 0, 0, 0),
  (32, 1, 0, 0, 0, 0, 0, 0, 0, 0), (23, 3, 118, 0, 3, 0, 0, 0, 0, 0), (4, 1, 3, 0, 0, 0, 0, 0, 0, 0), (7, 2, 4, 0, 0, 0, 0, 0, 0, 0), (24, 0, 50, 0, 1, 0, 0, 0, 0, 0)]
def q168_50 : List XO := [(4, 2, 4, 0, 0, 0, 0, 0, 0, 0), (22, 3, 98, 0, 5, 0, 0, 0, 0, 0), (6, 1, 0, 0, 0, 0, 0, 0, 0, 0), (44, 3, 18, 2, 2, 177, 0, 0, 0, 0), (4, 2, 4, 0, 0, 0, 0, 0, 0, 0), (35, 1, 0, 0, 0, 0, 0, 0, 0, 0),
  (0, 2, 0, 0, 1, 0, 0, 0, 16, 0), (4, 1, 2, 0, 0, 0, 0, 0, 0, 0), (11, 1, 0, 0, 1, 0, 0, 0, 0, 0), (17, 1, 0, 0, 0, 0, 0, 0, 0, 0), (14, 1, 0, 0, 2, 0, 0, 0, 0, 0), (8, 2, 5, 0, 0, 0, 0, 0, 0, 0),
  (6, 1, 0, 0, 0, 0, 0, 0, 0, 0), (44, 3, 18, 2, 2, 177, 0, 0, 0, 0), (4, 2, 4, 0, 0, 0, 0, 0, 0, 0), (5, 2, 5, 0, 0, 0, 0, 0, 0, 0), (6, 1, 0, 0, 0, 0, 0, 0, 0, 0), (44, 3, 18, 2, 2, 177, 0, 0, 0, 0),
  (4, 2, 4, 0, 0, 0, 0, 0, 0, 0), (0, 1, 0, 0, 0, 0, 0, 0, 1, 0), (11, 1, 0, 0, 1, 0, 0, 0, 0, 0), (35, 1, 0, 0, 0, 0, 0, 0, 0, 0), (4, 1, 2, 0, 0, 0, 0, 0, 0, 0), (17, 1, 0, 0, 0, 0, 0, 0, 0, 0),
  (14, 1, 0, 0, 2, 0, 0, 0, 0, 0), (14, 1, 0, 0, 0, 0, 0, 0, 0, 0), (36, 1, 0, 0, 0, 0, 0, 0, 0, 0), (10, 3, 4, 0, 0, 0, 0, 0, (-1), 0), (24, 3, 50, 0, 0, 0, 0, 0, 0, 0)]
def q168_98 : List XO := [(6, 1, 0, 0, 0, 0, 0, 0, 0, 0), (44, 3, 18, 2, 2, 177, 0, 0, 0, 0), (0, 1, 0, 0, 0, 0, 0, 0, 0, 0), (20, 1, 0, 0, 0, 0, 0, 0, 0, 0), (35, 1, 0, 0, 0, 0, 0, 0, 0, 0), (0, 2, 0, 0, 1, 0, 0, 0, 16, 0),
  (4, 1, 2, 0, 0, 0, 0, 0, 0, 0), (11, 1, 0, 0, 1, 0, 0, 0, 0, 0), (17, 1, 0, 0, 0, 0, 0, 0, 0, 0), (14, 1, 0, 0, 2, 0, 0, 0, 0, 0), (36, 1, 0, 0, 0, 0, 0, 0, 0, 0), (10, 3, 3, 0, 0, 0, 0, 0, 1, 0),
  (24, 3, 33, 0, 0, 0, 0, 0, 0, 0)]
def q168_118 : List XO := [(27, 1, 0, 0, 3, 0, 0, 0, 0, 0)]
def xt168 : List (Nat × List XO) := [(0, q168_0), (9, q168_9), (31, q168_31), (33, q168_33), (50, q168_50), (98, q168_98), (118, q168_118)]
def q169_0 : List XO := [(5, 1, 1, 0, 0, 0, 0, 0, 0, 0), (5, 1, 3, 0, 0, 0, 0, 0, 0, 0), (48, 3, 22, 170, 1, 1279, 2, 2, 0, 0), (8, 2, 5, 0, 0, 0, 0, 0, 0, 0), (5, 2, 5, 0, 0, 0, 0, 0, 0, 0), (1, 1, 0, 0, 0, 0, 0, 0, 0, 0),
  (18, 1, 0, 0, 0, 0, 0, 0, 0, 0), (22, 3, 30, 0, 5, 0, 0, 0, 0, 0), (6, 1, 0, 0, 0, 0, 0, 0, 0, 0), (5, 1, 1, 0, 0, 0, 0, 0, 0, 0), (5, 2, 5, 0, 0, 0, 0, 0, 0, 0), (15, 1, 0, 0, 0, 0, 0, 0, 0, 0),
  (46, 3, 9, 2, 0, 173, 0, 0, 0, 0), (6, 1, 0, 0, 0, 0, 0, 0, 0, 0), (5, 1, 3, 0, 0, 0, 0, 0, 0, 0), (5, 2, 5, 0, 0, 0, 0, 0, 0, 0), (15, 1, 0, 0, 0, 0, 0, 0, 0, 0), (46, 3, 15, 2, 1, 175, 0, 0, 0, 0),
  (24, 0, 30, 0, 1, 0, 0, 0, 0, 0)]
def q169_30 : List XO := [(27, 1, 0, 0, 3, 0, 0, 0, 0, 0)]
def xt169 : List (Nat × List XO) := [(0, q169_0), (30, q169_30)]
def q170_0 : List XO := [(5, 1, 0, 0, 0, 0, 0, 0, 0, 0), (8, 2, 4, 0, 0, 0, 0, 0, 0, 0), (5, 1, 2, 0, 0, 0, 0, 0, 0, 0), (8, 2, 6, 0, 0, 0, 0, 0, 0, 0), (0, 1, 0, 0, 0, 0, 0, 0, 0, 0), (7, 2, 8, 0, 0, 0, 0, 0, 0, 0),
  (24, 0, 9, 0, 1, 0, 0, 0, 0, 0)]
def q170_9 : List XO := [(4, 2, 8, 0, 0, 0, 0, 0, 0, 0), (0, 3, 0, 0, 2, 0, 0, 0, 200, 0), (23, 3, 45, 0, 3, 0, 0, 0, 0, 0), (5, 2, 6, 0, 0, 0, 0, 0, 0, 0), (1, 1, 0, 0, 0, 0, 0, 0, 0, 0), (18, 1, 0, 0, 0, 0, 0, 0, 0, 0),
  (22, 3, 45, 0, 0, 0, 0, 0, 0, 0), (5, 2, 4, 0, 0, 0, 0, 0, 0, 0), (5, 2, 6, 0, 0, 0, 0, 0, 0, 0), (15, 1, 0, 0, 1, 0, 0, 0, 0, 0), (8, 2, 9, 0, 0, 0, 0, 0, 0, 0), (5, 2, 6, 0, 0, 0, 0, 0, 0, 0),
  (8, 2, 4, 0, 0, 0, 0, 0, 0, 0), (5, 2, 9, 0, 0, 0, 0, 0, 0, 0), (8, 2, 6, 0, 0, 0, 0, 0, 0, 0), (10, 3, 8, 0, 0, 0, 0, 0, 1, 0), (24, 3, 9, 0, 0, 0, 0, 0, 0, 0)]
def q170_45 : List XO := [(5, 2, 4, 0, 0, 0, 0, 0, 0, 0), (27, 1, 0, 0, 2, 0, 0, 0, 0, 0)]
def xt170 : List (Nat × List XO) := [(0, q170_0), (9, q170_9), (45, q170_45)]
def q171_0 : List XO := [(6, 1, 0, 0, 0, 0, 0, 0, 0, 0), (44, 3, 62, 9, 8, 524, 0, 0, 0, 0), (4, 1, 1, 0, 0, 0, 0, 0, 0, 0), (48, 3, 214, 72, 0, 990, 2, 0, 0, 0), (22, 3, 17, 0, 1, 0, 0, 0, 0, 0), (6, 1, 0, 0, 0, 0, 0, 0, 0, 0),
  (0, 1, 0, 0, 0, 0, 0, 0, 2, 0), (48, 3, 94, 19, 0, 591, 2, 9, 0, 0), (27, 1, 0, 0, 1, 0, 0, 0, 0, 0)]
def q171_17 : List XO := [(4, 1, 2, 0, 0, 0, 0, 0, 0, 0), (0, 1, 0, 0, 0, 0, 0, 0, 0, 0), (0, 2, 0, 0, 1, 0, 0, 0, 15, 0), (48, 3, 198, 101, 1, 977, 3, 9, 0, 0), (22, 3, 33, 0, 1, 0, 0, 0, 0, 0), (6, 1, 0, 0, 0, 0, 0, 0, 0, 0),
  (0, 1, 0, 0, 0, 0, 0, 0, 5, 0), (48, 3, 94, 19, 0, 591, 2, 9, 0, 0), (27, 1, 0, 0, 1, 0, 0, 0, 0, 0)]
def q171_33 : List XO := [(6, 1, 0, 0, 0, 0, 0, 0, 0, 0), (44, 3, 62, 9, 8, 524, 0, 0, 0, 0), (4, 1, 1, 0, 0, 0, 0, 0, 0, 0), (48, 3, 238, 105, 0, 996, 2, 0, 0, 0), (6, 1, 0, 0, 0, 0, 0, 0, 0, 0), (44, 3, 62, 9, 8, 524, 0, 0, 0, 0),
  (48, 3, 194, 99, 0, 969, 1, 0, 0, 0), (11, 1, 0, 0, 3, 0, 0, 0, 0, 0), (48, 3, 258, 78, 1, 1036, 1, 99, 0, 0), (7, 1, 3, 0, 0, 0, 0, 0, 0, 0), (6, 1, 0, 0, 0, 0, 0, 0, 0, 0), (44, 3, 12, 9, 0, 516, 0, 0, 0, 0),
  (4, 1, 3, 0, 0, 0, 0, 0, 0, 0), (6, 1, 0, 0, 0, 0, 0, 0, 0, 0), (44, 3, 62, 9, 8, 524, 0, 0, 0, 0), (42, 3, 182, 0, 2, 435, 0, 0, 0, 0), (4, 1, 2, 0, 0, 0, 0, 0, 0, 0), (48, 3, 367, 167, 0, 1266, 4, 2, 0, 0),
  (6, 1, 0, 0, 0, 0, 0, 0, 0, 0), (0, 1, 0, 0, 0, 0, 0, 0, 0, 0), (48, 3, 94, 19, 0, 591, 2, 9, 0, 0), (27, 1, 0, 0, 1, 0, 0, 0, 0, 0)]
def xt171 : List (Nat × List XO) := [(0, q171_0), (17, q171_17), (33, q171_33)]
def q172_0 : List XO := [(6, 1, 0, 0, 0, 0, 0, 0, 0, 0), (44, 3, 62, 9, 8, 524, 0, 0, 0, 0), (4, 1, 1, 0, 0, 0, 0, 0, 0, 0), (48, 3, 214, 72, 0, 990, 2, 0, 0, 0), (22, 3, 17, 0, 1, 0, 0, 0, 0, 0), (6, 1, 0, 0, 0, 0, 0, 0, 0, 0),
  (0, 1, 0, 0, 0, 0, 0, 0, 2, 0), (48, 3, 94, 19, 0, 591, 2, 9, 0, 0), (27, 1, 0, 0, 1, 0, 0, 0, 0, 0)]
def q172_17 : List XO := [(6, 1, 0, 0, 0, 0, 0, 0, 0, 0), (44, 3, 62, 9, 8, 524, 0, 0, 0, 0), (4, 1, 1, 0, 0, 0, 0, 0, 0, 0), (48, 3, 238, 105, 0, 996, 2, 0, 0, 0), (48, 3, 258, 78, 1, 1036, 1, 99, 0, 0), (7, 1, 2, 0, 0, 0, 0, 0, 0, 0),
  (6, 1, 0, 0, 0, 0, 0, 0, 0, 0), (44, 3, 12, 9, 0, 516, 0, 0, 0, 0), (4, 1, 2, 0, 0, 0, 0, 0, 0, 0), (17, 1, 0, 0, 0, 0, 0, 0, 0, 0), (6, 1, 0, 0, 0, 0, 0, 0, 0, 0), (44, 3, 62, 9, 8, 524, 0, 0, 0, 0),
  (44, 3, 235, 0, 12, 457, 0, 0, 0, 0), (4, 1, 1, 0, 0, 0, 0, 0, 0, 0), (33, 1, 0, 0, 0, 0, 0, 0, 0, 0), (48, 3, 258, 78, 1, 1036, 1, 99, 0, 0), (17, 1, 0, 0, 0, 0, 0, 0, 0, 0), (48, 3, 371, 169, 0, 1290, 3, 2, 0, 0),
  (6, 1, 0, 0, 0, 0, 0, 0, 0, 0), (0, 1, 0, 0, 0, 0, 0, 0, 0, 0), (48, 3, 94, 19, 0, 591, 2, 9, 0, 0), (27, 1, 0, 0, 1, 0, 0, 0, 0, 0)]
def xt172 : List (Nat × List XO) := [(0, q172_0), (17, q172_17)]
def q173_0 : List XO := [(4, 1, 1, 0, 0, 0, 0, 0, 0, 0), (0, 1, 0, 0, 0, 0, 0, 0, 0, 0), (0, 3, 0, 0, 2, 0, 0, 0, 9999, 0), (48, 3, 198, 101, 1, 977, 3, 9, 0, 0), (22, 3, 17, 0, 1, 0, 0, 0, 0, 0), (6, 1, 0, 0, 0, 0, 0, 0, 0, 0),
  (0, 1, 0, 0, 0, 0, 0, 0, 5, 0), (48, 3, 123, 31, 0, 643, 2, 9, 0, 0), (27, 1, 0, 0, 0, 0, 0, 0, 0, 0)]
def q173_17 : List XO := [(6, 1, 0, 0, 0, 0, 0, 0, 0, 0), (44, 3, 62, 9, 8, 524, 0, 0, 0, 0), (44, 3, 149, 0, 18, 475, 0, 0, 0, 0), (42, 3, 374, 7, 0, 372, 0, 0, 0, 0), (22, 3, 37, 0, 1, 0, 0, 0, 0, 0), (6, 1, 0, 0, 0, 0, 0, 0, 0, 0),
  (0, 2, 0, 0, 1, 0, 0, 0, 8, 0), (48, 3, 123, 31, 0, 643, 2, 9, 0, 0), (27, 1, 0, 0, 0, 0, 0, 0, 0, 0)]
def q173_37 : List XO := [(6, 1, 0, 0, 0, 0, 0, 0, 0, 0), (44, 3, 51, 9, 6, 522, 0, 0, 0, 0), (6, 1, 0, 0, 0, 0, 0, 0, 0, 0), (44, 3, 62, 9, 8, 524, 0, 0, 0, 0), (4, 1, 1, 0, 0, 0, 0, 0, 0, 0), (48, 3, 378, 174, 0, 1295, 3, 3, 0, 0),
  (6, 1, 0, 0, 0, 0, 0, 0, 0, 0), (44, 3, 55, 9, 7, 523, 0, 0, 0, 0), (0, 1, 0, 0, 0, 0, 0, 0, 0, 0), (6, 1, 0, 0, 0, 0, 0, 0, 0, 0), (44, 3, 51, 9, 6, 522, 0, 0, 0, 0), (42, 3, 382, 3, 4, 330, 0, 0, 0, 0),
  (34, 1, 0, 0, 0, 0, 0, 0, 0, 0), (6, 1, 0, 0, 0, 0, 0, 0, 0, 0), (44, 3, 55, 9, 7, 523, 0, 0, 0, 0), (0, 1, 0, 0, 0, 0, 0, 0, 1, 0), (6, 1, 0, 0, 0, 0, 0, 0, 0, 0), (44, 3, 51, 9, 6, 522, 0, 0, 0, 0),
  (42, 3, 385, 3, 5, 332, 0, 0, 0, 0), (34, 1, 0, 0, 0, 0, 0, 0, 0, 0), (6, 1, 0, 0, 0, 0, 0, 0, 0, 0), (44, 3, 55, 9, 7, 523, 0, 0, 0, 0), (0, 1, 0, 0, 0, 0, 0, 0, 2, 0), (6, 1, 0, 0, 0, 0, 0, 0, 0, 0),
  (44, 3, 51, 9, 6, 522, 0, 0, 0, 0), (42, 3, 386, 3, 6, 334, 0, 0, 0, 0), (34, 1, 0, 0, 0, 0, 0, 0, 0, 0), (6, 1, 0, 0, 0, 0, 0, 0, 0, 0), (44, 3, 55, 9, 7, 523, 0, 0, 0, 0), (0, 1, 0, 0, 0, 0, 0, 0, 3, 0),
  (6, 1, 0, 0, 0, 0, 0, 0, 0, 0), (44, 3, 51, 9, 6, 522, 0, 0, 0, 0), (42, 3, 387, 3, 7, 336, 0, 0, 0, 0), (34, 1, 0, 0, 0, 0, 0, 0, 0, 0), (6, 1, 0, 0, 0, 0, 0, 0, 0, 0), (44, 3, 55, 9, 7, 523, 0, 0, 0, 0),
  (0, 1, 0, 0, 0, 0, 0, 0, 4, 0), (6, 1, 0, 0, 0, 0, 0, 0, 0, 0), (44, 3, 51, 9, 6, 522, 0, 0, 0, 0), (42, 3, 390, 3, 8, 338, 0, 0, 0, 0), (22, 3, 120, 0, 0, 0, 0, 0, 0, 0), (0, 1, 0, 0, 0, 0, 0, 0, 1, 0),
  (24, 3, 121, 0, 0, 0, 0, 0, 0, 0)]
def q173_120 : List XO := [(0, 1, 0, 0, 0, 0, 0, 0, 0, 0), (24, 0, 121, 0, 1, 0, 0, 0, 0, 0)]
def q173_121 : List XO := [(34, 1, 0, 0, 0, 0, 0, 0, 0, 0), (6, 1, 0, 0, 0, 0, 0, 0, 0, 0), (0, 1, 0, 0, 0, 0, 0, 0, 1, 0), (61, 3, 393, 9, 16, 532, 0, 0, 0, 0), (6, 1, 0, 0, 0, 0, 0, 0, 0, 0), (6, 1, 0, 0, 0, 0, 0, 0, 0, 0),
  (44, 3, 51, 9, 6, 522, 0, 0, 0, 0), (42, 3, 396, 3, 3, 328, 0, 0, 0, 0), (48, 3, 146, 83, 0, 878, 2, 9, 0, 0), (27, 1, 0, 0, 0, 0, 0, 0, 0, 0)]
def xt173 : List (Nat × List XO) := [(0, q173_0), (17, q173_17), (37, q173_37), (120, q173_120), (121, q173_121)]
def q174_0 : List XO := [(6, 1, 0, 0, 0, 0, 0, 0, 0, 0), (4, 1, 2, 0, 0, 0, 0, 0, 0, 0), (45, 3, 22, 3, 2, 326, 0, 0, 0, 0), (6, 1, 0, 0, 0, 0, 0, 0, 0, 0), (0, 1, 0, 0, 0, 0, 0, 0, 0, 0), (45, 3, 26, 3, 3, 327, 0, 0, 0, 0),
  (6, 1, 0, 0, 0, 0, 0, 0, 0, 0), (0, 1, 0, 0, 0, 0, 0, 0, 0, 0), (45, 3, 29, 3, 4, 329, 0, 0, 0, 0), (6, 1, 0, 0, 0, 0, 0, 0, 0, 0), (0, 1, 0, 0, 0, 0, 0, 0, 0, 0), (45, 3, 32, 3, 5, 331, 0, 0, 0, 0),
  (6, 1, 0, 0, 0, 0, 0, 0, 0, 0), (0, 1, 0, 0, 0, 0, 0, 0, 0, 0), (45, 3, 35, 3, 6, 333, 0, 0, 0, 0), (6, 1, 0, 0, 0, 0, 0, 0, 0, 0), (0, 1, 0, 0, 0, 0, 0, 0, 0, 0), (45, 3, 38, 3, 7, 335, 0, 0, 0, 0),
  (6, 1, 0, 0, 0, 0, 0, 0, 0, 0), (0, 1, 0, 0, 0, 0, 0, 0, 0, 0), (61, 3, 41, 3, 8, 337, 0, 0, 0, 0), (6, 1, 1, 0, 0, 0, 0, 0, 0, 0), (44, 3, 45, 0, 18, 474, 0, 0, 0, 0), (9, 1, 3, 0, 0, 0, 0, 0, 0, 0),
  (0, 1, 0, 0, 0, 0, 0, 0, 0, 0), (7, 2, 4, 0, 0, 0, 0, 0, 0, 0), (0, 1, 0, 0, 0, 0, 0, 0, 0, 0), (7, 2, 5, 0, 0, 0, 0, 0, 0, 0), (24, 0, 46, 0, 1, 0, 0, 0, 0, 0)]
def q174_46 : List XO := [(4, 2, 5, 0, 0, 0, 0, 0, 0, 0), (0, 2, 51, 0, 3, 1299, 0, 0, 1000000, 0), (23, 3, 156, 0, 3, 0, 0, 0, 0, 0), (6, 1, 3, 0, 0, 0, 0, 0, 0, 0), (4, 2, 4, 0, 0, 0, 0, 0, 0, 0), (48, 3, 52, 89, 0, 1300, 2, 7, 0, 0),
  (22, 3, 156, 0, 0, 0, 0, 0, 0, 0), (6, 1, 0, 0, 0, 0, 0, 0, 0, 0), (42, 3, 41, 3, 8, 337, 0, 0, 0, 0), (22, 3, 156, 0, 1, 0, 0, 0, 0, 0), (6, 1, 3, 0, 0, 0, 0, 0, 0, 0), (44, 3, 58, 7, 3, 379, 0, 0, 0, 0),
  (4, 2, 4, 0, 0, 0, 0, 0, 0, 0), (33, 1, 0, 0, 0, 0, 0, 0, 0, 0), (0, 2, 0, 0, 1, 0, 0, 0, 15, 0), (23, 3, 93, 0, 1, 0, 0, 0, 0, 0), (6, 1, 0, 0, 0, 0, 0, 0, 0, 0), (6, 1, 3, 0, 0, 0, 0, 0, 0, 0),
  (4, 2, 4, 0, 0, 0, 0, 0, 0, 0), (48, 3, 61, 175, 0, 1301, 3, 3, 0, 0), (7, 2, 4, 0, 0, 0, 0, 0, 0, 0), (24, 3, 150, 0, 0, 0, 0, 0, 0, 0)]
def q174_93 : List XO := [(6, 1, 0, 0, 0, 0, 0, 0, 0, 0), (42, 3, 26, 3, 3, 327, 0, 0, 0, 0), (0, 3, 0, 0, 2, 0, 0, 0, 300, 0), (23, 3, 111, 0, 2, 0, 0, 0, 0, 0), (6, 1, 0, 0, 0, 0, 0, 0, 0, 0), (0, 1, 0, 0, 0, 0, 0, 0, 1, 0),
  (61, 3, 41, 3, 8, 337, 0, 0, 0, 0), (24, 3, 150, 0, 0, 0, 0, 0, 0, 0)]
def q174_111 : List XO := [(6, 1, 0, 0, 0, 0, 0, 0, 0, 0), (19, 1, 0, 0, 0, 0, 0, 0, 0, 0), (42, 3, 26, 3, 3, 327, 0, 0, 0, 0), (0, 1, 0, 0, 0, 0, 0, 0, 1, 0), (11, 1, 0, 0, 0, 0, 0, 0, 0, 0), (45, 3, 26, 3, 3, 327, 0, 0, 0, 0),
  (6, 1, 0, 0, 0, 0, 0, 0, 0, 0), (6, 1, 1, 0, 0, 0, 0, 0, 0, 0), (4, 2, 4, 0, 0, 0, 0, 0, 0, 0), (48, 3, 65, 176, 0, 1305, 3, 3, 0, 0), (22, 3, 141, 0, 1, 0, 0, 0, 0, 0), (6, 1, 0, 0, 0, 0, 0, 0, 0, 0),
  (19, 1, 0, 0, 0, 0, 0, 0, 0, 0), (42, 3, 29, 3, 4, 329, 0, 0, 0, 0), (0, 1, 0, 0, 0, 0, 0, 0, 1, 0), (11, 1, 0, 0, 0, 0, 0, 0, 0, 0), (45, 3, 29, 3, 4, 329, 0, 0, 0, 0), (24, 0, 141, 0, 1, 0, 0, 0, 0, 0)]
def q174_141 : List XO := [(6, 1, 0, 0, 0, 0, 0, 0, 0, 0), (6, 1, 1, 0, 0, 0, 0, 0, 0, 0), (4, 2, 4, 0, 0, 0, 0, 0, 0, 0), (48, 3, 69, 181, 0, 1336, 3, 3, 0, 0), (7, 2, 4, 0, 0, 0, 0, 0, 0, 0), (24, 0, 150, 0, 1, 0, 0, 0, 0, 0)]
def q174_150 : List XO := [(10, 3, 5, 0, 0, 0, 0, 0, 1, 0), (24, 3, 46, 0, 0, 0, 0, 0, 0, 0)]
def q174_156 : List XO := [(27, 1, 0, 0, 3, 0, 0, 0, 0, 0)]
def xt174 : List (Nat × List XO) := [(0, q174_0), (46, q174_46), (93, q174_93), (111, q174_111), (141, q174_141), (150, q174_150), (156, q174_156)]
def q175_0 : List XO := [(6, 1, 1, 0, 0, 0, 0, 0, 0, 0), (44, 3, 73, 7, 8, 394, 0, 0, 0, 0), (4, 1, 2, 0, 0, 0, 0, 0, 0, 0), (33, 1, 0, 0, 0, 0, 0, 0, 0, 0), (7, 1, 3, 0, 0, 0, 0, 0, 0, 0), (6, 1, 1, 0, 0, 0, 0, 0, 0, 0),
  (4, 1, 3, 0, 0, 0, 0, 0, 0, 0), (48, 3, 52, 89, 0, 1300, 2, 7, 0, 0), (22, 3, 26, 0, 0, 0, 0, 0, 0, 0), (6, 1, 1, 0, 0, 0, 0, 0, 0, 0), (44, 3, 58, 7, 3, 379, 0, 0, 0, 0), (4, 1, 3, 0, 0, 0, 0, 0, 0, 0),
  (33, 1, 0, 0, 0, 0, 0, 0, 0, 0), (0, 2, 0, 0, 1, 0, 0, 0, 10, 0), (23, 3, 30, 0, 0, 0, 0, 0, 0, 0), (24, 0, 26, 0, 1, 0, 0, 0, 0, 0)]
def q175_26 : List XO := [(4, 1, 2, 0, 0, 0, 0, 0, 0, 0), (0, 1, 0, 0, 0, 0, 0, 0, 1, 0), (11, 1, 0, 0, 0, 0, 0, 0, 0, 0), (27, 1, 0, 0, 0, 0, 0, 0, 0, 0)]
def q175_30 : List XO := [(6, 1, 0, 0, 0, 0, 0, 0, 0, 0), (44, 3, 18, 3, 1, 325, 0, 0, 0, 0), (4, 1, 3, 0, 0, 0, 0, 0, 0, 0), (20, 1, 0, 0, 0, 0, 0, 0, 0, 0), (33, 1, 0, 0, 0, 0, 0, 0, 0, 0), (0, 1, 0, 0, 0, 0, 0, 0, 1, 0),
  (11, 1, 0, 0, 1, 0, 0, 0, 0, 0), (34, 1, 0, 0, 0, 0, 0, 0, 0, 0), (6, 1, 0, 0, 0, 0, 0, 0, 0, 0), (44, 3, 18, 3, 1, 325, 0, 0, 0, 0), (4, 1, 3, 0, 0, 0, 0, 0, 0, 0), (33, 1, 0, 0, 0, 0, 0, 0, 0, 0),
  (22, 3, 55, 0, 5, 0, 0, 0, 0, 0), (4, 1, 3, 0, 0, 0, 0, 0, 0, 0), (0, 1, 0, 0, 0, 0, 0, 0, 1, 0), (11, 1, 0, 0, 0, 0, 0, 0, 0, 0), (24, 3, 58, 0, 0, 0, 0, 0, 0, 0)]
def q175_55 : List XO := [(4, 1, 2, 0, 0, 0, 0, 0, 0, 0), (0, 1, 0, 0, 0, 0, 0, 0, 1, 0), (11, 1, 0, 0, 0, 0, 0, 0, 0, 0), (24, 0, 58, 0, 1, 0, 0, 0, 0, 0)]
def q175_58 : List XO := [(27, 1, 0, 0, 0, 0, 0, 0, 0, 0)]
def xt175 : List (Nat × List XO) := [(0, q175_0), (26, q175_26), (30, q175_30), (55, q175_55), (58, q175_58)]
def q176_0 : List XO := [(6, 1, 1, 0, 0, 0, 0, 0, 0, 0), (44, 3, 45, 0, 18, 474, 0, 0, 0, 0), (9, 1, 3, 0, 0, 0, 0, 0, 0, 0), (6, 1, 3, 0, 0, 0, 0, 0, 0, 0), (44, 3, 85, 7, 4, 382, 0, 0, 0, 0), (4, 1, 2, 0, 0, 0, 0, 0, 0, 0),
  (33, 1, 0, 0, 0, 0, 0, 0, 0, 0), (7, 2, 4, 0, 0, 0, 0, 0, 0, 0), (6, 1, 3, 0, 0, 0, 0, 0, 0, 0), (44, 3, 79, 7, 5, 385, 0, 0, 0, 0), (4, 1, 2, 0, 0, 0, 0, 0, 0, 0), (33, 1, 0, 0, 0, 0, 0, 0, 0, 0),
  (7, 2, 5, 0, 0, 0, 0, 0, 0, 0), (6, 1, 3, 0, 0, 0, 0, 0, 0, 0), (44, 3, 58, 7, 3, 379, 0, 0, 0, 0), (4, 1, 2, 0, 0, 0, 0, 0, 0, 0), (33, 1, 0, 0, 0, 0, 0, 0, 0, 0), (26, 45, 0, 4, 0, 0, 0, 0, 0, 0)]
def q176_72 : List XO := [(6, 1, 0, 0, 0, 0, 0, 0, 0, 0), (6, 1, 1, 0, 0, 0, 0, 0, 0, 0), (4, 2, 4, 0, 0, 0, 0, 0, 0, 0), (4, 2, 5, 0, 0, 0, 0, 0, 0, 0), (48, 3, 108, 177, 0, 1309, 4, 3, 0, 0), (27, 1, 0, 0, 1, 0, 0, 0, 0, 0)]
def q176_82 : List XO := [(6, 1, 1, 0, 0, 0, 0, 0, 0, 0), (4, 2, 5, 0, 0, 0, 0, 0, 0, 0), (48, 3, 112, 111, 0, 1314, 2, 0, 0, 0), (22, 3, 95, 0, 5, 0, 0, 0, 0, 0), (0, 1, 0, 0, 0, 0, 0, 0, 1, 0), (24, 3, 96, 0, 0, 0, 0, 0, 0, 0)]
def q176_95 : List XO := [(0, 1, 0, 0, 0, 0, 0, 0, 0, 0), (24, 0, 96, 0, 1, 0, 0, 0, 0, 0)]
def q176_96 : List XO := [(27, 1, 0, 0, 1, 0, 0, 0, 0, 0)]
def q176_97 : List XO := [(6, 1, 1, 0, 0, 0, 0, 0, 0, 0), (4, 2, 4, 0, 0, 0, 0, 0, 0, 0), (0, 1, 0, 0, 0, 0, 0, 0, 1, 0), (48, 3, 115, 73, 0, 1315, 3, 0, 0, 0), (27, 1, 0, 0, 1, 0, 0, 0, 0, 0)]
def q176_105 : List XO := [(6, 1, 1, 0, 0, 0, 0, 0, 0, 0), (4, 2, 4, 0, 0, 0, 0, 0, 0, 0), (0, 1, 0, 0, 0, 0, 0, 0, 0, 0), (48, 3, 115, 73, 0, 1315, 3, 0, 0, 0), (27, 1, 0, 0, 1, 0, 0, 0, 0, 0)]
def q176_113 : List XO := [(6, 1, 1, 0, 0, 0, 0, 0, 0, 0), (4, 2, 4, 0, 0, 0, 0, 0, 0, 0), (4, 2, 5, 0, 0, 0, 0, 0, 0, 0), (48, 3, 119, 77, 0, 1316, 3, 0, 0, 0), (22, 3, 128, 0, 1, 0, 0, 0, 0, 0), (0, 1, 0, 0, 0, 0, 0, 0, 1, 0),
  (24, 3, 129, 0, 0, 0, 0, 0, 0, 0)]
def q176_128 : List XO := [(0, 1, 0, 0, 0, 0, 0, 0, 0, 0), (24, 0, 129, 0, 1, 0, 0, 0, 0, 0)]
def q176_129 : List XO := [(27, 1, 0, 0, 1, 0, 0, 0, 0, 0)]
def q176_130 : List XO := [(6, 1, 1, 0, 0, 0, 0, 0, 0, 0), (4, 2, 4, 0, 0, 0, 0, 0, 0, 0), (48, 3, 123, 115, 0, 1317, 2, 0, 0, 0), (22, 3, 143, 0, 5, 0, 0, 0, 0, 0), (0, 1, 0, 0, 0, 0, 0, 0, 1, 0), (24, 3, 144, 0, 0, 0, 0, 0, 0, 0)]
def q176_143 : List XO := [(0, 1, 0, 0, 0, 0, 0, 0, 0, 0), (24, 0, 144, 0, 1, 0, 0, 0, 0, 0)]
def q176_144 : List XO := [(27, 1, 0, 0, 1, 0, 0, 0, 0, 0)]
def q176_145 : List XO := [(6, 1, 0, 0, 0, 0, 0, 0, 0, 0), (6, 1, 1, 0, 0, 0, 0, 0, 0, 0), (4, 1, 2, 0, 0, 0, 0, 0, 0, 0), (48, 3, 126, 178, 0, 1318, 3, 3, 0, 0), (27, 1, 0, 0, 1, 0, 0, 0, 0, 0)]
def q176_152 : List XO := [(6, 1, 0, 0, 0, 0, 0, 0, 0, 0), (6, 1, 1, 0, 0, 0, 0, 0, 0, 0), (48, 3, 129, 179, 0, 1326, 2, 3, 0, 0), (27, 1, 0, 0, 1, 0, 0, 0, 0, 0)]
def q176_158 : List XO := [(0, 1, 0, 0, 0, 0, 0, 0, 1, 0), (27, 1, 0, 0, 1, 0, 0, 0, 0, 0)]
def xt176 : List (Nat × List XO) := [(0, q176_0), (72, q176_72), (82, q176_82), (95, q176_95), (96, q176_96), (97, q176_97), (105, q176_105), (113, q176_113),
  (128, q176_128), (129, q176_129), (130, q176_130), (143, q176_143), (144, q176_144), (145, q176_145), (152, q176_152), (158, q176_158)]
def q177_0 : List XO := [(6, 1, 1, 0, 0, 0, 0, 0, 0, 0), (4, 1, 2, 0, 0, 0, 0, 0, 0, 0), (4, 1, 3, 0, 0, 0, 0, 0, 0, 0), (48, 3, 133, 109, 0, 1313, 3, 0, 0, 0), (22, 3, 11, 0, 1, 0, 0, 0, 0, 0), (0, 1, 0, 0, 0, 0, 0, 0, 0, 0),
  (27, 1, 0, 0, 1, 0, 0, 0, 0, 0)]
def q177_11 : List XO := [(6, 1, 0, 0, 0, 0, 0, 0, 0, 0), (19, 1, 0, 0, 0, 0, 0, 0, 0, 0), (42, 3, 38, 3, 7, 335, 0, 0, 0, 0), (0, 1, 0, 0, 0, 0, 0, 0, 1, 0), (11, 1, 0, 0, 0, 0, 0, 0, 0, 0), (45, 3, 38, 3, 7, 335, 0, 0, 0, 0),
  (0, 1, 0, 0, 0, 0, 0, 0, 1, 0), (27, 1, 0, 0, 1, 0, 0, 0, 0, 0)]
def xt177 : List (Nat × List XO) := [(0, q177_0), (11, q177_11)]
def q178_0 : List XO := [(6, 1, 1, 0, 0, 0, 0, 0, 0, 0), (44, 3, 45, 0, 18, 474, 0, 0, 0, 0), (9, 1, 3, 0, 0, 0, 0, 0, 0, 0), (6, 1, 1, 0, 0, 0, 0, 0, 0, 0), (6, 1, 3, 0, 0, 0, 0, 0, 0, 0), (44, 3, 85, 7, 4, 382, 0, 0, 0, 0),
  (4, 1, 2, 0, 0, 0, 0, 0, 0, 0), (33, 1, 0, 0, 0, 0, 0, 0, 0, 0), (48, 3, 88, 72, 0, 1322, 2, 0, 0, 0), (22, 3, 20, 0, 1, 0, 0, 0, 0, 0), (0, 1, 0, 0, 0, 0, 0, 0, 0, 0), (27, 1, 0, 0, 1, 0, 0, 0, 0, 0)]
def q178_20 : List XO := [(6, 1, 1, 0, 0, 0, 0, 0, 0, 0), (0, 1, 0, 0, 0, 0, 0, 0, 1, 0), (6, 1, 3, 0, 0, 0, 0, 0, 0, 0), (44, 3, 85, 7, 4, 382, 0, 0, 0, 0), (4, 1, 2, 0, 0, 0, 0, 0, 0, 0), (33, 1, 0, 0, 0, 0, 0, 0, 0, 0),
  (11, 1, 0, 0, 6, 0, 0, 0, 0, 0), (48, 3, 137, 122, 0, 1323, 2, 0, 0, 0), (7, 2, 4, 0, 0, 0, 0, 0, 0, 0), (6, 1, 0, 0, 0, 0, 0, 0, 0, 0), (44, 3, 12, 3, 0, 324, 0, 0, 0, 0), (6, 1, 1, 0, 0, 0, 0, 0, 0, 0),
  (4, 2, 4, 0, 0, 0, 0, 0, 0, 0), (6, 1, 3, 0, 0, 0, 0, 0, 0, 0), (44, 3, 79, 7, 5, 385, 0, 0, 0, 0), (4, 1, 2, 0, 0, 0, 0, 0, 0, 0), (33, 1, 0, 0, 0, 0, 0, 0, 0, 0), (6, 1, 3, 0, 0, 0, 0, 0, 0, 0),
  (44, 3, 98, 7, 6, 388, 0, 0, 0, 0), (4, 1, 2, 0, 0, 0, 0, 0, 0, 0), (33, 1, 0, 0, 0, 0, 0, 0, 0, 0), (48, 3, 140, 125, 0, 1324, 5, 4, 0, 0), (22, 3, 61, 0, 1, 0, 0, 0, 0, 0), (0, 1, 0, 0, 0, 0, 0, 0, 0, 0),
  (27, 1, 0, 0, 1, 0, 0, 0, 0, 0)]
def q178_61 : List XO := [(6, 1, 0, 0, 0, 0, 0, 0, 0, 0), (44, 3, 12, 3, 0, 324, 0, 0, 0, 0), (6, 1, 1, 0, 0, 0, 0, 0, 0, 0), (6, 1, 3, 0, 0, 0, 0, 0, 0, 0), (44, 3, 144, 7, 7, 392, 0, 0, 0, 0), (4, 1, 2, 0, 0, 0, 0, 0, 0, 0),
  (33, 1, 0, 0, 0, 0, 0, 0, 0, 0), (48, 3, 147, 131, 0, 1325, 3, 4, 0, 0), (22, 3, 91, 0, 0, 0, 0, 0, 0, 0), (6, 1, 0, 0, 0, 0, 0, 0, 0, 0), (19, 1, 0, 0, 0, 0, 0, 0, 0, 0), (42, 3, 35, 3, 6, 333, 0, 0, 0, 0),
  (0, 1, 0, 0, 0, 0, 0, 0, 1, 0), (11, 1, 0, 0, 0, 0, 0, 0, 0, 0), (45, 3, 35, 3, 6, 333, 0, 0, 0, 0), (24, 3, 101, 0, 0, 0, 0, 0, 0, 0)]
def q178_91 : List XO := [(6, 1, 0, 0, 0, 0, 0, 0, 0, 0), (19, 1, 0, 0, 0, 0, 0, 0, 0, 0), (42, 3, 32, 3, 5, 331, 0, 0, 0, 0), (0, 1, 0, 0, 0, 0, 0, 0, 1, 0), (11, 1, 0, 0, 0, 0, 0, 0, 0, 0), (45, 3, 32, 3, 5, 331, 0, 0, 0, 0),
  (24, 0, 101, 0, 1, 0, 0, 0, 0, 0)]
def q178_101 : List XO := [(0, 1, 0, 0, 0, 0, 0, 0, 1, 0), (27, 1, 0, 0, 1, 0, 0, 0, 0, 0)]
def xt178 : List (Nat × List XO) := [(0, q178_0), (20, q178_20), (61, q178_61), (91, q178_91), (101, q178_101)]
def q179_0 : List XO := [(6, 1, 1, 0, 0, 0, 0, 0, 0, 0), (42, 3, 150, 0, 7, 446, 0, 0, 0, 0), (22, 3, 9, 0, 1, 0, 0, 0, 0, 0), (0, 1, 0, 0, 0, 0, 0, 0, 0, 0), (27, 1, 0, 0, 1, 0, 0, 0, 0, 0)]
def q179_9 : List XO := [(6, 1, 0, 0, 0, 0, 0, 0, 0, 0), (6, 1, 1, 0, 0, 0, 0, 0, 0, 0), (42, 3, 150, 0, 7, 446, 0, 0, 0, 0), (48, 3, 153, 180, 0, 1330, 2, 3, 0, 0), (7, 1, 2, 0, 0, 0, 0, 0, 0, 0), (6, 1, 0, 0, 0, 0, 0, 0, 0, 0),
  (0, 2, 0, 0, 1, 0, 0, 0, 16, 0), (48, 3, 153, 180, 0, 1330, 2, 3, 0, 0), (6, 1, 1, 0, 0, 0, 0, 0, 0, 0), (42, 3, 156, 0, 2, 434, 0, 0, 0, 0), (23, 3, 39, 0, 3, 0, 0, 0, 0, 0), (6, 1, 0, 0, 0, 0, 0, 0, 0, 0),
  (6, 1, 1, 0, 0, 0, 0, 0, 0, 0), (4, 1, 2, 0, 0, 0, 0, 0, 0, 0), (0, 1, 0, 0, 0, 0, 0, 0, 1, 0), (48, 3, 108, 177, 0, 1309, 4, 3, 0, 0), (27, 1, 0, 0, 1, 0, 0, 0, 0, 0)]
def q179_39 : List XO := [(6, 1, 1, 0, 0, 0, 0, 0, 0, 0), (4, 1, 2, 0, 0, 0, 0, 0, 0, 0), (6, 1, 1, 0, 0, 0, 0, 0, 0, 0), (4, 1, 2, 0, 0, 0, 0, 0, 0, 0), (48, 3, 105, 74, 0, 1335, 2, 0, 0, 0), (48, 3, 115, 73, 0, 1315, 3, 0, 0, 0),
  (27, 1, 0, 0, 1, 0, 0, 0, 0, 0)]
def xt179 : List (Nat × List XO) := [(0, q179_0), (9, q179_9), (39, q179_39)]
def q180_0 : List XO := [(6, 1, 0, 0, 0, 0, 0, 0, 0, 0), (6, 1, 0, 0, 0, 0, 0, 0, 0, 0), (42, 3, 22, 3, 2, 326, 0, 0, 0, 0), (0, 3, 0, 0, 2, 0, 0, 0, 2971, 0), (11, 1, 0, 0, 2, 0, 0, 0, 0, 0), (0, 3, 0, 0, 2, 0, 0, 0, 10883, 0),
  (11, 1, 0, 0, 0, 0, 0, 0, 0, 0), (0, 2, 159, 0, 3, 1334, 0, 0, 65536, 0), (12, 1, 0, 0, 1, 0, 0, 0, 0, 0), (45, 3, 22, 3, 2, 326, 0, 0, 0, 0), (4, 1, 1, 0, 0, 0, 0, 0, 0, 0), (22, 3, 35, 0, 5, 0, 0, 0, 0, 0),
  (6, 1, 0, 0, 0, 0, 0, 0, 0, 0), (42, 3, 22, 3, 2, 326, 0, 0, 0, 0), (0, 2, 0, 0, 1, 0, 0, 0, 8, 0), (12, 1, 0, 0, 0, 0, 0, 0, 0, 0), (4, 1, 1, 0, 0, 0, 0, 0, 0, 0), (12, 1, 0, 0, 1, 0, 0, 0, 0, 0),
  (24, 3, 36, 0, 0, 0, 0, 0, 0, 0)]
def q180_35 : List XO := [(0, 1, 0, 0, 0, 0, 0, 0, 0, 0), (24, 0, 36, 0, 1, 0, 0, 0, 0, 0)]
def q180_36 : List XO := [(27, 1, 0, 0, 0, 0, 0, 0, 0, 0)]
def xt180 : List (Nat × List XO) := [(0, q180_0), (35, q180_35), (36, q180_36)]
def q181_0 : List XO := [(6, 1, 1, 0, 0, 0, 0, 0, 0, 0), (44, 3, 45, 0, 18, 474, 0, 0, 0, 0), (9, 1, 3, 0, 0, 0, 0, 0, 0, 0), (6, 1, 3, 0, 0, 0, 0, 0, 0, 0), (44, 3, 58, 7, 3, 379, 0, 0, 0, 0), (4, 1, 2, 0, 0, 0, 0, 0, 0, 0),
  (33, 1, 0, 0, 0, 0, 0, 0, 0, 0), (26, 37, 0, 5, 0, 0, 0, 0, 0, 0)]
def q181_48 : List XO := [(6, 1, 3, 0, 0, 0, 0, 0, 0, 0), (42, 3, 76, 7, 2, 377, 0, 0, 0, 0), (27, 1, 0, 0, 0, 0, 0, 0, 0, 0)]
def q181_53 : List XO := [(6, 1, 0, 0, 0, 0, 0, 0, 0, 0), (44, 3, 18, 3, 1, 325, 0, 0, 0, 0), (4, 1, 2, 0, 0, 0, 0, 0, 0, 0), (6, 1, 3, 0, 0, 0, 0, 0, 0, 0), (44, 3, 79, 7, 5, 385, 0, 0, 0, 0), (4, 1, 2, 0, 0, 0, 0, 0, 0, 0),
  (33, 1, 0, 0, 0, 0, 0, 0, 0, 0), (34, 1, 0, 0, 0, 0, 0, 0, 0, 0), (4, 1, 2, 0, 0, 0, 0, 0, 0, 0), (0, 1, 0, 0, 0, 0, 0, 0, 1, 0), (11, 1, 0, 0, 0, 0, 0, 0, 0, 0), (27, 1, 0, 0, 0, 0, 0, 0, 0, 0)]
def q181_69 : List XO := [(6, 1, 1, 0, 0, 0, 0, 0, 0, 0), (4, 1, 2, 0, 0, 0, 0, 0, 0, 0), (48, 3, 82, 182, 1, 1340, 2, 3, 0, 0), (22, 3, 83, 0, 0, 0, 0, 0, 0, 0), (4, 1, 2, 0, 0, 0, 0, 0, 0, 0), (0, 1, 0, 0, 0, 0, 0, 0, 1, 0),
  (11, 1, 0, 0, 0, 0, 0, 0, 0, 0), (24, 3, 91, 0, 0, 0, 0, 0, 0, 0)]
def q181_83 : List XO := [(6, 1, 3, 0, 0, 0, 0, 0, 0, 0), (44, 3, 73, 7, 8, 394, 0, 0, 0, 0), (4, 1, 2, 0, 0, 0, 0, 0, 0, 0), (33, 1, 0, 0, 0, 0, 0, 0, 0, 0), (0, 1, 0, 0, 0, 0, 0, 0, 1, 0), (11, 1, 0, 0, 0, 0, 0, 0, 0, 0),
  (24, 0, 91, 0, 1, 0, 0, 0, 0, 0)]
def q181_91 : List XO := [(27, 1, 0, 0, 0, 0, 0, 0, 0, 0)]
def q181_92 : List XO := [(4, 1, 2, 0, 0, 0, 0, 0, 0, 0), (0, 1, 0, 0, 0, 0, 0, 0, 1, 0), (11, 1, 0, 0, 0, 0, 0, 0, 0, 0), (27, 1, 0, 0, 0, 0, 0, 0, 0, 0)]
def xt181 : List (Nat × List XO) := [(0, q181_0), (48, q181_48), (53, q181_53), (69, q181_69), (83, q181_83), (91, q181_91), (92, q181_92)]
def q182_0 : List XO := [(6, 1, 0, 0, 0, 0, 0, 0, 0, 0), (44, 3, 45, 0, 18, 474, 0, 0, 0, 0), (9, 1, 2, 0, 0, 0, 0, 0, 0, 0), (6, 1, 2, 0, 0, 0, 0, 0, 0, 0), (44, 3, 85, 7, 4, 382, 0, 0, 0, 0), (4, 1, 1, 0, 0, 0, 0, 0, 0, 0),
  (33, 1, 0, 0, 0, 0, 0, 0, 0, 0), (7, 1, 3, 0, 0, 0, 0, 0, 0, 0), (6, 1, 0, 0, 0, 0, 0, 0, 0, 0), (4, 1, 3, 0, 0, 0, 0, 0, 0, 0), (48, 3, 88, 72, 0, 1322, 2, 0, 0, 0), (22, 3, 22, 0, 1, 0, 0, 0, 0, 0),
  (0, 1, 0, 0, 0, 0, 0, 0, 0, 0), (27, 1, 0, 0, 1, 0, 0, 0, 0, 0)]
def q182_22 : List XO := [(6, 1, 2, 0, 0, 0, 0, 0, 0, 0), (44, 3, 79, 7, 5, 385, 0, 0, 0, 0), (4, 1, 1, 0, 0, 0, 0, 0, 0, 0), (33, 1, 0, 0, 0, 0, 0, 0, 0, 0), (7, 2, 4, 0, 0, 0, 0, 0, 0, 0), (6, 1, 2, 0, 0, 0, 0, 0, 0, 0),
  (44, 3, 58, 7, 3, 379, 0, 0, 0, 0), (4, 1, 1, 0, 0, 0, 0, 0, 0, 0), (33, 1, 0, 0, 0, 0, 0, 0, 0, 0), (26, 28, 0, 6, 1, 0, 0, 0, 0, 0)]
def q182_64 : List XO := [(6, 1, 0, 0, 0, 0, 0, 0, 0, 0), (4, 1, 3, 0, 0, 0, 0, 0, 0, 0), (48, 3, 91, 105, 0, 1343, 2, 0, 0, 0), (4, 2, 4, 0, 0, 0, 0, 0, 0, 0), (11, 1, 0, 0, 7, 0, 0, 0, 0, 0), (0, 1, 0, 0, 0, 0, 0, 0, 1, 0),
  (11, 1, 0, 0, 3, 0, 0, 0, 0, 0), (22, 3, 81, 0, 0, 0, 0, 0, 0, 0), (0, 1, 0, 0, 0, 0, 0, 0, 1, 0), (24, 3, 82, 0, 0, 0, 0, 0, 0, 0)]
def q182_81 : List XO := [(0, 1, 0, 0, 0, 0, 0, 0, 0, 0), (24, 0, 82, 0, 1, 0, 0, 0, 0, 0)]
def q182_82 : List XO := [(27, 1, 0, 0, 1, 0, 0, 0, 0, 0)]
def q182_83 : List XO := [(6, 1, 0, 0, 0, 0, 0, 0, 0, 0), (44, 3, 95, 0, 13, 459, 0, 0, 0, 0), (4, 1, 3, 0, 0, 0, 0, 0, 0, 0), (33, 1, 0, 0, 0, 0, 0, 0, 0, 0), (6, 1, 2, 0, 0, 0, 0, 0, 0, 0), (44, 3, 98, 7, 6, 388, 0, 0, 0, 0),
  (4, 1, 1, 0, 0, 0, 0, 0, 0, 0), (33, 1, 0, 0, 0, 0, 0, 0, 0, 0), (4, 2, 4, 0, 0, 0, 0, 0, 0, 0), (48, 3, 101, 183, 1, 1344, 3, 3, 0, 0), (27, 1, 0, 0, 1, 0, 0, 0, 0, 0)]
def q182_101 : List XO := [(6, 1, 0, 0, 0, 0, 0, 0, 0, 0), (4, 1, 3, 0, 0, 0, 0, 0, 0, 0), (48, 3, 105, 74, 0, 1335, 2, 0, 0, 0), (22, 3, 113, 0, 1, 0, 0, 0, 0, 0), (0, 1, 0, 0, 0, 0, 0, 0, 1, 0), (24, 3, 114, 0, 0, 0, 0, 0, 0, 0)]
def q182_113 : List XO := [(0, 1, 0, 0, 0, 0, 0, 0, 0, 0), (24, 0, 114, 0, 1, 0, 0, 0, 0, 0)]
def q182_114 : List XO := [(27, 1, 0, 0, 1, 0, 0, 0, 0, 0)]
def xt182 : List (Nat × List XO) := [(0, q182_0), (22, q182_22), (64, q182_64), (81, q182_81), (82, q182_82), (83, q182_83), (101, q182_101), (113, q182_113),
  (114, q182_114)]
def q183_0 : List XO := [(4, 1, 1, 0, 0, 0, 0, 0, 0, 0), (0, 2, 0, 0, 1, 0, 0, 0, 60, 0), (23, 3, 17, 0, 1, 0, 0, 0, 0, 0), (4, 1, 0, 0, 0, 0, 0, 0, 0, 0), (4, 1, 2, 0, 0, 0, 0, 0, 0, 0), (23, 3, 15, 0, 3, 0, 0, 0, 0, 0),
  (0, 1, 0, 0, 0, 0, 0, 0, 1, 0), (24, 3, 16, 0, 0, 0, 0, 0, 0, 0)]
def q183_15 : List XO := [(0, 1, 0, 0, 0, 0, 0, 0, 0, 0), (24, 0, 16, 0, 1, 0, 0, 0, 0, 0)]
def q183_16 : List XO := [(27, 1, 0, 0, 1, 0, 0, 0, 0, 0)]
def q183_17 : List XO := [(4, 1, 1, 0, 0, 0, 0, 0, 0, 0), (0, 2, 0, 0, 1, 0, 0, 0, 62, 0), (23, 3, 36, 0, 1, 0, 0, 0, 0, 0), (4, 1, 0, 0, 0, 0, 0, 0, 0, 0), (4, 1, 2, 0, 0, 0, 0, 0, 0, 0), (23, 3, 32, 0, 5, 0, 0, 0, 0, 0),
  (0, 1, 0, 0, 0, 0, 0, 0, 1, 0), (24, 3, 46, 0, 0, 0, 0, 0, 0, 0)]
def q183_32 : List XO := [(0, 1, 0, 0, 0, 0, 0, 0, 0, 0), (24, 3, 46, 0, 0, 0, 0, 0, 0, 0)]
def q183_36 : List XO := [(4, 1, 0, 0, 0, 0, 0, 0, 0, 0), (4, 1, 2, 0, 0, 0, 0, 0, 0, 0), (23, 3, 45, 0, 1, 0, 0, 0, 0, 0), (0, 1, 0, 0, 0, 0, 0, 0, 1, 0), (24, 3, 46, 0, 0, 0, 0, 0, 0, 0)]
def q183_45 : List XO := [(0, 1, 0, 0, 0, 0, 0, 0, 0, 0), (24, 0, 46, 0, 1, 0, 0, 0, 0, 0)]
def q183_46 : List XO := [(27, 1, 0, 0, 1, 0, 0, 0, 0, 0)]
def xt183 : List (Nat × List XO) := [(0, q183_0), (15, q183_15), (16, q183_16), (17, q183_17), (32, q183_32), (36, q183_36), (45, q183_45), (46, q183_46)]
def q184_0 : List XO := [(4, 1, 1, 0, 0, 0, 0, 0, 0, 0), (0, 1, 0, 0, 0, 0, 0, 0, 0, 0), (6, 1, 0, 0, 0, 0, 0, 0, 0, 0), (44, 3, 55, 9, 7, 523, 0, 0, 0, 0), (32, 1, 0, 0, 0, 0, 0, 0, 0, 0), (0, 1, 0, 0, 0, 0, 0, 0, 1, 0),
  (11, 1, 0, 0, 1, 0, 0, 0, 0, 0), (48, 3, 198, 101, 1, 977, 3, 9, 0, 0), (22, 3, 21, 0, 1, 0, 0, 0, 0, 0), (6, 1, 0, 0, 0, 0, 0, 0, 0, 0), (0, 1, 0, 0, 0, 0, 0, 0, 5, 0), (48, 3, 123, 31, 0, 643, 2, 9, 0, 0),
  (27, 1, 0, 0, 0, 0, 0, 0, 0, 0)]
def q184_21 : List XO := [(6, 1, 0, 0, 0, 0, 0, 0, 0, 0), (42, 3, 393, 9, 16, 532, 0, 0, 0, 0), (22, 3, 41, 0, 0, 0, 0, 0, 0, 0), (6, 1, 0, 0, 0, 0, 0, 0, 0, 0), (6, 1, 0, 0, 0, 0, 0, 0, 0, 0), (44, 3, 55, 9, 7, 523, 0, 0, 0, 0),
  (4, 1, 1, 0, 0, 0, 0, 0, 0, 0), (33, 1, 0, 0, 0, 0, 0, 0, 0, 0), (48, 3, 146, 83, 0, 878, 2, 9, 0, 0), (24, 3, 47, 0, 0, 0, 0, 0, 0, 0)]
def q184_41 : List XO := [(6, 1, 0, 0, 0, 0, 0, 0, 0, 0), (0, 2, 0, 0, 1, 0, 0, 0, 8, 0), (48, 3, 123, 31, 0, 643, 2, 9, 0, 0), (24, 0, 47, 0, 1, 0, 0, 0, 0, 0)]
def q184_47 : List XO := [(27, 1, 0, 0, 0, 0, 0, 0, 0, 0)]
def xt184 : List (Nat × List XO) := [(0, q184_0), (21, q184_21), (41, q184_41), (47, q184_47)]
def q185_0 : List XO := [(4, 1, 2, 0, 0, 0, 0, 0, 0, 0), (0, 1, 0, 0, 0, 0, 0, 0, 1, 0), (0, 2, 0, 0, 1, 0, 0, 0, 20, 0), (48, 3, 198, 101, 1, 977, 3, 9, 0, 0), (22, 3, 29, 0, 0, 0, 0, 0, 0, 0), (4, 1, 1, 0, 0, 0, 0, 0, 0, 0),
  (0, 1, 0, 0, 0, 0, 0, 0, 0, 0), (0, 3, 0, 0, 2, 0, 0, 0, 9999, 0), (4, 1, 2, 0, 0, 0, 0, 0, 0, 0), (11, 1, 0, 0, 1, 0, 0, 0, 0, 0), (0, 1, 0, 0, 0, 0, 0, 0, 1, 0), (11, 1, 0, 0, 0, 0, 0, 0, 0, 0),
  (48, 3, 198, 101, 1, 977, 3, 9, 0, 0), (22, 3, 29, 0, 0, 0, 0, 0, 0, 0), (0, 1, 0, 0, 0, 0, 0, 0, 1, 0), (24, 3, 30, 0, 0, 0, 0, 0, 0, 0)]
def q185_29 : List XO := [(0, 1, 0, 0, 0, 0, 0, 0, 0, 0), (24, 0, 30, 0, 1, 0, 0, 0, 0, 0)]
def q185_30 : List XO := [(7, 1, 3, 0, 0, 0, 0, 0, 0, 0), (4, 1, 3, 0, 0, 0, 0, 0, 0, 0), (22, 3, 41, 0, 1, 0, 0, 0, 0, 0), (6, 1, 0, 0, 0, 0, 0, 0, 0, 0), (0, 1, 0, 0, 0, 0, 0, 0, 5, 0), (48, 3, 94, 19, 0, 591, 2, 9, 0, 0),
  (27, 1, 0, 0, 1, 0, 0, 0, 0, 0)]
def q185_41 : List XO := [(6, 1, 0, 0, 0, 0, 0, 0, 0, 0), (44, 3, 62, 9, 8, 524, 0, 0, 0, 0), (44, 3, 149, 0, 18, 475, 0, 0, 0, 0), (42, 3, 374, 7, 0, 372, 0, 0, 0, 0), (22, 3, 61, 0, 1, 0, 0, 0, 0, 0), (6, 1, 0, 0, 0, 0, 0, 0, 0, 0),
  (0, 2, 0, 0, 1, 0, 0, 0, 8, 0), (48, 3, 94, 19, 0, 591, 2, 9, 0, 0), (27, 1, 0, 0, 1, 0, 0, 0, 0, 0)]
def q185_61 : List XO := [(0, 1, 0, 0, 0, 0, 0, 0, 0, 0), (7, 2, 4, 0, 0, 0, 0, 0, 0, 0), (0, 1, 0, 0, 0, 0, 0, 0, 0, 0), (7, 2, 5, 0, 0, 0, 0, 0, 0, 0), (24, 0, 67, 0, 1, 0, 0, 0, 0, 0)]
def q185_67 : List XO := [(4, 2, 5, 0, 0, 0, 0, 0, 0, 0), (4, 1, 2, 0, 0, 0, 0, 0, 0, 0), (23, 3, 117, 0, 3, 0, 0, 0, 0, 0), (6, 1, 0, 0, 0, 0, 0, 0, 0, 0), (44, 3, 66, 9, 9, 525, 0, 0, 0, 0), (6, 1, 0, 0, 0, 0, 0, 0, 0, 0),
  (44, 3, 62, 9, 8, 524, 0, 0, 0, 0), (48, 3, 139, 80, 0, 864, 2, 0, 0, 0), (6, 1, 0, 0, 0, 0, 0, 0, 0, 0), (44, 3, 51, 9, 6, 522, 0, 0, 0, 0), (6, 1, 0, 0, 0, 0, 0, 0, 0, 0), (44, 3, 66, 9, 9, 525, 0, 0, 0, 0),
  (4, 1, 1, 0, 0, 0, 0, 0, 0, 0), (4, 2, 5, 0, 0, 0, 0, 0, 0, 0), (11, 1, 0, 0, 0, 0, 0, 0, 0, 0), (48, 3, 378, 174, 0, 1295, 3, 3, 0, 0), (4, 2, 4, 0, 0, 0, 0, 0, 0, 0), (6, 1, 0, 0, 0, 0, 0, 0, 0, 0),
  (44, 3, 66, 9, 9, 525, 0, 0, 0, 0), (48, 3, 397, 186, 0, 1355, 1, 0, 0, 0), (11, 1, 0, 0, 0, 0, 0, 0, 0, 0), (7, 2, 4, 0, 0, 0, 0, 0, 0, 0), (10, 3, 5, 0, 0, 0, 0, 0, 1, 0), (24, 3, 67, 0, 0, 0, 0, 0, 0, 0)]
def q185_117 : List XO := [(6, 1, 0, 0, 0, 0, 0, 0, 0, 0), (44, 3, 12, 9, 0, 516, 0, 0, 0, 0), (4, 2, 4, 0, 0, 0, 0, 0, 0, 0), (17, 1, 0, 0, 0, 0, 0, 0, 0, 0), (4, 1, 2, 0, 0, 0, 0, 0, 0, 0), (17, 1, 0, 0, 0, 0, 0, 0, 0, 0),
  (48, 3, 371, 169, 0, 1290, 3, 2, 0, 0), (6, 1, 0, 0, 0, 0, 0, 0, 0, 0), (0, 1, 0, 0, 0, 0, 0, 0, 0, 0), (48, 3, 94, 19, 0, 591, 2, 9, 0, 0), (27, 1, 0, 0, 1, 0, 0, 0, 0, 0)]
def xt185 : List (Nat × List XO) := [(0, q185_0), (29, q185_29), (30, q185_30), (41, q185_41), (61, q185_61), (67, q185_67), (117, q185_117)]
def q186_0 : List XO := [(0, 1, 0, 0, 0, 0, 0, 0, 0, 0), (7, 1, 1, 0, 0, 0, 0, 0, 0, 0), (0, 1, 0, 0, 0, 0, 0, 0, 0, 0), (7, 1, 2, 0, 0, 0, 0, 0, 0, 0), (24, 0, 4, 0, 1, 0, 0, 0, 0, 0)]
def q186_4 : List XO := [(4, 1, 2, 0, 0, 0, 0, 0, 0, 0), (6, 1, 0, 0, 0, 0, 0, 0, 0, 0), (42, 3, 66, 0, 7, 444, 0, 0, 0, 0), (23, 3, 27, 0, 3, 0, 0, 0, 0, 0), (4, 1, 1, 0, 0, 0, 0, 0, 0, 0), (6, 1, 0, 0, 0, 0, 0, 0, 0, 0),
  (44, 3, 37, 0, 13, 458, 0, 0, 0, 0), (4, 1, 2, 0, 0, 0, 0, 0, 0, 0), (33, 1, 0, 0, 0, 0, 0, 0, 0, 0), (11, 1, 0, 0, 0, 0, 0, 0, 0, 0), (7, 1, 1, 0, 0, 0, 0, 0, 0, 0), (10, 3, 2, 0, 0, 0, 0, 0, 1, 0),
  (24, 3, 4, 0, 0, 0, 0, 0, 0, 0)]
def q186_27 : List XO := [(4, 1, 1, 0, 0, 0, 0, 0, 0, 0), (27, 1, 0, 0, 0, 0, 0, 0, 0, 0)]
def xt186 : List (Nat × List XO) := [(0, q186_0), (4, q186_4), (27, q186_27)]
def q187_0 : List XO := [(6, 1, 0, 0, 0, 0, 0, 0, 0, 0), (42, 3, 400, 9, 11, 527, 0, 0, 0, 0), (0, 1, 0, 0, 0, 0, 0, 0, 0, 0), (6, 1, 0, 0, 0, 0, 0, 0, 0, 0), (44, 3, 69, 9, 10, 526, 0, 0, 0, 0), (32, 1, 0, 0, 0, 0, 0, 0, 0, 0),
  (0, 1, 0, 0, 0, 0, 0, 0, 1, 0), (11, 1, 0, 0, 1, 0, 0, 0, 0, 0), (48, 3, 198, 101, 1, 977, 3, 9, 0, 0), (22, 3, 25, 0, 1, 0, 0, 0, 0, 0), (6, 1, 0, 0, 0, 0, 0, 0, 0, 0), (0, 2, 0, 0, 1, 0, 0, 0, 7, 0),
  (48, 3, 123, 31, 0, 643, 2, 9, 0, 0), (27, 1, 0, 0, 0, 0, 0, 0, 0, 0)]
def q187_25 : List XO := [(6, 1, 0, 0, 0, 0, 0, 0, 0, 0), (44, 3, 69, 9, 10, 526, 0, 0, 0, 0), (6, 1, 0, 0, 0, 0, 0, 0, 0, 0), (42, 3, 400, 9, 11, 527, 0, 0, 0, 0), (39, 1, 0, 0, 0, 0, 0, 0, 0, 0), (25, 3, 53, 0, 1, 0, 0, 0, 0, 0),
  (6, 1, 0, 0, 0, 0, 0, 0, 0, 0), (44, 3, 69, 9, 10, 526, 0, 0, 0, 0), (6, 1, 0, 0, 0, 0, 0, 0, 0, 0), (42, 3, 400, 9, 11, 527, 0, 0, 0, 0), (28, 3, 59, 0, 0, 358, 0, 0, 0, 0), (19, 1, 0, 0, 0, 0, 0, 0, 0, 0),
  (55, 3, 61, 9, 2, 360, 1, 0, 0, 0), (40, 1, 0, 0, 0, 0, 0, 0, 0, 0), (24, 0, 53, 0, 1, 0, 0, 0, 0, 0)]
def q187_53 : List XO := [(6, 1, 0, 0, 0, 0, 0, 0, 0, 0), (44, 3, 69, 9, 10, 526, 0, 0, 0, 0), (6, 1, 0, 0, 0, 0, 0, 0, 0, 0), (42, 3, 400, 9, 11, 527, 0, 0, 0, 0), (39, 1, 0, 0, 0, 0, 0, 0, 0, 0), (6, 1, 0, 0, 0, 0, 0, 0, 0, 0),
  (44, 3, 62, 9, 8, 524, 0, 0, 0, 0), (48, 3, 139, 80, 0, 864, 2, 0, 0, 0), (6, 1, 0, 0, 0, 0, 0, 0, 0, 0), (19, 1, 0, 0, 0, 0, 0, 0, 0, 0), (42, 3, 400, 9, 11, 527, 0, 0, 0, 0), (0, 1, 0, 0, 0, 0, 0, 0, 1, 0),
  (11, 1, 0, 0, 0, 0, 0, 0, 0, 0), (45, 3, 400, 9, 11, 527, 0, 0, 0, 0), (6, 1, 0, 0, 0, 0, 0, 0, 0, 0), (6, 1, 0, 0, 0, 0, 0, 0, 0, 0), (42, 3, 400, 9, 11, 527, 0, 0, 0, 0), (48, 3, 146, 83, 0, 878, 2, 9, 0, 0),
  (27, 1, 0, 0, 0, 0, 0, 0, 0, 0)]
def xt187 : List (Nat × List XO) := [(0, q187_0), (25, q187_25), (53, q187_53)]
def q188_0 : List XO := [(6, 1, 0, 0, 0, 0, 0, 0, 0, 0), (42, 3, 400, 9, 11, 527, 0, 0, 0, 0), (0, 1, 0, 0, 0, 0, 0, 0, 1, 0), (6, 1, 0, 0, 0, 0, 0, 0, 0, 0), (44, 3, 69, 9, 10, 526, 0, 0, 0, 0), (32, 1, 0, 0, 0, 0, 0, 0, 0, 0),
  (48, 3, 198, 101, 1, 977, 3, 9, 0, 0), (22, 3, 30, 0, 0, 0, 0, 0, 0, 0), (6, 1, 0, 0, 0, 0, 0, 0, 0, 0), (44, 3, 69, 9, 10, 526, 0, 0, 0, 0), (6, 1, 0, 0, 0, 0, 0, 0, 0, 0), (42, 3, 400, 9, 11, 527, 0, 0, 0, 0),
  (0, 1, 0, 0, 0, 0, 0, 0, 1, 0), (11, 1, 0, 0, 1, 0, 0, 0, 0, 0), (39, 1, 0, 0, 0, 0, 0, 0, 0, 0), (24, 3, 31, 0, 0, 0, 0, 0, 0, 0)]
def q188_30 : List XO := [(3, 1, 0, 0, 0, 0, 0, 0, 0, 0), (24, 0, 31, 0, 1, 0, 0, 0, 0, 0)]
def q188_31 : List XO := [(9, 1, 1, 0, 0, 0, 0, 0, 0, 0), (6, 1, 1, 0, 0, 0, 0, 0, 0, 0), (25, 3, 43, 0, 1, 0, 0, 0, 0, 0), (6, 1, 0, 0, 0, 0, 0, 0, 0, 0), (0, 2, 0, 0, 1, 0, 0, 0, 8, 0), (48, 3, 123, 31, 0, 643, 2, 9, 0, 0),
  (27, 1, 0, 0, 0, 0, 0, 0, 0, 0)]
def q188_43 : List XO := [(6, 1, 0, 0, 0, 0, 0, 0, 0, 0), (44, 3, 62, 9, 8, 524, 0, 0, 0, 0), (6, 1, 1, 0, 0, 0, 0, 0, 0, 0), (48, 3, 139, 80, 0, 864, 2, 0, 0, 0), (6, 1, 0, 0, 0, 0, 0, 0, 0, 0), (19, 1, 0, 0, 0, 0, 0, 0, 0, 0),
  (42, 3, 400, 9, 11, 527, 0, 0, 0, 0), (0, 1, 0, 0, 0, 0, 0, 0, 1, 0), (11, 1, 0, 0, 1, 0, 0, 0, 0, 0), (45, 3, 400, 9, 11, 527, 0, 0, 0, 0), (6, 1, 0, 0, 0, 0, 0, 0, 0, 0), (6, 1, 0, 0, 0, 0, 0, 0, 0, 0),
  (42, 3, 400, 9, 11, 527, 0, 0, 0, 0), (48, 3, 146, 83, 0, 878, 2, 9, 0, 0), (27, 1, 0, 0, 0, 0, 0, 0, 0, 0)]
def xt188 : List (Nat × List XO) := [(0, q188_0), (30, q188_30), (31, q188_31), (43, q188_43)]
def q189_0 : List XO := [(6, 1, 0, 0, 0, 0, 0, 0, 0, 0), (49, 3, 1, 0, 0, 1372, 0, 0, 0, 0), (6, 1, 0, 0, 0, 0, 0, 0, 0, 0), (1, 1, 0, 0, 0, 0, 0, 0, 0, 1), (46, 3, 7, 10, 3, 1380, 0, 0, 0, 0), (6, 1, 0, 0, 0, 0, 0, 0, 0, 0),
  (0, 1, 0, 0, 0, 0, 0, 0, 4, 0), (29, 2, 10, 100, 0, 0, 0, 0, 0, 0), (47, 3, 13, 10, 4, 1381, 0, 0, 0, 0), (6, 1, 0, 0, 0, 0, 0, 0, 0, 0), (0, 1, 0, 0, 0, 0, 0, 0, 4, 0), (29, 2, 10, 100, 0, 0, 0, 0, 0, 0),
  (47, 3, 17, 10, 5, 1382, 0, 0, 0, 0), (6, 1, 0, 0, 0, 0, 0, 0, 0, 0), (0, 3, 0, 0, 2, 0, 0, 0, 240, 0), (29, 2, 11, 101, 0, 0, 0, 0, 0, 0), (47, 3, 20, 10, 6, 1383, 0, 0, 0, 0), (6, 1, 0, 0, 0, 0, 0, 0, 0, 0),
  (0, 3, 0, 0, 2, 0, 0, 0, 900, 0), (29, 2, 8, 102, 0, 0, 0, 0, 0, 0), (47, 3, 24, 10, 7, 1384, 0, 0, 0, 0), (6, 1, 0, 0, 0, 0, 0, 0, 0, 0), (0, 1, 0, 0, 0, 0, 0, 0, (-1), 0), (45, 3, 28, 10, 10, 1387, 0, 0, 0, 0),
  (6, 1, 0, 0, 0, 0, 0, 0, 0, 0), (0, 1, 0, 0, 0, 0, 0, 0, (-1), 0), (45, 3, 32, 10, 11, 1388, 0, 0, 0, 0), (6, 1, 0, 0, 0, 0, 0, 0, 0, 0), (0, 3, 0, 0, 2, 0, 0, 0, 1725, 0), (29, 2, 10, 100, 0, 0, 0, 0, 0, 0),
  (47, 3, 35, 10, 20, 1397, 0, 0, 0, 0), (6, 1, 0, 0, 0, 0, 0, 0, 0, 0), (0, 2, 0, 0, 1, 0, 0, 0, 73, 0), (29, 2, 10, 100, 0, 0, 0, 0, 0, 0), (47, 3, 38, 10, 21, 1398, 0, 0, 0, 0), (6, 1, 0, 0, 0, 0, 0, 0, 0, 0),
  (0, 2, 0, 0, 1, 0, 0, 0, 30, 0), (29, 2, 11, 101, 0, 0, 0, 0, 0, 0), (47, 3, 41, 10, 22, 1399, 0, 0, 0, 0), (6, 1, 0, 0, 0, 0, 0, 0, 0, 0), (0, 2, 0, 0, 1, 0, 0, 0, 30, 0), (29, 2, 10, 100, 0, 0, 0, 0, 0, 0),
  (47, 3, 44, 10, 27, 1404, 0, 0, 0, 0), (6, 1, 0, 0, 0, 0, 0, 0, 0, 0), (0, 2, 0, 0, 1, 0, 0, 0, 16, 0), (29, 2, 11, 101, 0, 0, 0, 0, 0, 0), (47, 3, 47, 10, 30, 1407, 0, 0, 0, 0), (6, 1, 0, 0, 0, 0, 0, 0, 0, 0),
  (0, 1, 0, 0, 0, 0, 0, 0, 5, 0), (29, 2, 10, 100, 0, 0, 0, 0, 0, 0), (47, 3, 50, 10, 31, 1408, 0, 0, 0, 0), (0, 1, 0, 0, 0, 0, 0, 0, 0, 0), (7, 1, 1, 0, 0, 0, 0, 0, 0, 0), (24, 0, 101, 0, 1, 0, 0, 0, 0, 0)]
def q189_101 : List XO := [(4, 1, 1, 0, 0, 0, 0, 0, 0, 0), (0, 1, 0, 0, 0, 0, 0, 0, 4, 0), (23, 3, 119, 0, 3, 0, 0, 0, 0, 0), (6, 1, 0, 0, 0, 0, 0, 0, 0, 0), (44, 3, 17, 10, 5, 1382, 0, 0, 0, 0), (4, 1, 1, 0, 0, 0, 0, 0, 0, 0),
  (0, 1, 0, 0, 0, 0, 0, 0, (-1), 0), (34, 1, 0, 0, 0, 0, 0, 0, 0, 0), (10, 3, 1, 0, 0, 0, 0, 0, 1, 0), (24, 3, 101, 0, 0, 0, 0, 0, 0, 0)]
def q189_119 : List XO := [(6, 1, 0, 0, 0, 0, 0, 0, 0, 0), (0, 1, 0, 0, 0, 0, 0, 0, 0, 0), (48, 3, 53, 190, 0, 1373, 2, 10, 0, 0), (27, 1, 0, 0, 3, 0, 0, 0, 0, 0)]
def xt189 : List (Nat × List XO) := [(0, q189_0), (101, q189_101), (119, q189_119)]
def q190_0 : List XO := [(0, 3, 0, 0, 2, 0, 0, 0, 345, 0), (4, 1, 1, 0, 0, 0, 0, 0, 0, 0), (11, 1, 0, 0, 2, 0, 0, 0, 0, 0), (7, 1, 2, 0, 0, 0, 0, 0, 0, 0), (0, 1, 0, 0, 0, 0, 0, 0, 0, 0), (7, 1, 3, 0, 0, 0, 0, 0, 0, 0),
  (24, 0, 8, 0, 1, 0, 0, 0, 0, 0)]
def q190_8 : List XO := [(4, 1, 3, 0, 0, 0, 0, 0, 0, 0), (0, 3, 0, 0, 2, 0, 0, 0, 345, 0), (23, 3, 30, 0, 3, 0, 0, 0, 0, 0), (6, 1, 0, 0, 0, 0, 0, 0, 0, 0), (44, 3, 35, 10, 20, 1397, 0, 0, 0, 0), (4, 1, 2, 0, 0, 0, 0, 0, 0, 0),
  (4, 1, 3, 0, 0, 0, 0, 0, 0, 0), (11, 1, 0, 0, 0, 0, 0, 0, 0, 0), (0, 1, 0, 0, 0, 0, 0, 0, 0, 0), (34, 1, 0, 0, 0, 0, 0, 0, 0, 0), (10, 3, 3, 0, 0, 0, 0, 0, 1, 0), (24, 3, 8, 0, 0, 0, 0, 0, 0, 0)]
def q190_30 : List XO := [(6, 1, 0, 0, 0, 0, 0, 0, 0, 0), (44, 3, 35, 10, 20, 1397, 0, 0, 0, 0), (4, 1, 2, 0, 0, 0, 0, 0, 0, 0), (0, 1, 0, 0, 0, 0, 0, 0, 5, 0), (34, 1, 0, 0, 0, 0, 0, 0, 0, 0), (6, 1, 0, 0, 0, 0, 0, 0, 0, 0),
  (44, 3, 35, 10, 20, 1397, 0, 0, 0, 0), (4, 1, 2, 0, 0, 0, 0, 0, 0, 0), (0, 1, 0, 0, 0, 0, 0, 0, 1, 0), (11, 1, 0, 0, 0, 0, 0, 0, 0, 0), (0, 1, 0, 0, 0, 0, 0, 0, 4, 0), (34, 1, 0, 0, 0, 0, 0, 0, 0, 0),
  (6, 1, 0, 0, 0, 0, 0, 0, 0, 0), (44, 3, 35, 10, 20, 1397, 0, 0, 0, 0), (4, 1, 2, 0, 0, 0, 0, 0, 0, 0), (0, 1, 0, 0, 0, 0, 0, 0, 4, 0), (11, 1, 0, 0, 0, 0, 0, 0, 0, 0), (0, 2, 0, 0, 1, 0, 0, 0, 8, 0),
  (34, 1, 0, 0, 0, 0, 0, 0, 0, 0), (27, 1, 0, 0, 3, 0, 0, 0, 0, 0)]
def xt190 : List (Nat × List XO) := [(0, q190_0), (8, q190_8), (30, q190_30)]
def q191_0 : List XO := [(6, 1, 0, 0, 0, 0, 0, 0, 0, 0), (0, 1, 0, 0, 0, 0, 0, 0, 0, 0), (45, 3, 57, 10, 1, 1378, 0, 0, 0, 0), (6, 1, 0, 0, 0, 0, 0, 0, 0, 0), (42, 3, 60, 10, 0, 1377, 0, 0, 0, 0), (27, 1, 0, 0, 0, 0, 0, 0, 0, 0)]
def xt191 : List (Nat × List XO) := [(0, q191_0)]
def q192_0 : List XO := [(6, 1, 0, 0, 0, 0, 0, 0, 0, 0), (0, 1, 0, 0, 0, 0, 0, 0, 0, 0), (45, 3, 57, 10, 1, 1378, 0, 0, 0, 0), (6, 1, 0, 0, 0, 0, 0, 0, 0, 0), (43, 3, 63, 10, 2, 1379, 0, 0, 0, 0), (27, 1, 0, 0, 2, 0, 0, 0, 0, 0)]
def xt192 : List (Nat × List XO) := [(0, q192_0)]
def q193_0 : List XO := [(6, 1, 0, 0, 0, 0, 0, 0, 0, 0), (0, 1, 0, 0, 0, 0, 0, 0, 0, 0), (45, 3, 57, 10, 1, 1378, 0, 0, 0, 0), (6, 1, 0, 0, 0, 0, 0, 0, 0, 0), (43, 3, 7, 10, 3, 1380, 0, 0, 0, 0), (27, 1, 0, 0, 2, 0, 0, 0, 0, 0)]
def xt193 : List (Nat × List XO) := [(0, q193_0)]
def q194_0 : List XO := [(6, 1, 0, 0, 0, 0, 0, 0, 0, 0), (0, 1, 0, 0, 0, 0, 0, 0, 0, 0), (45, 3, 57, 10, 1, 1378, 0, 0, 0, 0), (6, 1, 0, 0, 0, 0, 0, 0, 0, 0), (0, 1, 0, 0, 0, 0, 0, 0, 0, 0), (45, 3, 60, 10, 0, 1377, 0, 0, 0, 0),
  (4, 1, 1, 0, 0, 0, 0, 0, 0, 0), (22, 3, 28, 0, 2, 0, 0, 0, 0, 0), (4, 1, 1, 0, 0, 0, 0, 0, 0, 0), (0, 1, 0, 0, 0, 0, 0, 0, 4, 0), (23, 3, 28, 0, 3, 0, 0, 0, 0, 0), (4, 1, 2, 0, 0, 0, 0, 0, 0, 0),
  (22, 3, 28, 0, 2, 0, 0, 0, 0, 0), (4, 1, 2, 0, 0, 0, 0, 0, 0, 0), (0, 1, 0, 0, 0, 0, 0, 0, 3, 0), (23, 3, 34, 0, 5, 0, 0, 0, 0, 0), (24, 0, 28, 0, 1, 0, 0, 0, 0, 0)]
def q194_28 : List XO := [(6, 1, 0, 0, 0, 0, 0, 0, 0, 0), (0, 1, 0, 0, 0, 0, 0, 0, 1, 0), (48, 3, 72, 195, 0, 1517, 2, 10, 0, 0), (27, 1, 0, 0, 1, 0, 0, 0, 0, 0)]
def q194_34 : List XO := [(4, 1, 3, 0, 0, 0, 0, 0, 0, 0), (0, 2, 0, 0, 1, 0, 0, 0, 60, 0), (23, 3, 46, 0, 5, 0, 0, 0, 0, 0), (6, 1, 0, 0, 0, 0, 0, 0, 0, 0), (0, 1, 0, 0, 0, 0, 0, 0, 5, 0), (48, 3, 72, 195, 0, 1517, 2, 10, 0, 0),
  (27, 1, 0, 0, 1, 0, 0, 0, 0, 0)]
def q194_46 : List XO := [(4, 1, 3, 0, 0, 0, 0, 0, 0, 0), (22, 3, 57, 0, 3, 0, 0, 0, 0, 0), (6, 1, 0, 0, 0, 0, 0, 0, 0, 0), (0, 2, 0, 0, 1, 0, 0, 0, 6, 0), (48, 3, 72, 195, 0, 1517, 2, 10, 0, 0), (27, 1, 0, 0, 1, 0, 0, 0, 0, 0)]
def q194_57 : List XO := [(6, 1, 0, 0, 0, 0, 0, 0, 0, 0), (44, 3, 13, 10, 4, 1381, 0, 0, 0, 0), (4, 1, 1, 0, 0, 0, 0, 0, 0, 0), (4, 1, 2, 0, 0, 0, 0, 0, 0, 0), (34, 1, 0, 0, 0, 0, 0, 0, 0, 0), (6, 1, 0, 0, 0, 0, 0, 0, 0, 0),
  (44, 3, 17, 10, 5, 1382, 0, 0, 0, 0), (4, 1, 1, 0, 0, 0, 0, 0, 0, 0), (4, 1, 3, 0, 0, 0, 0, 0, 0, 0), (34, 1, 0, 0, 0, 0, 0, 0, 0, 0), (0, 1, 0, 0, 0, 0, 0, 0, 0, 0), (7, 2, 4, 0, 0, 0, 0, 0, 0, 0),
  (24, 0, 74, 0, 1, 0, 0, 0, 0, 0)]
def q194_74 : List XO := [(4, 2, 4, 0, 0, 0, 0, 0, 0, 0), (4, 1, 3, 0, 0, 0, 0, 0, 0, 0), (23, 3, 99, 0, 3, 0, 0, 0, 0, 0), (6, 1, 0, 0, 0, 0, 0, 0, 0, 0), (44, 3, 20, 10, 6, 1383, 0, 0, 0, 0), (0, 2, 0, 0, 1, 0, 0, 0, 60, 0),
  (4, 1, 1, 0, 0, 0, 0, 0, 0, 0), (11, 1, 0, 0, 2, 0, 0, 0, 0, 0), (4, 2, 4, 0, 0, 0, 0, 0, 0, 0), (11, 1, 0, 0, 0, 0, 0, 0, 0, 0), (1, 1, 0, 0, 0, 0, 0, 0, 0, 0), (36, 1, 0, 0, 0, 0, 0, 0, 0, 0),
  (10, 3, 4, 0, 0, 0, 0, 0, 1, 0), (24, 3, 74, 0, 0, 0, 0, 0, 0, 0)]
def q194_99 : List XO := [(0, 1, 0, 0, 0, 0, 0, 0, 1, 0), (27, 1, 0, 0, 1, 0, 0, 0, 0, 0)]
def xt194 : List (Nat × List XO) := [(0, q194_0), (28, q194_28), (34, q194_34), (46, q194_46), (57, q194_57), (74, q194_74), (99, q194_99)]
def q195_0 : List XO := [(6, 1, 0, 0, 0, 0, 0, 0, 0, 0), (4, 1, 1, 0, 0, 0, 0, 0, 0, 0), (45, 3, 60, 10, 0, 1377, 0, 0, 0, 0), (0, 1, 0, 0, 0, 0, 0, 0, 0, 0), (27, 1, 0, 0, 1, 0, 0, 0, 0, 0)]
def xt195 : List (Nat × List XO) := [(0, q195_0)]
def q196_0 : List XO := [(6, 1, 0, 0, 0, 0, 0, 0, 0, 0), (0, 1, 0, 0, 0, 0, 0, 0, 0, 0), (45, 3, 57, 10, 1, 1378, 0, 0, 0, 0), (6, 1, 0, 0, 0, 0, 0, 0, 0, 0), (6, 1, 0, 0, 0, 0, 0, 0, 0, 0), (4, 1, 1, 0, 0, 0, 0, 0, 0, 0),
  (4, 1, 2, 0, 0, 0, 0, 0, 0, 0), (48, 3, 80, 197, 0, 1525, 3, 10, 0, 0), (45, 3, 60, 10, 0, 1377, 0, 0, 0, 0), (6, 1, 0, 0, 0, 0, 0, 0, 0, 0), (42, 3, 60, 10, 0, 1377, 0, 0, 0, 0), (22, 3, 24, 0, 5, 0, 0, 0, 0, 0),
  (0, 1, 0, 0, 0, 0, 0, 0, 0, 0), (27, 1, 0, 0, 1, 0, 0, 0, 0, 0)]
def q196_24 : List XO := [(6, 1, 0, 0, 0, 0, 0, 0, 0, 0), (44, 3, 20, 10, 6, 1383, 0, 0, 0, 0), (0, 2, 0, 0, 1, 0, 0, 0, 60, 0), (4, 1, 1, 0, 0, 0, 0, 0, 0, 0), (11, 1, 0, 0, 2, 0, 0, 0, 0, 0), (4, 1, 2, 0, 0, 0, 0, 0, 0, 0),
  (11, 1, 0, 0, 0, 0, 0, 0, 0, 0), (6, 1, 0, 0, 0, 0, 0, 0, 0, 0), (44, 3, 13, 10, 4, 1381, 0, 0, 0, 0), (4, 1, 1, 0, 0, 0, 0, 0, 0, 0), (33, 1, 0, 0, 0, 0, 0, 0, 0, 0), (5, 1, 3, 0, 0, 0, 0, 0, 0, 0),
  (48, 3, 84, 199, 1, 1533, 2, 10, 0, 0), (36, 1, 0, 0, 0, 0, 0, 0, 0, 0), (0, 1, 0, 0, 0, 0, 0, 0, 1, 0), (27, 1, 0, 0, 1, 0, 0, 0, 0, 0)]
def xt196 : List (Nat × List XO) := [(0, q196_0), (24, q196_24)]
def q197_0 : List XO := [(6, 1, 0, 0, 0, 0, 0, 0, 0, 0), (4, 1, 1, 0, 0, 0, 0, 0, 0, 0), (48, 3, 76, 198, 0, 1529, 2, 10, 0, 0), (7, 1, 3, 0, 0, 0, 0, 0, 0, 0), (4, 1, 3, 0, 0, 0, 0, 0, 0, 0), (22, 3, 14, 0, 5, 0, 0, 0, 0, 0),
  (4, 1, 3, 0, 0, 0, 0, 0, 0, 0), (24, 3, 33, 0, 0, 0, 0, 0, 0, 0)]
def q197_14 : List XO := [(4, 1, 2, 0, 0, 0, 0, 0, 0, 0), (22, 3, 28, 0, 2, 0, 0, 0, 0, 0), (4, 1, 2, 0, 0, 0, 0, 0, 0, 0), (6, 1, 0, 0, 0, 0, 0, 0, 0, 0), (44, 3, 17, 10, 5, 1382, 0, 0, 0, 0), (4, 1, 1, 0, 0, 0, 0, 0, 0, 0),
  (33, 1, 0, 0, 0, 0, 0, 0, 0, 0), (23, 3, 32, 0, 2, 0, 0, 0, 0, 0), (24, 0, 28, 0, 1, 0, 0, 0, 0, 0)]
def q197_28 : List XO := [(0, 1, 0, 0, 0, 0, 0, 0, 4, 0), (24, 3, 33, 0, 0, 0, 0, 0, 0, 0)]
def q197_32 : List XO := [(0, 1, 0, 0, 0, 0, 0, 0, 0, 0), (24, 0, 33, 0, 1, 0, 0, 0, 0, 0)]
def q197_33 : List XO := [(27, 1, 0, 0, 0, 0, 0, 0, 0, 0)]
def xt197 : List (Nat × List XO) := [(0, q197_0), (14, q197_14), (28, q197_28), (32, q197_32), (33, q197_33)]
def q198_0 : List XO := [(4, 1, 1, 0, 0, 0, 0, 0, 0, 0), (22, 3, 9, 0, 2, 0, 0, 0, 0, 0), (4, 1, 1, 0, 0, 0, 0, 0, 0, 0), (0, 1, 0, 0, 0, 0, 0, 0, 4, 0), (23, 3, 13, 0, 2, 0, 0, 0, 0, 0), (24, 0, 9, 0, 1, 0, 0, 0, 0, 0)]
def q198_9 : List XO := [(0, 1, 0, 0, 0, 0, 0, 0, 1, 0), (24, 3, 27, 0, 0, 0, 0, 0, 0, 0)]
def q198_13 : List XO := [(6, 1, 0, 0, 0, 0, 0, 0, 0, 0), (44, 3, 17, 10, 5, 1382, 0, 0, 0, 0), (4, 1, 1, 0, 0, 0, 0, 0, 0, 0), (33, 1, 0, 0, 0, 0, 0, 0, 0, 0), (22, 3, 26, 0, 3, 0, 0, 0, 0, 0), (0, 1, 0, 0, 0, 0, 0, 0, 3, 0),
  (24, 3, 27, 0, 0, 0, 0, 0, 0, 0)]
def q198_26 : List XO := [(0, 1, 0, 0, 0, 0, 0, 0, 0, 0), (24, 0, 27, 0, 1, 0, 0, 0, 0, 0)]
def q198_27 : List XO := [(27, 1, 0, 0, 0, 0, 0, 0, 0, 0)]
def xt198 : List (Nat × List XO) := [(0, q198_0), (9, q198_9), (13, q198_13), (26, q198_26), (27, q198_27)]
def q199_0 : List XO := [(4, 1, 0, 0, 0, 0, 0, 0, 0, 0), (22, 3, 11, 0, 1, 0, 0, 0, 0, 0), (5, 1, 1, 0, 0, 0, 0, 0, 0, 0), (17, 1, 0, 0, 1, 0, 0, 0, 0, 0), (17, 1, 0, 0, 2, 0, 0, 0, 0, 0), (17, 1, 0, 0, 0, 0, 0, 0, 0, 0),
  (24, 3, 35, 0, 0, 0, 0, 0, 0, 0)]
def q199_11 : List XO := [(4, 1, 0, 0, 0, 0, 0, 0, 0, 0), (0, 1, 0, 0, 0, 0, 0, 0, 1, 0), (23, 3, 23, 0, 1, 0, 0, 0, 0, 0), (5, 1, 1, 0, 0, 0, 0, 0, 0, 0), (17, 1, 0, 0, 1, 0, 0, 0, 0, 0), (17, 1, 0, 0, 3, 0, 0, 0, 0, 0),
  (17, 1, 0, 0, 0, 0, 0, 0, 0, 0), (24, 3, 35, 0, 0, 0, 0, 0, 0, 0)]
def q199_23 : List XO := [(4, 1, 0, 0, 0, 0, 0, 0, 0, 0), (0, 1, 0, 0, 0, 0, 0, 0, 2, 0), (23, 3, 34, 0, 1, 0, 0, 0, 0, 0), (5, 1, 1, 0, 0, 0, 0, 0, 0, 0), (17, 1, 0, 0, 1, 0, 0, 0, 0, 0), (17, 1, 0, 0, 0, 0, 0, 0, 0, 0),
  (24, 3, 35, 0, 0, 0, 0, 0, 0, 0)]
def q199_34 : List XO := [(5, 1, 1, 0, 0, 0, 0, 0, 0, 0), (24, 0, 35, 0, 1, 0, 0, 0, 0, 0)]
def q199_35 : List XO := [(27, 1, 0, 0, 2, 0, 0, 0, 0, 0)]
def xt199 : List (Nat × List XO) := [(0, q199_0), (11, q199_11), (23, q199_23), (34, q199_34), (35, q199_35)]
def q200_0 : List XO := [(6, 1, 0, 0, 0, 0, 0, 0, 0, 0), (0, 1, 0, 0, 0, 0, 0, 0, 0, 0), (45, 3, 57, 10, 1, 1378, 0, 0, 0, 0), (6, 1, 0, 0, 0, 0, 0, 0, 0, 0), (6, 1, 0, 0, 0, 0, 0, 0, 0, 0), (4, 1, 1, 0, 0, 0, 0, 0, 0, 0),
  (4, 1, 2, 0, 0, 0, 0, 0, 0, 0), (48, 3, 80, 197, 0, 1525, 3, 10, 0, 0), (45, 3, 60, 10, 0, 1377, 0, 0, 0, 0), (6, 1, 0, 0, 0, 0, 0, 0, 0, 0), (42, 3, 60, 10, 0, 1377, 0, 0, 0, 0), (22, 3, 28, 0, 5, 0, 0, 0, 0, 0),
  (1, 3, 88, 0, 1, 1540, 0, 0, 0, (-1)), (24, 3, 39, 0, 0, 0, 0, 0, 0, 0)]
def q200_28 : List XO := [(6, 1, 0, 0, 0, 0, 0, 0, 0, 0), (44, 3, 20, 10, 6, 1383, 0, 0, 0, 0), (0, 2, 0, 0, 1, 0, 0, 0, 60, 0), (4, 1, 1, 0, 0, 0, 0, 0, 0, 0), (11, 1, 0, 0, 2, 0, 0, 0, 0, 0), (4, 1, 2, 0, 0, 0, 0, 0, 0, 0),
  (11, 1, 0, 0, 0, 0, 0, 0, 0, 0), (35, 1, 0, 0, 0, 0, 0, 0, 0, 0), (24, 0, 39, 0, 1, 0, 0, 0, 0, 0)]
def q200_39 : List XO := [(27, 1, 0, 0, 2, 0, 0, 0, 0, 0)]
def xt200 : List (Nat × List XO) := [(0, q200_0), (28, q200_28), (39, q200_39)]
def q201_0 : List XO := [(6, 1, 0, 0, 0, 0, 0, 0, 0, 0), (0, 1, 0, 0, 0, 0, 0, 0, 0, 0), (45, 3, 57, 10, 1, 1378, 0, 0, 0, 0), (6, 1, 0, 0, 0, 0, 0, 0, 0, 0), (0, 1, 0, 0, 0, 0, 0, 0, 0, 0), (45, 3, 60, 10, 0, 1377, 0, 0, 0, 0),
  (4, 1, 1, 0, 0, 0, 0, 0, 0, 0), (22, 3, 28, 0, 2, 0, 0, 0, 0, 0), (4, 1, 1, 0, 0, 0, 0, 0, 0, 0), (0, 1, 0, 0, 0, 0, 0, 0, 4, 0), (23, 3, 28, 0, 3, 0, 0, 0, 0, 0), (4, 1, 3, 0, 0, 0, 0, 0, 0, 0),
  (22, 3, 28, 0, 2, 0, 0, 0, 0, 0), (4, 1, 3, 0, 0, 0, 0, 0, 0, 0), (0, 1, 0, 0, 0, 0, 0, 0, 4, 0), (23, 3, 34, 0, 2, 0, 0, 0, 0, 0), (24, 0, 28, 0, 1, 0, 0, 0, 0, 0)]
def q201_28 : List XO := [(6, 1, 0, 0, 0, 0, 0, 0, 0, 0), (0, 1, 0, 0, 0, 0, 0, 0, 1, 0), (48, 3, 72, 195, 0, 1517, 2, 10, 0, 0), (27, 1, 0, 0, 1, 0, 0, 0, 0, 0)]
def q201_34 : List XO := [(6, 1, 0, 0, 0, 0, 0, 0, 0, 0), (44, 3, 17, 10, 5, 1382, 0, 0, 0, 0), (4, 1, 1, 0, 0, 0, 0, 0, 0, 0), (33, 1, 0, 0, 0, 0, 0, 0, 0, 0), (22, 3, 52, 0, 2, 0, 0, 0, 0, 0), (6, 1, 0, 0, 0, 0, 0, 0, 0, 0),
  (44, 3, 17, 10, 5, 1382, 0, 0, 0, 0), (4, 1, 3, 0, 0, 0, 0, 0, 0, 0), (33, 1, 0, 0, 0, 0, 0, 0, 0, 0), (22, 3, 58, 0, 3, 0, 0, 0, 0, 0), (24, 0, 52, 0, 1, 0, 0, 0, 0, 0)]
def q201_52 : List XO := [(6, 1, 0, 0, 0, 0, 0, 0, 0, 0), (0, 1, 0, 0, 0, 0, 0, 0, 3, 0), (48, 3, 72, 195, 0, 1517, 2, 10, 0, 0), (27, 1, 0, 0, 1, 0, 0, 0, 0, 0)]
def q201_58 : List XO := [(6, 1, 0, 0, 0, 0, 0, 0, 0, 0), (44, 3, 13, 10, 4, 1381, 0, 0, 0, 0), (4, 1, 1, 0, 0, 0, 0, 0, 0, 0), (33, 1, 0, 0, 0, 0, 0, 0, 0, 0), (6, 1, 0, 0, 0, 0, 0, 0, 0, 0), (44, 3, 13, 10, 4, 1381, 0, 0, 0, 0),
  (4, 1, 3, 0, 0, 0, 0, 0, 0, 0), (33, 1, 0, 0, 0, 0, 0, 0, 0, 0), (23, 3, 80, 0, 0, 0, 0, 0, 0, 0), (6, 1, 0, 0, 0, 0, 0, 0, 0, 0), (0, 2, 0, 0, 1, 0, 0, 0, 11, 0), (48, 3, 72, 195, 0, 1517, 2, 10, 0, 0),
  (27, 1, 0, 0, 1, 0, 0, 0, 0, 0)]
def q201_80 : List XO := [(4, 2, 5, 0, 0, 0, 0, 0, 0, 0), (22, 3, 92, 0, 3, 0, 0, 0, 0, 0), (6, 1, 0, 0, 0, 0, 0, 0, 0, 0), (0, 2, 0, 0, 1, 0, 0, 0, 6, 0), (48, 3, 72, 195, 0, 1517, 2, 10, 0, 0), (27, 1, 0, 0, 1, 0, 0, 0, 0, 0)]
def q201_92 : List XO := [(4, 1, 2, 0, 0, 0, 0, 0, 0, 0), (22, 3, 136, 0, 2, 0, 0, 0, 0, 0), (4, 2, 4, 0, 0, 0, 0, 0, 0, 0), (22, 3, 136, 0, 2, 0, 0, 0, 0, 0), (4, 1, 2, 0, 0, 0, 0, 0, 0, 0), (17, 1, 0, 0, 0, 0, 0, 0, 0, 0),
  (4, 2, 5, 0, 0, 0, 0, 0, 0, 0), (17, 1, 0, 0, 0, 0, 0, 0, 0, 0), (14, 1, 0, 0, 0, 0, 0, 0, 0, 0), (6, 1, 0, 0, 0, 0, 0, 0, 0, 0), (44, 3, 17, 10, 5, 1382, 0, 0, 0, 0), (4, 1, 1, 0, 0, 0, 0, 0, 0, 0),
  (33, 1, 0, 0, 0, 0, 0, 0, 0, 0), (17, 1, 0, 0, 0, 0, 0, 0, 0, 0), (18, 1, 0, 0, 0, 0, 0, 0, 0, 0), (22, 3, 136, 0, 4, 0, 0, 0, 0, 0), (4, 2, 4, 0, 0, 0, 0, 0, 0, 0), (17, 1, 0, 0, 0, 0, 0, 0, 0, 0),
  (4, 2, 5, 0, 0, 0, 0, 0, 0, 0), (17, 1, 0, 0, 0, 0, 0, 0, 0, 0), (14, 1, 0, 0, 0, 0, 0, 0, 0, 0), (6, 1, 0, 0, 0, 0, 0, 0, 0, 0), (44, 3, 17, 10, 5, 1382, 0, 0, 0, 0), (4, 1, 3, 0, 0, 0, 0, 0, 0, 0),
  (33, 1, 0, 0, 0, 0, 0, 0, 0, 0), (17, 1, 0, 0, 0, 0, 0, 0, 0, 0), (18, 1, 0, 0, 0, 0, 0, 0, 0, 0), (22, 3, 142, 0, 5, 0, 0, 0, 0, 0), (24, 0, 136, 0, 1, 0, 0, 0, 0, 0)]
def q201_136 : List XO := [(6, 1, 0, 0, 0, 0, 0, 0, 0, 0), (0, 1, 0, 0, 0, 0, 0, 0, 4, 0), (48, 3, 72, 195, 0, 1517, 2, 10, 0, 0), (27, 1, 0, 0, 1, 0, 0, 0, 0, 0)]
def q201_142 : List XO := [(4, 1, 2, 0, 0, 0, 0, 0, 0, 0), (4, 2, 4, 0, 0, 0, 0, 0, 0, 0), (23, 3, 152, 0, 3, 0, 0, 0, 0, 0), (0, 1, 0, 0, 0, 0, 0, 0, 1, 0), (24, 3, 153, 0, 0, 0, 0, 0, 0, 0)]
def q201_152 : List XO := [(0, 1, 0, 0, 0, 0, 0, 0, 0, 0), (24, 0, 153, 0, 1, 0, 0, 0, 0, 0)]
def q201_153 : List XO := [(7, 2, 6, 0, 0, 0, 0, 0, 0, 0), (0, 1, 0, 0, 0, 0, 0, 0, 0, 0), (7, 2, 7, 0, 0, 0, 0, 0, 0, 0), (24, 0, 158, 0, 1, 0, 0, 0, 0, 0)]
def q201_158 : List XO := [(4, 2, 7, 0, 0, 0, 0, 0, 0, 0), (4, 2, 5, 0, 0, 0, 0, 0, 0, 0), (23, 3, 219, 0, 3, 0, 0, 0, 0, 0), (4, 2, 6, 0, 0, 0, 0, 0, 0, 0), (22, 3, 180, 0, 0, 0, 0, 0, 0, 0), (4, 2, 5, 0, 0, 0, 0, 0, 0, 0),
  (0, 1, 0, 0, 0, 0, 0, 0, 1, 0), (11, 1, 0, 0, 1, 0, 0, 0, 0, 0), (4, 2, 7, 0, 0, 0, 0, 0, 0, 0), (11, 1, 0, 0, 1, 0, 0, 0, 0, 0), (24, 3, 182, 0, 0, 0, 0, 0, 0, 0)]
def q201_180 : List XO := [(4, 2, 7, 0, 0, 0, 0, 0, 0, 0), (24, 0, 182, 0, 1, 0, 0, 0, 0, 0)]
def q201_182 : List XO := [(7, 2, 8, 0, 0, 0, 0, 0, 0, 0), (6, 1, 0, 0, 0, 0, 0, 0, 0, 0), (44, 3, 20, 10, 6, 1383, 0, 0, 0, 0), (0, 2, 0, 0, 1, 0, 0, 0, 60, 0), (4, 1, 3, 0, 0, 0, 0, 0, 0, 0), (11, 1, 0, 0, 2, 0, 0, 0, 0, 0),
  (4, 2, 4, 0, 0, 0, 0, 0, 0, 0), (11, 1, 0, 0, 0, 0, 0, 0, 0, 0), (4, 2, 8, 0, 0, 0, 0, 0, 0, 0), (11, 1, 0, 0, 0, 0, 0, 0, 0, 0), (6, 1, 0, 0, 0, 0, 0, 0, 0, 0), (44, 3, 20, 10, 6, 1383, 0, 0, 0, 0),
  (0, 2, 0, 0, 1, 0, 0, 0, 60, 0), (4, 1, 1, 0, 0, 0, 0, 0, 0, 0), (11, 1, 0, 0, 2, 0, 0, 0, 0, 0), (4, 1, 2, 0, 0, 0, 0, 0, 0, 0), (11, 1, 0, 0, 0, 0, 0, 0, 0, 0), (4, 2, 8, 0, 0, 0, 0, 0, 0, 0),
  (11, 1, 0, 0, 0, 0, 0, 0, 0, 0), (35, 1, 0, 0, 0, 0, 0, 0, 0, 0), (36, 1, 0, 0, 0, 0, 0, 0, 0, 0), (10, 3, 7, 0, 0, 0, 0, 0, 1, 0), (24, 3, 158, 0, 0, 0, 0, 0, 0, 0)]
def q201_219 : List XO := [(0, 1, 0, 0, 0, 0, 0, 0, 1, 0), (27, 1, 0, 0, 1, 0, 0, 0, 0, 0)]
def xt201 : List (Nat × List XO) := [(0, q201_0), (28, q201_28), (34, q201_34), (52, q201_52), (58, q201_58), (80, q201_80), (92, q201_92), (136, q201_136),
  (142, q201_142), (152, q201_152), (153, q201_153), (158, q201_158), (180, q201_180), (182, q201_182), (219, q201_219)]
def q202_0 : List XO := [(6, 1, 0, 0, 0, 0, 0, 0, 0, 0), (0, 1, 0, 0, 0, 0, 0, 0, 0, 0), (45, 3, 57, 10, 1, 1378, 0, 0, 0, 0), (6, 1, 0, 0, 0, 0, 0, 0, 0, 0), (42, 3, 221, 10, 8, 1385, 0, 0, 0, 0), (0, 2, 0, 0, 1, 0, 0, 0, 20, 0),
  (11, 1, 0, 0, 0, 0, 0, 0, 0, 0), (0, 3, 0, 0, 2, 0, 0, 0, 900, 0), (23, 3, 20, 0, 5, 0, 0, 0, 0, 0), (0, 1, 0, 0, 0, 0, 0, 0, (-1), 0), (27, 1, 0, 0, 0, 0, 0, 0, 0, 0)]
def q202_20 : List XO := [(6, 1, 0, 0, 0, 0, 0, 0, 0, 0), (4, 1, 1, 0, 0, 0, 0, 0, 0, 0), (48, 3, 224, 203, 0, 1549, 2, 10, 0, 0), (6, 1, 0, 0, 0, 0, 0, 0, 0, 0), (4, 1, 2, 0, 0, 0, 0, 0, 0, 0), (48, 3, 224, 203, 0, 1549, 2, 10, 0, 0),
  (6, 1, 0, 0, 0, 0, 0, 0, 0, 0), (4, 1, 3, 0, 0, 0, 0, 0, 0, 0), (48, 3, 224, 203, 0, 1549, 2, 10, 0, 0), (6, 1, 0, 0, 0, 0, 0, 0, 0, 0), (4, 2, 4, 0, 0, 0, 0, 0, 0, 0), (48, 3, 224, 203, 0, 1549, 2, 10, 0, 0),
  (6, 1, 0, 0, 0, 0, 0, 0, 0, 0), (4, 2, 5, 0, 0, 0, 0, 0, 0, 0), (48, 3, 224, 203, 0, 1549, 2, 10, 0, 0), (6, 1, 0, 0, 0, 0, 0, 0, 0, 0), (42, 3, 221, 10, 8, 1385, 0, 0, 0, 0), (27, 1, 0, 0, 0, 0, 0, 0, 0, 0)]
def xt202 : List (Nat × List XO) := [(0, q202_0), (20, q202_20)]
def q203_0 : List XO := [(0, 1, 0, 0, 0, 0, 0, 0, 3, 0), (7, 1, 2, 0, 0, 0, 0, 0, 0, 0), (24, 0, 2, 0, 1, 0, 0, 0, 0, 0)]
def q203_2 : List XO := [(4, 1, 2, 0, 0, 0, 0, 0, 0, 0), (22, 3, 38, 0, 2, 0, 0, 0, 0, 0), (6, 1, 0, 0, 0, 0, 0, 0, 0, 0), (44, 3, 24, 10, 7, 1384, 0, 0, 0, 0), (6, 1, 0, 0, 0, 0, 0, 0, 0, 0), (42, 3, 221, 10, 8, 1385, 0, 0, 0, 0),
  (4, 1, 1, 0, 0, 0, 0, 0, 0, 0), (0, 2, 0, 0, 1, 0, 0, 0, 8, 0), (4, 1, 2, 0, 0, 0, 0, 0, 0, 0), (11, 1, 0, 0, 2, 0, 0, 0, 0, 0), (11, 1, 0, 0, 7, 0, 0, 0, 0, 0), (17, 1, 0, 0, 2, 0, 0, 0, 0, 0),
  (38, 1, 0, 0, 0, 0, 0, 0, 0, 0), (6, 1, 0, 0, 0, 0, 0, 0, 0, 0), (19, 1, 0, 0, 0, 0, 0, 0, 0, 0), (42, 3, 221, 10, 8, 1385, 0, 0, 0, 0), (0, 1, 0, 0, 0, 0, 0, 0, 1, 0), (11, 1, 0, 0, 0, 0, 0, 0, 0, 0),
  (45, 3, 221, 10, 8, 1385, 0, 0, 0, 0), (10, 3, 2, 0, 0, 0, 0, 0, (-1), 0), (24, 3, 2, 0, 0, 0, 0, 0, 0, 0)]
def q203_38 : List XO := [(27, 1, 0, 0, 3, 0, 0, 0, 0, 0)]
def xt203 : List (Nat × List XO) := [(0, q203_0), (2, q203_2), (38, q203_38)]
def q204_0 : List XO := [(6, 1, 0, 0, 0, 0, 0, 0, 0, 0), (0, 1, 0, 0, 0, 0, 0, 0, 0, 0), (45, 3, 57, 10, 1, 1378, 0, 0, 0, 0), (4, 1, 1, 0, 0, 0, 0, 0, 0, 0), (22, 3, 16, 0, 1, 0, 0, 0, 0, 0), (6, 1, 0, 0, 0, 0, 0, 0, 0, 0),
  (42, 3, 28, 10, 10, 1387, 0, 0, 0, 0), (24, 3, 29, 0, 0, 0, 0, 0, 0, 0)]
def q204_16 : List XO := [(4, 1, 1, 0, 0, 0, 0, 0, 0, 0), (0, 1, 0, 0, 0, 0, 0, 0, 1, 0), (23, 3, 28, 0, 1, 0, 0, 0, 0, 0), (6, 1, 0, 0, 0, 0, 0, 0, 0, 0), (42, 3, 32, 10, 11, 1388, 0, 0, 0, 0), (24, 3, 29, 0, 0, 0, 0, 0, 0, 0)]
def q204_28 : List XO := [(0, 1, 0, 0, 0, 0, 0, 0, (-1), 0), (24, 0, 29, 0, 1, 0, 0, 0, 0, 0)]
def q204_29 : List XO := [(27, 1, 0, 0, 0, 0, 0, 0, 0, 0)]
def xt204 : List (Nat × List XO) := [(0, q204_0), (16, q204_16), (28, q204_28), (29, q204_29)]
def q205_0 : List XO := [(6, 1, 0, 0, 0, 0, 0, 0, 0, 0), (0, 1, 0, 0, 0, 0, 0, 0, 0, 0), (45, 3, 57, 10, 1, 1378, 0, 0, 0, 0), (6, 1, 0, 0, 0, 0, 0, 0, 0, 0), (0, 1, 0, 0, 0, 0, 0, 0, 0, 0), (45, 3, 60, 10, 0, 1377, 0, 0, 0, 0),
  (6, 1, 0, 0, 0, 0, 0, 0, 0, 0), (4, 1, 1, 0, 0, 0, 0, 0, 0, 0), (0, 3, 0, 0, 2, 0, 0, 0, 900, 0), (48, 3, 278, 206, 0, 1561, 3, 10, 0, 0), (22, 3, 23, 0, 1, 0, 0, 0, 0, 0), (0, 1, 0, 0, 0, 0, 0, 0, (-1), 0),
  (27, 1, 0, 0, 0, 0, 0, 0, 0, 0)]
def q205_23 : List XO := [(6, 1, 0, 0, 0, 0, 0, 0, 0, 0), (0, 1, 0, 0, 0, 0, 0, 0, 4, 0), (48, 3, 53, 190, 0, 1373, 2, 10, 0, 0), (6, 1, 0, 0, 0, 0, 0, 0, 0, 0), (0, 1, 0, 0, 0, 0, 0, 0, 0, 0), (61, 3, 227, 10, 24, 1401, 0, 0, 0, 0),
  (6, 1, 0, 0, 0, 0, 0, 0, 0, 0), (0, 1, 0, 0, 0, 0, 0, 0, 0, 0), (61, 3, 235, 10, 25, 1402, 0, 0, 0, 0), (24, 0, 38, 0, 1, 0, 0, 0, 0, 0)]
def q205_38 : List XO := [(6, 1, 0, 0, 0, 0, 0, 0, 0, 0), (42, 3, 195, 10, 12, 1389, 0, 0, 0, 0), (22, 3, 69, 0, 1, 0, 0, 0, 0, 0), (6, 1, 0, 0, 0, 0, 0, 0, 0, 0), (42, 3, 112, 10, 14, 1391, 0, 0, 0, 0), (22, 3, 69, 0, 0, 0, 0, 0, 0, 0),
  (6, 1, 0, 0, 0, 0, 0, 0, 0, 0), (48, 3, 281, 212, 0, 1585, 1, 10, 0, 0), (6, 1, 0, 0, 0, 0, 0, 0, 0, 0), (6, 1, 0, 0, 0, 0, 0, 0, 0, 0), (0, 2, 0, 0, 1, 0, 0, 0, 59, 0), (48, 3, 284, 251, 0, 1738, 2, 10, 0, 0),
  (48, 3, 214, 222, 0, 1623, 2, 10, 0, 0), (24, 3, 38, 0, 0, 0, 0, 0, 0, 0)]
def q205_69 : List XO := [(6, 1, 0, 0, 0, 0, 0, 0, 0, 0), (48, 3, 287, 252, 0, 1742, 1, 10, 0, 0), (22, 3, 78, 0, 1, 0, 0, 0, 0, 0), (0, 1, 0, 0, 0, 0, 0, 0, (-1), 0), (27, 1, 0, 0, 0, 0, 0, 0, 0, 0)]
def q205_78 : List XO := [(6, 1, 0, 0, 0, 0, 0, 0, 0, 0), (0, 1, 0, 0, 0, 0, 0, 0, 4, 0), (0, 1, 0, 0, 0, 0, 0, 0, 0, 0), (48, 3, 290, 253, 0, 1746, 3, 10, 0, 0), (6, 1, 0, 0, 0, 0, 0, 0, 0, 0), (44, 3, 35, 10, 20, 1397, 0, 0, 0, 0),
  (0, 1, 0, 0, 0, 0, 0, 0, 3, 0), (33, 1, 0, 0, 0, 0, 0, 0, 0, 0), (27, 1, 0, 0, 0, 0, 0, 0, 0, 0)]
def xt205 : List (Nat × List XO) := [(0, q205_0), (23, q205_23), (38, q205_38), (69, q205_69), (78, q205_78)]
def q206_0 : List XO := [(4, 1, 1, 0, 0, 0, 0, 0, 0, 0), (22, 3, 17, 0, 2, 0, 0, 0, 0, 0), (4, 1, 1, 0, 0, 0, 0, 0, 0, 0), (6, 1, 0, 0, 0, 0, 0, 0, 0, 0), (42, 3, 221, 10, 8, 1385, 0, 0, 0, 0), (23, 3, 17, 0, 4, 0, 0, 0, 0, 0),
  (4, 1, 1, 0, 0, 0, 0, 0, 0, 0), (4, 1, 2, 0, 0, 0, 0, 0, 0, 0), (23, 3, 23, 0, 5, 0, 0, 0, 0, 0), (24, 0, 17, 0, 1, 0, 0, 0, 0, 0)]
def q206_17 : List XO := [(6, 1, 0, 0, 0, 0, 0, 0, 0, 0), (0, 1, 0, 0, 0, 0, 0, 0, 5, 0), (48, 3, 72, 195, 0, 1517, 2, 10, 0, 0), (27, 1, 0, 0, 1, 0, 0, 0, 0, 0)]
def q206_23 : List XO := [(6, 1, 0, 0, 0, 0, 0, 0, 0, 0), (4, 1, 1, 0, 0, 0, 0, 0, 0, 0), (45, 3, 100, 10, 9, 1386, 0, 0, 0, 0), (6, 1, 0, 0, 0, 0, 0, 0, 0, 0), (0, 1, 0, 0, 0, 0, 0, 0, 0, 0), (45, 3, 221, 10, 8, 1385, 0, 0, 0, 0),
  (6, 1, 0, 0, 0, 0, 0, 0, 0, 0), (0, 1, 0, 0, 0, 0, 0, 0, 0, 0), (45, 3, 103, 10, 16, 1393, 0, 0, 0, 0), (6, 1, 0, 0, 0, 0, 0, 0, 0, 0), (0, 1, 0, 0, 0, 0, 0, 0, 0, 0), (45, 3, 195, 10, 12, 1389, 0, 0, 0, 0),
  (6, 1, 0, 0, 0, 0, 0, 0, 0, 0), (48, 3, 205, 207, 0, 1565, 1, 10, 0, 0), (0, 1, 0, 0, 0, 0, 0, 0, 1, 0), (27, 1, 0, 0, 1, 0, 0, 0, 0, 0)]
def xt206 : List (Nat × List XO) := [(0, q206_0), (17, q206_17), (23, q206_23)]
def q207_0 : List XO := [(6, 1, 0, 0, 0, 0, 0, 0, 0, 0), (6, 1, 0, 0, 0, 0, 0, 0, 0, 0), (42, 3, 103, 10, 16, 1393, 0, 0, 0, 0), (45, 3, 106, 10, 15, 1392, 0, 0, 0, 0), (24, 0, 8, 0, 1, 0, 0, 0, 0, 0)]
def q207_8 : List XO := [(6, 1, 0, 0, 0, 0, 0, 0, 0, 0), (42, 3, 106, 10, 15, 1392, 0, 0, 0, 0), (6, 1, 0, 0, 0, 0, 0, 0, 0, 0), (42, 3, 100, 10, 9, 1386, 0, 0, 0, 0), (23, 3, 58, 0, 3, 0, 0, 0, 0, 0), (6, 1, 0, 0, 0, 0, 0, 0, 0, 0),
  (6, 1, 0, 0, 0, 0, 0, 0, 0, 0), (42, 3, 106, 10, 15, 1392, 0, 0, 0, 0), (48, 3, 109, 208, 0, 1569, 2, 10, 0, 0), (0, 2, 0, 0, 1, 0, 0, 0, 10, 0), (23, 3, 45, 0, 0, 0, 0, 0, 0, 0), (6, 1, 0, 0, 0, 0, 0, 0, 0, 0),
  (6, 1, 0, 0, 0, 0, 0, 0, 0, 0), (42, 3, 106, 10, 15, 1392, 0, 0, 0, 0), (48, 3, 109, 208, 0, 1569, 2, 10, 0, 0), (0, 2, 0, 0, 1, 0, 0, 0, 32, 0), (23, 3, 58, 0, 1, 0, 0, 0, 0, 0), (24, 0, 45, 0, 1, 0, 0, 0, 0, 0)]
def q207_45 : List XO := [(6, 1, 0, 0, 0, 0, 0, 0, 0, 0), (19, 1, 0, 0, 0, 0, 0, 0, 0, 0), (42, 3, 106, 10, 15, 1392, 0, 0, 0, 0), (0, 1, 0, 0, 0, 0, 0, 0, 1, 0), (11, 1, 0, 0, 0, 0, 0, 0, 0, 0), (45, 3, 106, 10, 15, 1392, 0, 0, 0, 0),
  (24, 3, 8, 0, 0, 0, 0, 0, 0, 0)]
def q207_58 : List XO := [(6, 1, 0, 0, 0, 0, 0, 0, 0, 0), (6, 1, 0, 0, 0, 0, 0, 0, 0, 0), (42, 3, 106, 10, 15, 1392, 0, 0, 0, 0), (45, 3, 103, 10, 16, 1393, 0, 0, 0, 0), (6, 1, 0, 0, 0, 0, 0, 0, 0, 0), (42, 3, 106, 10, 15, 1392, 0, 0, 0, 0),
  (6, 1, 0, 0, 0, 0, 0, 0, 0, 0), (42, 3, 100, 10, 9, 1386, 0, 0, 0, 0), (23, 3, 83, 0, 2, 0, 0, 0, 0, 0), (6, 1, 0, 0, 0, 0, 0, 0, 0, 0), (0, 1, 0, 0, 0, 0, 0, 0, 0, 0), (45, 3, 112, 10, 14, 1391, 0, 0, 0, 0),
  (27, 1, 0, 0, 3, 0, 0, 0, 0, 0)]
def q207_83 : List XO := [(6, 1, 0, 0, 0, 0, 0, 0, 0, 0), (6, 1, 0, 0, 0, 0, 0, 0, 0, 0), (42, 3, 106, 10, 15, 1392, 0, 0, 0, 0), (48, 3, 109, 208, 0, 1569, 2, 10, 0, 0), (7, 1, 1, 0, 0, 0, 0, 0, 0, 0), (4, 1, 1, 0, 0, 0, 0, 0, 0, 0),
  (48, 3, 115, 209, 1, 1573, 1, 10, 0, 0), (22, 3, 198, 0, 0, 0, 0, 0, 0, 0), (6, 1, 0, 0, 0, 0, 0, 0, 0, 0), (0, 1, 0, 0, 0, 0, 0, 0, 1, 0), (45, 3, 112, 10, 14, 1391, 0, 0, 0, 0), (6, 1, 0, 0, 0, 0, 0, 0, 0, 0),
  (1, 1, 0, 0, 0, 0, 0, 0, 0, 0), (46, 3, 118, 10, 19, 1396, 0, 0, 0, 0), (24, 0, 109, 0, 1, 0, 0, 0, 0, 0)]
def q207_109 : List XO := [(6, 1, 0, 0, 0, 0, 0, 0, 0, 0), (6, 1, 0, 0, 0, 0, 0, 0, 0, 0), (42, 3, 103, 10, 16, 1393, 0, 0, 0, 0), (48, 3, 109, 208, 0, 1569, 2, 10, 0, 0), (48, 3, 115, 209, 1, 1573, 1, 10, 0, 0), (22, 3, 182, 0, 0, 0, 0, 0, 0, 0),
  (6, 1, 0, 0, 0, 0, 0, 0, 0, 0), (6, 1, 0, 0, 0, 0, 0, 0, 0, 0), (42, 3, 103, 10, 16, 1393, 0, 0, 0, 0), (6, 1, 0, 0, 0, 0, 0, 0, 0, 0), (42, 3, 106, 10, 15, 1392, 0, 0, 0, 0), (11, 1, 0, 0, 1, 0, 0, 0, 0, 0),
  (0, 2, 0, 0, 1, 0, 0, 0, 8, 0), (23, 3, 163, 0, 3, 0, 0, 0, 0, 0), (6, 1, 0, 0, 0, 0, 0, 0, 0, 0), (43, 3, 118, 10, 19, 1396, 0, 0, 0, 0), (1, 3, 121, 0, 1, 1576, 0, 0, 0, 32), (14, 1, 0, 0, 2, 0, 0, 0, 0, 0),
  (6, 1, 0, 0, 0, 0, 0, 0, 0, 0), (6, 1, 0, 0, 0, 0, 0, 0, 0, 0), (42, 3, 103, 10, 16, 1393, 0, 0, 0, 0), (48, 3, 109, 208, 0, 1569, 2, 10, 0, 0), (17, 1, 0, 0, 0, 0, 0, 0, 0, 0), (14, 1, 0, 0, 0, 0, 0, 0, 0, 0),
  (1, 3, 123, 0, 1, 1577, 0, 0, 0, 96), (14, 1, 0, 0, 1, 0, 0, 0, 0, 0), (24, 3, 166, 0, 0, 0, 0, 0, 0, 0)]
def q207_163 : List XO := [(1, 3, 88, 0, 1, 1540, 0, 0, 0, (-1)), (24, 0, 166, 0, 1, 0, 0, 0, 0, 0)]
def q207_166 : List XO := [(46, 3, 118, 10, 19, 1396, 0, 0, 0, 0), (6, 1, 0, 0, 0, 0, 0, 0, 0, 0), (19, 1, 0, 0, 0, 0, 0, 0, 0, 0), (42, 3, 103, 10, 16, 1393, 0, 0, 0, 0), (0, 1, 0, 0, 0, 0, 0, 0, 1, 0), (11, 1, 0, 0, 0, 0, 0, 0, 0, 0),
  (45, 3, 103, 10, 16, 1393, 0, 0, 0, 0), (24, 3, 109, 0, 0, 0, 0, 0, 0, 0)]
def q207_182 : List XO := [(6, 1, 0, 0, 0, 0, 0, 0, 0, 0), (6, 1, 0, 0, 0, 0, 0, 0, 0, 0), (42, 3, 103, 10, 16, 1393, 0, 0, 0, 0), (6, 1, 0, 0, 0, 0, 0, 0, 0, 0), (42, 3, 106, 10, 15, 1392, 0, 0, 0, 0), (11, 1, 0, 0, 1, 0, 0, 0, 0, 0),
  (45, 3, 125, 10, 18, 1395, 0, 0, 0, 0), (24, 3, 330, 0, 0, 0, 0, 0, 0, 0)]
def q207_198 : List XO := [(4, 1, 1, 0, 0, 0, 0, 0, 0, 0), (48, 3, 128, 210, 1, 1578, 1, 10, 0, 0), (22, 3, 298, 0, 0, 0, 0, 0, 0, 0), (6, 1, 0, 0, 0, 0, 0, 0, 0, 0), (0, 1, 0, 0, 0, 0, 0, 0, 0, 0), (45, 3, 131, 10, 17, 1394, 0, 0, 0, 0),
  (24, 0, 210, 0, 1, 0, 0, 0, 0, 0)]
def q207_210 : List XO := [(6, 1, 0, 0, 0, 0, 0, 0, 0, 0), (6, 1, 0, 0, 0, 0, 0, 0, 0, 0), (42, 3, 103, 10, 16, 1393, 0, 0, 0, 0), (48, 3, 109, 208, 0, 1569, 2, 10, 0, 0), (48, 3, 128, 210, 1, 1578, 1, 10, 0, 0), (22, 3, 273, 0, 0, 0, 0, 0, 0, 0),
  (6, 1, 0, 0, 0, 0, 0, 0, 0, 0), (42, 3, 103, 10, 16, 1393, 0, 0, 0, 0), (6, 1, 0, 0, 0, 0, 0, 0, 0, 0), (42, 3, 106, 10, 15, 1392, 0, 0, 0, 0), (11, 1, 0, 0, 1, 0, 0, 0, 0, 0), (0, 1, 0, 0, 0, 0, 0, 0, 4, 0),
  (23, 3, 260, 0, 3, 0, 0, 0, 0, 0), (6, 1, 0, 0, 0, 0, 0, 0, 0, 0), (0, 2, 0, 0, 1, 0, 0, 0, 10, 0), (6, 1, 0, 0, 0, 0, 0, 0, 0, 0), (42, 3, 131, 10, 17, 1394, 0, 0, 0, 0), (11, 1, 0, 0, 2, 0, 0, 0, 0, 0),
  (6, 1, 0, 0, 0, 0, 0, 0, 0, 0), (6, 1, 0, 0, 0, 0, 0, 0, 0, 0), (42, 3, 103, 10, 16, 1393, 0, 0, 0, 0), (48, 3, 109, 208, 0, 1569, 2, 10, 0, 0), (11, 1, 0, 0, 0, 0, 0, 0, 0, 0), (0, 2, 0, 0, 1, 0, 0, 0, 48, 0),
  (11, 1, 0, 0, 1, 0, 0, 0, 0, 0), (45, 3, 131, 10, 17, 1394, 0, 0, 0, 0), (24, 0, 260, 0, 1, 0, 0, 0, 0, 0)]
def q207_260 : List XO := [(6, 1, 0, 0, 0, 0, 0, 0, 0, 0), (19, 1, 0, 0, 0, 0, 0, 0, 0, 0), (42, 3, 103, 10, 16, 1393, 0, 0, 0, 0), (0, 1, 0, 0, 0, 0, 0, 0, 1, 0), (11, 1, 0, 0, 0, 0, 0, 0, 0, 0), (45, 3, 103, 10, 16, 1393, 0, 0, 0, 0),
  (24, 3, 210, 0, 0, 0, 0, 0, 0, 0)]
def q207_273 : List XO := [(6, 1, 0, 0, 0, 0, 0, 0, 0, 0), (6, 1, 0, 0, 0, 0, 0, 0, 0, 0), (42, 3, 103, 10, 16, 1393, 0, 0, 0, 0), (6, 1, 0, 0, 0, 0, 0, 0, 0, 0), (42, 3, 106, 10, 15, 1392, 0, 0, 0, 0), (11, 1, 0, 0, 1, 0, 0, 0, 0, 0),
  (0, 1, 0, 0, 0, 0, 0, 0, 4, 0), (23, 3, 291, 0, 5, 0, 0, 0, 0, 0), (0, 1, 0, 0, 0, 0, 0, 0, 4, 0), (24, 3, 292, 0, 0, 0, 0, 0, 0, 0)]
def q207_291 : List XO := [(0, 1, 0, 0, 0, 0, 0, 0, 2, 0), (24, 0, 292, 0, 1, 0, 0, 0, 0, 0)]
def q207_292 : List XO := [(45, 3, 112, 10, 14, 1391, 0, 0, 0, 0), (24, 3, 330, 0, 0, 0, 0, 0, 0, 0)]
def q207_298 : List XO := [(6, 1, 0, 0, 0, 0, 0, 0, 0, 0), (6, 1, 0, 0, 0, 0, 0, 0, 0, 0), (42, 3, 106, 10, 15, 1392, 0, 0, 0, 0), (0, 1, 0, 0, 0, 0, 0, 0, 1, 0), (11, 1, 0, 0, 0, 0, 0, 0, 0, 0), (45, 3, 103, 10, 16, 1393, 0, 0, 0, 0),
  (6, 1, 0, 0, 0, 0, 0, 0, 0, 0), (4, 1, 1, 0, 0, 0, 0, 0, 0, 0), (45, 3, 131, 10, 17, 1394, 0, 0, 0, 0), (6, 1, 0, 0, 0, 0, 0, 0, 0, 0), (6, 1, 0, 0, 0, 0, 0, 0, 0, 0), (4, 1, 1, 0, 0, 0, 0, 0, 0, 0),
  (48, 3, 134, 211, 0, 1581, 2, 10, 0, 0), (22, 3, 326, 0, 0, 0, 0, 0, 0, 0), (0, 1, 0, 0, 0, 0, 0, 0, 3, 0), (24, 3, 327, 0, 0, 0, 0, 0, 0, 0)]
def q207_326 : List XO := [(0, 1, 0, 0, 0, 0, 0, 0, 4, 0), (24, 0, 327, 0, 1, 0, 0, 0, 0, 0)]
def q207_327 : List XO := [(45, 3, 112, 10, 14, 1391, 0, 0, 0, 0), (24, 0, 330, 0, 1, 0, 0, 0, 0, 0)]
def q207_330 : List XO := [(27, 1, 0, 0, 3, 0, 0, 0, 0, 0)]
def xt207 : List (Nat × List XO) := [(0, q207_0), (8, q207_8), (45, q207_45), (58, q207_58), (83, q207_83), (109, q207_109), (163, q207_163), (166, q207_166),
  (182, q207_182), (198, q207_198), (210, q207_210), (260, q207_260), (273, q207_273), (291, q207_291), (292, q207_292), (298, q207_298),
  (326, q207_326), (327, q207_327), (330, q207_330)]
def q208_0 : List XO := [(4, 1, 1, 0, 0, 0, 0, 0, 0, 0), (6, 1, 0, 0, 0, 0, 0, 0, 0, 0), (42, 3, 100, 10, 9, 1386, 0, 0, 0, 0), (23, 3, 21, 0, 3, 0, 0, 0, 0, 0), (6, 1, 0, 0, 0, 0, 0, 0, 0, 0), (44, 3, 24, 10, 7, 1384, 0, 0, 0, 0),
  (4, 1, 1, 0, 0, 0, 0, 0, 0, 0), (37, 1, 0, 0, 0, 0, 0, 0, 0, 0), (0, 3, 0, 0, 2, 0, 0, 0, 255, 0), (11, 1, 0, 0, 3, 0, 0, 0, 0, 0), (24, 3, 22, 0, 0, 0, 0, 0, 0, 0)]
def q208_21 : List XO := [(0, 1, 0, 0, 0, 0, 0, 0, 0, 0), (24, 0, 22, 0, 1, 0, 0, 0, 0, 0)]
def q208_22 : List XO := [(27, 1, 0, 0, 0, 0, 0, 0, 0, 0)]
def xt208 : List (Nat × List XO) := [(0, q208_0), (21, q208_21), (22, q208_22)]
def q209_0 : List XO := [(4, 1, 0, 0, 0, 0, 0, 0, 0, 0), (0, 2, 0, 0, 1, 0, 0, 0, 97, 0), (23, 3, 16, 0, 2, 0, 0, 0, 0, 0), (4, 1, 0, 0, 0, 0, 0, 0, 0, 0), (0, 2, 0, 0, 1, 0, 0, 0, 122, 0), (23, 3, 16, 0, 4, 0, 0, 0, 0, 0),
  (0, 1, 0, 0, 0, 0, 0, 0, 1, 0), (24, 3, 17, 0, 0, 0, 0, 0, 0, 0)]
def q209_16 : List XO := [(0, 1, 0, 0, 0, 0, 0, 0, 0, 0), (24, 0, 17, 0, 1, 0, 0, 0, 0, 0)]
def q209_17 : List XO := [(27, 1, 0, 0, 1, 0, 0, 0, 0, 0)]
def xt209 : List (Nat × List XO) := [(0, q209_0), (16, q209_16), (17, q209_17)]
def q210_0 : List XO := [(4, 1, 0, 0, 0, 0, 0, 0, 0, 0), (0, 2, 0, 0, 1, 0, 0, 0, 48, 0), (23, 3, 16, 0, 2, 0, 0, 0, 0, 0), (4, 1, 0, 0, 0, 0, 0, 0, 0, 0), (0, 2, 0, 0, 1, 0, 0, 0, 57, 0), (23, 3, 16, 0, 4, 0, 0, 0, 0, 0),
  (0, 1, 0, 0, 0, 0, 0, 0, 1, 0), (24, 3, 17, 0, 0, 0, 0, 0, 0, 0)]
def q210_16 : List XO := [(0, 1, 0, 0, 0, 0, 0, 0, 0, 0), (24, 0, 17, 0, 1, 0, 0, 0, 0, 0)]
def q210_17 : List XO := [(27, 1, 0, 0, 1, 0, 0, 0, 0, 0)]
def xt210 : List (Nat × List XO) := [(0, q210_0), (16, q210_16), (17, q210_17)]
def q211_0 : List XO := [(4, 1, 1, 0, 0, 0, 0, 0, 0, 0), (0, 2, 0, 0, 1, 0, 0, 0, 59, 0), (23, 3, 24, 0, 0, 0, 0, 0, 0, 0), (4, 1, 1, 0, 0, 0, 0, 0, 0, 0), (0, 2, 0, 0, 1, 0, 0, 0, 60, 0), (23, 3, 24, 0, 0, 0, 0, 0, 0, 0),
  (4, 1, 1, 0, 0, 0, 0, 0, 0, 0), (0, 2, 0, 0, 1, 0, 0, 0, 62, 0), (23, 3, 24, 0, 0, 0, 0, 0, 0, 0), (4, 1, 1, 0, 0, 0, 0, 0, 0, 0), (0, 2, 0, 0, 1, 0, 0, 0, 61, 0), (23, 3, 28, 0, 1, 0, 0, 0, 0, 0),
  (24, 0, 24, 0, 1, 0, 0, 0, 0, 0)]
def q211_24 : List XO := [(0, 1, 0, 0, 0, 0, 0, 0, 1, 0), (24, 3, 29, 0, 0, 0, 0, 0, 0, 0)]
def q211_28 : List XO := [(0, 1, 0, 0, 0, 0, 0, 0, 0, 0), (24, 0, 29, 0, 1, 0, 0, 0, 0, 0)]
def q211_29 : List XO := [(27, 1, 0, 0, 1, 0, 0, 0, 0, 0)]
def xt211 : List (Nat × List XO) := [(0, q211_0), (24, q211_24), (28, q211_28), (29, q211_29)]
def q212_0 : List XO := [(6, 1, 0, 0, 0, 0, 0, 0, 0, 0), (48, 3, 152, 213, 0, 1589, 1, 10, 0, 0), (22, 3, 14, 0, 0, 0, 0, 0, 0, 0), (6, 1, 0, 0, 0, 0, 0, 0, 0, 0), (48, 3, 266, 216, 0, 1600, 1, 10, 0, 0), (24, 3, 60, 0, 0, 0, 0, 0, 0, 0)]
def q212_14 : List XO := [(6, 1, 0, 0, 0, 0, 0, 0, 0, 0), (48, 3, 158, 225, 0, 1635, 1, 10, 0, 0), (22, 3, 28, 0, 0, 0, 0, 0, 0, 0), (6, 1, 0, 0, 0, 0, 0, 0, 0, 0), (48, 3, 269, 226, 0, 1639, 1, 10, 0, 0), (24, 3, 60, 0, 0, 0, 0, 0, 0, 0)]
def q212_28 : List XO := [(6, 1, 0, 0, 0, 0, 0, 0, 0, 0), (48, 3, 161, 227, 0, 1643, 1, 10, 0, 0), (22, 3, 42, 0, 0, 0, 0, 0, 0, 0), (6, 1, 0, 0, 0, 0, 0, 0, 0, 0), (48, 3, 272, 228, 0, 1647, 1, 10, 0, 0), (24, 3, 60, 0, 0, 0, 0, 0, 0, 0)]
def q212_42 : List XO := [(6, 1, 0, 0, 0, 0, 0, 0, 0, 0), (48, 3, 167, 232, 0, 1663, 1, 10, 0, 0), (22, 3, 56, 0, 0, 0, 0, 0, 0, 0), (6, 1, 0, 0, 0, 0, 0, 0, 0, 0), (48, 3, 275, 233, 0, 1667, 1, 10, 0, 0), (24, 3, 60, 0, 0, 0, 0, 0, 0, 0)]
def q212_56 : List XO := [(6, 1, 0, 0, 0, 0, 0, 0, 0, 0), (48, 3, 208, 220, 0, 1616, 1, 10, 0, 0), (24, 0, 60, 0, 1, 0, 0, 0, 0, 0)]
def q212_60 : List XO := [(27, 1, 0, 0, 3, 0, 0, 0, 0, 0)]
def xt212 : List (Nat × List XO) := [(0, q212_0), (14, q212_14), (28, q212_28), (42, q212_42), (56, q212_56), (60, q212_60)]
def q213_0 : List XO := [(6, 1, 0, 0, 0, 0, 0, 0, 0, 0), (0, 2, 0, 0, 1, 0, 0, 0, 99, 0), (0, 2, 0, 0, 1, 0, 0, 0, 111, 0), (0, 2, 0, 0, 1, 0, 0, 0, 97, 0), (0, 2, 0, 0, 1, 0, 0, 0, 115, 0), (0, 2, 0, 0, 1, 0, 0, 0, 116, 0),
  (0, 1, 0, 0, 0, 0, 0, 0, 0, 0), (48, 3, 137, 214, 1, 1593, 6, 10, 0, 0), (48, 3, 141, 215, 0, 1596, 2, 10, 0, 0), (27, 1, 0, 0, 1, 0, 0, 0, 0, 0)]
def xt213 : List (Nat × List XO) := [(0, q213_0)]
def q214_0 : List XO := [(4, 1, 0, 0, 0, 0, 0, 0, 0, 0), (17, 1, 0, 0, 0, 0, 0, 0, 0, 0), (1, 3, 123, 0, 1, 1577, 0, 0, 0, 96), (14, 1, 0, 0, 1, 0, 0, 0, 0, 0), (1, 3, 121, 0, 1, 1576, 0, 0, 0, 32), (14, 1, 0, 0, 2, 0, 0, 0, 0, 0),
  (4, 1, 1, 0, 0, 0, 0, 0, 0, 0), (17, 1, 0, 0, 0, 0, 0, 0, 0, 0), (14, 1, 0, 0, 0, 0, 0, 0, 0, 0), (1, 3, 123, 0, 1, 1577, 0, 0, 0, 96), (14, 1, 0, 0, 1, 0, 0, 0, 0, 0), (8, 2, 6, 0, 0, 0, 0, 0, 0, 0),
  (4, 1, 2, 0, 0, 0, 0, 0, 0, 0), (22, 3, 39, 0, 5, 0, 0, 0, 0, 0), (5, 2, 6, 0, 0, 0, 0, 0, 0, 0), (1, 3, 121, 0, 1, 1576, 0, 0, 0, 32), (14, 1, 0, 0, 2, 0, 0, 0, 0, 0), (4, 1, 2, 0, 0, 0, 0, 0, 0, 0),
  (17, 1, 0, 0, 0, 0, 0, 0, 0, 0), (14, 1, 0, 0, 0, 0, 0, 0, 0, 0), (1, 3, 123, 0, 1, 1577, 0, 0, 0, 96), (14, 1, 0, 0, 1, 0, 0, 0, 0, 0), (24, 3, 41, 0, 0, 0, 0, 0, 0, 0)]
def q214_39 : List XO := [(5, 2, 6, 0, 0, 0, 0, 0, 0, 0), (24, 0, 41, 0, 1, 0, 0, 0, 0, 0)]
def q214_41 : List XO := [(8, 2, 6, 0, 0, 0, 0, 0, 0, 0), (4, 1, 3, 0, 0, 0, 0, 0, 0, 0), (22, 3, 63, 0, 5, 0, 0, 0, 0, 0), (5, 2, 6, 0, 0, 0, 0, 0, 0, 0), (1, 3, 121, 0, 1, 1576, 0, 0, 0, 32), (14, 1, 0, 0, 2, 0, 0, 0, 0, 0),
  (4, 1, 3, 0, 0, 0, 0, 0, 0, 0), (17, 1, 0, 0, 0, 0, 0, 0, 0, 0), (14, 1, 0, 0, 0, 0, 0, 0, 0, 0), (1, 3, 123, 0, 1, 1577, 0, 0, 0, 96), (14, 1, 0, 0, 1, 0, 0, 0, 0, 0), (24, 3, 65, 0, 0, 0, 0, 0, 0, 0)]
def q214_63 : List XO := [(5, 2, 6, 0, 0, 0, 0, 0, 0, 0), (24, 0, 65, 0, 1, 0, 0, 0, 0, 0)]
def q214_65 : List XO := [(8, 2, 6, 0, 0, 0, 0, 0, 0, 0), (4, 2, 4, 0, 0, 0, 0, 0, 0, 0), (22, 3, 89, 0, 5, 0, 0, 0, 0, 0), (5, 2, 6, 0, 0, 0, 0, 0, 0, 0), (1, 3, 121, 0, 1, 1576, 0, 0, 0, 32), (14, 1, 0, 0, 2, 0, 0, 0, 0, 0),
  (4, 2, 4, 0, 0, 0, 0, 0, 0, 0), (17, 1, 0, 0, 0, 0, 0, 0, 0, 0), (14, 1, 0, 0, 0, 0, 0, 0, 0, 0), (1, 3, 123, 0, 1, 1577, 0, 0, 0, 96), (14, 1, 0, 0, 1, 0, 0, 0, 0, 0), (24, 3, 91, 0, 0, 0, 0, 0, 0, 0)]
def q214_89 : List XO := [(5, 2, 6, 0, 0, 0, 0, 0, 0, 0), (24, 0, 91, 0, 1, 0, 0, 0, 0, 0)]
def q214_91 : List XO := [(8, 2, 6, 0, 0, 0, 0, 0, 0, 0), (4, 2, 5, 0, 0, 0, 0, 0, 0, 0), (22, 3, 115, 0, 5, 0, 0, 0, 0, 0), (5, 2, 6, 0, 0, 0, 0, 0, 0, 0), (1, 3, 121, 0, 1, 1576, 0, 0, 0, 32), (14, 1, 0, 0, 2, 0, 0, 0, 0, 0),
  (4, 2, 5, 0, 0, 0, 0, 0, 0, 0), (17, 1, 0, 0, 0, 0, 0, 0, 0, 0), (14, 1, 0, 0, 0, 0, 0, 0, 0, 0), (1, 3, 123, 0, 1, 1577, 0, 0, 0, 96), (14, 1, 0, 0, 1, 0, 0, 0, 0, 0), (24, 3, 117, 0, 0, 0, 0, 0, 0, 0)]
def q214_115 : List XO := [(5, 2, 6, 0, 0, 0, 0, 0, 0, 0), (24, 0, 117, 0, 1, 0, 0, 0, 0, 0)]
def q214_117 : List XO := [(27, 1, 0, 0, 2, 0, 0, 0, 0, 0)]
def xt214 : List (Nat × List XO) := [(0, q214_0), (39, q214_39), (41, q214_41), (63, q214_63), (65, q214_65), (89, q214_89), (91, q214_91), (115, q214_115),
  (117, q214_117)]
def q215_0 : List XO := [(6, 1, 0, 0, 0, 0, 0, 0, 0, 0), (42, 3, 112, 10, 14, 1391, 0, 0, 0, 0), (0, 1, 0, 0, 0, 0, 0, 0, 1, 0), (23, 3, 21, 0, 1, 0, 0, 0, 0, 0), (6, 1, 0, 0, 0, 0, 0, 0, 0, 0), (43, 3, 118, 10, 19, 1396, 0, 0, 0, 0),
  (5, 1, 1, 0, 0, 0, 0, 0, 0, 0), (18, 1, 0, 0, 0, 0, 0, 0, 0, 0), (22, 3, 21, 0, 1, 0, 0, 0, 0, 0), (0, 1, 0, 0, 0, 0, 0, 0, 1, 0), (24, 3, 22, 0, 0, 0, 0, 0, 0, 0)]
def q215_21 : List XO := [(0, 1, 0, 0, 0, 0, 0, 0, 0, 0), (24, 0, 22, 0, 1, 0, 0, 0, 0, 0)]
def q215_22 : List XO := [(27, 1, 0, 0, 1, 0, 0, 0, 0, 0)]
def xt215 : List (Nat × List XO) := [(0, q215_0), (21, q215_21), (22, q215_22)]
def q216_0 : List XO := [(6, 1, 0, 0, 0, 0, 0, 0, 0, 0), (42, 3, 227, 10, 24, 1401, 0, 0, 0, 0), (22, 3, 29, 0, 1, 0, 0, 0, 0, 0), (6, 1, 0, 0, 0, 0, 0, 0, 0, 0), (44, 3, 35, 10, 20, 1397, 0, 0, 0, 0), (0, 3, 0, 0, 2, 0, 0, 0, 1382, 0),
  (33, 1, 0, 0, 0, 0, 0, 0, 0, 0), (22, 3, 29, 0, 4, 0, 0, 0, 0, 0), (6, 1, 0, 0, 0, 0, 0, 0, 0, 0), (44, 3, 35, 10, 20, 1397, 0, 0, 0, 0), (0, 3, 0, 0, 2, 0, 0, 0, 1383, 0), (33, 1, 0, 0, 0, 0, 0, 0, 0, 0),
  (22, 3, 38, 0, 5, 0, 0, 0, 0, 0), (24, 0, 29, 0, 1, 0, 0, 0, 0, 0)]
def q216_29 : List XO := [(6, 1, 0, 0, 0, 0, 0, 0, 0, 0), (0, 1, 0, 0, 0, 0, 0, 0, 5, 0), (6, 1, 0, 0, 0, 0, 0, 0, 0, 0), (42, 3, 106, 10, 15, 1392, 0, 0, 0, 0), (48, 3, 201, 217, 0, 1604, 3, 10, 0, 0), (24, 0, 38, 0, 1, 0, 0, 0, 0, 0)]
def q216_38 : List XO := [(6, 1, 0, 0, 0, 0, 0, 0, 0, 0), (42, 3, 195, 10, 12, 1389, 0, 0, 0, 0), (22, 3, 46, 0, 5, 0, 0, 0, 0, 0), (27, 1, 0, 0, 3, 0, 0, 0, 0, 0)]
def q216_46 : List XO := [(6, 1, 0, 0, 0, 0, 0, 0, 0, 0), (0, 1, 0, 0, 0, 0, 0, 0, 1, 0), (61, 3, 227, 10, 24, 1401, 0, 0, 0, 0), (6, 1, 0, 0, 0, 0, 0, 0, 0, 0), (48, 3, 205, 207, 0, 1565, 1, 10, 0, 0), (6, 1, 0, 0, 0, 0, 0, 0, 0, 0),
  (44, 3, 35, 10, 20, 1397, 0, 0, 0, 0), (0, 3, 0, 0, 2, 0, 0, 0, 1380, 0), (6, 1, 0, 0, 0, 0, 0, 0, 0, 0), (0, 1, 0, 0, 0, 0, 0, 0, 1, 0), (0, 2, 0, 0, 1, 0, 0, 0, 6, 0), (48, 3, 218, 218, 0, 1608, 3, 10, 0, 0),
  (34, 1, 0, 0, 0, 0, 0, 0, 0, 0), (6, 1, 0, 0, 0, 0, 0, 0, 0, 0), (44, 3, 35, 10, 20, 1397, 0, 0, 0, 0), (0, 3, 0, 0, 2, 0, 0, 0, 1381, 0), (6, 1, 0, 0, 0, 0, 0, 0, 0, 0), (6, 1, 0, 0, 0, 0, 0, 0, 0, 0),
  (48, 3, 155, 223, 0, 1627, 1, 10, 0, 0), (0, 1, 0, 0, 0, 0, 0, 0, 1, 0), (0, 1, 0, 0, 0, 0, 0, 0, 5, 0), (48, 3, 231, 224, 0, 1631, 4, 10, 0, 0), (34, 1, 0, 0, 0, 0, 0, 0, 0, 0), (27, 1, 0, 0, 3, 0, 0, 0, 0, 0)]
def xt216 : List (Nat × List XO) := [(0, q216_0), (29, q216_29), (38, q216_38), (46, q216_46)]
def q217_0 : List XO := [(6, 1, 0, 0, 0, 0, 0, 0, 0, 0), (42, 3, 195, 10, 12, 1389, 0, 0, 0, 0), (22, 3, 8, 0, 5, 0, 0, 0, 0, 0), (27, 1, 0, 0, 3, 0, 0, 0, 0, 0)]
def q217_8 : List XO := [(6, 1, 0, 0, 0, 0, 0, 0, 0, 0), (4, 1, 1, 0, 0, 0, 0, 0, 0, 0), (45, 3, 195, 10, 12, 1389, 0, 0, 0, 0), (6, 1, 0, 0, 0, 0, 0, 0, 0, 0), (4, 1, 2, 0, 0, 0, 0, 0, 0, 0), (45, 3, 198, 10, 13, 1390, 0, 0, 0, 0),
  (27, 1, 0, 0, 3, 0, 0, 0, 0, 0)]
def xt217 : List (Nat × List XO) := [(0, q217_0), (8, q217_8)]
def q218_0 : List XO := [(6, 1, 0, 0, 0, 0, 0, 0, 0, 0), (4, 1, 1, 0, 0, 0, 0, 0, 0, 0), (4, 1, 2, 0, 0, 0, 0, 0, 0, 0), (48, 3, 211, 219, 0, 1612, 3, 10, 0, 0), (7, 1, 3, 0, 0, 0, 0, 0, 0, 0), (6, 1, 0, 0, 0, 0, 0, 0, 0, 0),
  (0, 1, 0, 0, 0, 0, 0, 0, 1, 0), (48, 3, 214, 222, 0, 1623, 2, 10, 0, 0), (4, 1, 3, 0, 0, 0, 0, 0, 0, 0), (27, 1, 0, 0, 0, 0, 0, 0, 0, 0)]
def xt218 : List (Nat × List XO) := [(0, q218_0)]
def q219_0 : List XO := [(6, 1, 0, 0, 0, 0, 0, 0, 0, 0), (42, 3, 195, 10, 12, 1389, 0, 0, 0, 0), (22, 3, 19, 0, 1, 0, 0, 0, 0, 0), (6, 1, 0, 0, 0, 0, 0, 0, 0, 0), (42, 3, 112, 10, 14, 1391, 0, 0, 0, 0), (0, 1, 0, 0, 0, 0, 0, 0, 2, 0),
  (23, 3, 19, 0, 0, 0, 0, 0, 0, 0), (6, 1, 0, 0, 0, 0, 0, 0, 0, 0), (48, 3, 208, 220, 0, 1616, 1, 10, 0, 0), (24, 0, 19, 0, 1, 0, 0, 0, 0, 0)]
def q219_19 : List XO := [(6, 1, 0, 0, 0, 0, 0, 0, 0, 0), (42, 3, 195, 10, 12, 1389, 0, 0, 0, 0), (22, 3, 50, 0, 1, 0, 0, 0, 0, 0), (6, 1, 0, 0, 0, 0, 0, 0, 0, 0), (42, 3, 131, 10, 17, 1394, 0, 0, 0, 0), (17, 1, 0, 0, 0, 0, 0, 0, 0, 0),
  (4, 1, 1, 0, 0, 0, 0, 0, 0, 0), (17, 1, 0, 0, 0, 0, 0, 0, 0, 0), (4, 1, 2, 0, 0, 0, 0, 0, 0, 0), (17, 1, 0, 0, 0, 0, 0, 0, 0, 0), (48, 3, 92, 221, 1, 1620, 3, 10, 0, 0), (22, 3, 50, 0, 1, 0, 0, 0, 0, 0),
  (6, 1, 0, 0, 0, 0, 0, 0, 0, 0), (0, 1, 0, 0, 0, 0, 0, 0, 4, 0), (6, 1, 0, 0, 0, 0, 0, 0, 0, 0), (42, 3, 106, 10, 15, 1392, 0, 0, 0, 0), (48, 3, 201, 217, 0, 1604, 3, 10, 0, 0), (24, 0, 50, 0, 1, 0, 0, 0, 0, 0)]
def q219_50 : List XO := [(6, 1, 0, 0, 0, 0, 0, 0, 0, 0), (42, 3, 195, 10, 12, 1389, 0, 0, 0, 0), (22, 3, 61, 0, 5, 0, 0, 0, 0, 0), (0, 1, 0, 0, 0, 0, 0, 0, 0, 0), (24, 3, 65, 0, 0, 0, 0, 0, 0, 0)]
def q219_61 : List XO := [(6, 1, 0, 0, 0, 0, 0, 0, 0, 0), (42, 3, 131, 10, 17, 1394, 0, 0, 0, 0), (24, 0, 65, 0, 1, 0, 0, 0, 0, 0)]
def q219_65 : List XO := [(27, 1, 0, 0, 0, 0, 0, 0, 0, 0)]
def xt219 : List (Nat × List XO) := [(0, q219_0), (19, q219_19), (50, q219_50), (61, q219_61), (65, q219_65)]
def q220_0 : List XO := [(6, 1, 0, 0, 0, 0, 0, 0, 0, 0), (6, 1, 0, 0, 0, 0, 0, 0, 0, 0), (42, 3, 112, 10, 14, 1391, 0, 0, 0, 0), (0, 1, 0, 0, 0, 0, 0, 0, 4, 0), (23, 3, 13, 0, 1, 0, 0, 0, 0, 0), (0, 1, 0, 0, 0, 0, 0, 0, 1, 0),
  (24, 3, 14, 0, 0, 0, 0, 0, 0, 0)]
def q220_13 : List XO := [(0, 1, 0, 0, 0, 0, 0, 0, 2, 0), (24, 0, 14, 0, 1, 0, 0, 0, 0, 0)]
def q220_14 : List XO := [(6, 1, 0, 0, 0, 0, 0, 0, 0, 0), (42, 3, 106, 10, 15, 1392, 0, 0, 0, 0), (48, 3, 201, 217, 0, 1604, 3, 10, 0, 0), (27, 1, 0, 0, 3, 0, 0, 0, 0, 0)]
def xt220 : List (Nat × List XO) := [(0, q220_0), (13, q220_13), (14, q220_14)]
def q221_0 : List XO := [(5, 1, 0, 0, 0, 0, 0, 0, 0, 0), (5, 1, 2, 0, 0, 0, 0, 0, 0, 0), (18, 1, 0, 0, 0, 0, 0, 0, 0, 0), (22, 3, 17, 0, 2, 0, 0, 0, 0, 0), (5, 1, 0, 0, 0, 0, 0, 0, 0, 0), (5, 2, 4, 0, 0, 0, 0, 0, 0, 0),
  (18, 1, 0, 0, 0, 0, 0, 0, 0, 0), (22, 3, 17, 0, 4, 0, 0, 0, 0, 0), (0, 1, 0, 0, 0, 0, 0, 0, 1, 0), (24, 3, 18, 0, 0, 0, 0, 0, 0, 0)]
def q221_17 : List XO := [(0, 1, 0, 0, 0, 0, 0, 0, 0, 0), (24, 0, 18, 0, 1, 0, 0, 0, 0, 0)]
def q221_18 : List XO := [(27, 1, 0, 0, 1, 0, 0, 0, 0, 0)]
def xt221 : List (Nat × List XO) := [(0, q221_0), (17, q221_17), (18, q221_18)]
def q222_0 : List XO := [(6, 1, 0, 0, 0, 0, 0, 0, 0, 0), (42, 3, 195, 10, 12, 1389, 0, 0, 0, 0), (22, 3, 8, 0, 5, 0, 0, 0, 0, 0), (27, 1, 0, 0, 3, 0, 0, 0, 0, 0)]
def q222_8 : List XO := [(4, 1, 1, 0, 0, 0, 0, 0, 0, 0), (22, 3, 19, 0, 0, 0, 0, 0, 0, 0), (6, 1, 0, 0, 0, 0, 0, 0, 0, 0), (48, 3, 205, 207, 0, 1565, 1, 10, 0, 0), (24, 3, 23, 0, 0, 0, 0, 0, 0, 0)]
def q222_19 : List XO := [(6, 1, 0, 0, 0, 0, 0, 0, 0, 0), (48, 3, 208, 220, 0, 1616, 1, 10, 0, 0), (24, 0, 23, 0, 1, 0, 0, 0, 0, 0)]
def q222_23 : List XO := [(27, 1, 0, 0, 3, 0, 0, 0, 0, 0)]
def xt222 : List (Nat × List XO) := [(0, q222_0), (8, q222_8), (19, q222_19), (23, q222_23)]
def q223_0 : List XO := [(6, 1, 0, 0, 0, 0, 0, 0, 0, 0), (0, 2, 0, 0, 1, 0, 0, 0, 98, 0), (0, 2, 0, 0, 1, 0, 0, 0, 121, 0), (0, 1, 0, 0, 0, 0, 0, 0, 0, 0), (0, 1, 0, 0, 0, 0, 0, 0, 0, 0), (0, 1, 0, 0, 0, 0, 0, 0, 0, 0),
  (0, 1, 0, 0, 0, 0, 0, 0, 0, 0), (48, 3, 137, 214, 1, 1593, 6, 10, 0, 0), (48, 3, 141, 215, 0, 1596, 2, 10, 0, 0), (27, 1, 0, 0, 1, 0, 0, 0, 0, 0)]
def xt223 : List (Nat × List XO) := [(0, q223_0)]
def q224_0 : List XO := [(6, 1, 0, 0, 0, 0, 0, 0, 0, 0), (4, 1, 1, 0, 0, 0, 0, 0, 0, 0), (48, 3, 214, 222, 0, 1623, 2, 10, 0, 0), (6, 1, 0, 0, 0, 0, 0, 0, 0, 0), (4, 1, 2, 0, 0, 0, 0, 0, 0, 0), (4, 1, 3, 0, 0, 0, 0, 0, 0, 0),
  (48, 3, 218, 218, 0, 1608, 3, 10, 0, 0), (27, 1, 0, 0, 0, 0, 0, 0, 0, 0)]
def xt224 : List (Nat × List XO) := [(0, q224_0)]
def q225_0 : List XO := [(6, 1, 0, 0, 0, 0, 0, 0, 0, 0), (0, 2, 0, 0, 1, 0, 0, 0, 111, 0), (0, 2, 0, 0, 1, 0, 0, 0, 100, 0), (0, 2, 0, 0, 1, 0, 0, 0, 100, 0), (0, 2, 0, 0, 1, 0, 0, 0, 115, 0), (0, 1, 0, 0, 0, 0, 0, 0, 0, 0),
  (0, 1, 0, 0, 0, 0, 0, 0, 0, 0), (48, 3, 137, 214, 1, 1593, 6, 10, 0, 0), (48, 3, 141, 215, 0, 1596, 2, 10, 0, 0), (27, 1, 0, 0, 1, 0, 0, 0, 0, 0)]
def xt225 : List (Nat × List XO) := [(0, q225_0)]
def q226_0 : List XO := [(6, 1, 0, 0, 0, 0, 0, 0, 0, 0), (42, 3, 235, 10, 25, 1402, 0, 0, 0, 0), (22, 3, 16, 0, 0, 0, 0, 0, 0, 0), (6, 1, 0, 0, 0, 0, 0, 0, 0, 0), (0, 1, 0, 0, 0, 0, 0, 0, 5, 0), (6, 1, 0, 0, 0, 0, 0, 0, 0, 0),
  (42, 3, 106, 10, 15, 1392, 0, 0, 0, 0), (48, 3, 201, 217, 0, 1604, 3, 10, 0, 0), (24, 0, 16, 0, 1, 0, 0, 0, 0, 0)]
def q226_16 : List XO := [(6, 1, 0, 0, 0, 0, 0, 0, 0, 0), (42, 3, 195, 10, 12, 1389, 0, 0, 0, 0), (22, 3, 24, 0, 5, 0, 0, 0, 0, 0), (27, 1, 0, 0, 3, 0, 0, 0, 0, 0)]
def q226_24 : List XO := [(6, 1, 0, 0, 0, 0, 0, 0, 0, 0), (0, 1, 0, 0, 0, 0, 0, 0, 1, 0), (61, 3, 235, 10, 25, 1402, 0, 0, 0, 0), (6, 1, 0, 0, 0, 0, 0, 0, 0, 0), (48, 3, 205, 207, 0, 1565, 1, 10, 0, 0), (6, 1, 0, 0, 0, 0, 0, 0, 0, 0),
  (44, 3, 35, 10, 20, 1397, 0, 0, 0, 0), (0, 3, 0, 0, 2, 0, 0, 0, 1384, 0), (6, 1, 0, 0, 0, 0, 0, 0, 0, 0), (0, 1, 0, 0, 0, 0, 0, 0, 0, 0), (0, 2, 0, 0, 1, 0, 0, 0, 16, 0), (48, 3, 218, 218, 0, 1608, 3, 10, 0, 0),
  (34, 1, 0, 0, 0, 0, 0, 0, 0, 0), (27, 1, 0, 0, 3, 0, 0, 0, 0, 0)]
def xt226 : List (Nat × List XO) := [(0, q226_0), (16, q226_16), (24, q226_24)]
def q227_0 : List XO := [(6, 1, 0, 0, 0, 0, 0, 0, 0, 0), (0, 2, 0, 0, 1, 0, 0, 0, 114, 0), (0, 2, 0, 0, 1, 0, 0, 0, 111, 0), (0, 2, 0, 0, 1, 0, 0, 0, 99, 0), (0, 2, 0, 0, 1, 0, 0, 0, 107, 0), (0, 1, 0, 0, 0, 0, 0, 0, 0, 0),
  (0, 1, 0, 0, 0, 0, 0, 0, 0, 0), (48, 3, 137, 214, 1, 1593, 6, 10, 0, 0), (48, 3, 141, 215, 0, 1596, 2, 10, 0, 0), (27, 1, 0, 0, 1, 0, 0, 0, 0, 0)]
def xt227 : List (Nat × List XO) := [(0, q227_0)]
def q228_0 : List XO := [(6, 1, 0, 0, 0, 0, 0, 0, 0, 0), (44, 3, 35, 10, 20, 1397, 0, 0, 0, 0), (0, 3, 0, 0, 2, 0, 0, 0, 1382, 0), (33, 1, 0, 0, 0, 0, 0, 0, 0, 0), (7, 1, 1, 0, 0, 0, 0, 0, 0, 0), (4, 1, 1, 0, 0, 0, 0, 0, 0, 0),
  (0, 2, 0, 0, 1, 0, 0, 0, 15, 0), (23, 3, 25, 0, 1, 0, 0, 0, 0, 0), (6, 1, 0, 0, 0, 0, 0, 0, 0, 0), (0, 2, 0, 0, 1, 0, 0, 0, 6, 0), (6, 1, 0, 0, 0, 0, 0, 0, 0, 0), (42, 3, 106, 10, 15, 1392, 0, 0, 0, 0),
  (48, 3, 201, 217, 0, 1604, 3, 10, 0, 0), (24, 0, 25, 0, 1, 0, 0, 0, 0, 0)]
def q228_25 : List XO := [(6, 1, 0, 0, 0, 0, 0, 0, 0, 0), (42, 3, 195, 10, 12, 1389, 0, 0, 0, 0), (22, 3, 33, 0, 5, 0, 0, 0, 0, 0), (27, 1, 0, 0, 3, 0, 0, 0, 0, 0)]
def q228_33 : List XO := [(6, 1, 0, 0, 0, 0, 0, 0, 0, 0), (48, 3, 205, 207, 0, 1565, 1, 10, 0, 0), (6, 1, 0, 0, 0, 0, 0, 0, 0, 0), (0, 1, 0, 0, 0, 0, 0, 0, 0, 0), (6, 1, 0, 0, 0, 0, 0, 0, 0, 0), (44, 3, 35, 10, 20, 1397, 0, 0, 0, 0),
  (0, 3, 0, 0, 2, 0, 0, 0, 1380, 0), (33, 1, 0, 0, 0, 0, 0, 0, 0, 0), (6, 1, 0, 0, 0, 0, 0, 0, 0, 0), (44, 3, 35, 10, 20, 1397, 0, 0, 0, 0), (0, 3, 0, 0, 2, 0, 0, 0, 1381, 0), (33, 1, 0, 0, 0, 0, 0, 0, 0, 0),
  (11, 1, 0, 0, 2, 0, 0, 0, 0, 0), (0, 1, 0, 0, 0, 0, 0, 0, 1, 0), (11, 1, 0, 0, 1, 0, 0, 0, 0, 0), (48, 3, 211, 219, 0, 1612, 3, 10, 0, 0), (7, 1, 2, 0, 0, 0, 0, 0, 0, 0), (6, 1, 0, 0, 0, 0, 0, 0, 0, 0),
  (42, 3, 195, 10, 12, 1389, 0, 0, 0, 0), (22, 3, 87, 0, 1, 0, 0, 0, 0, 0), (6, 1, 0, 0, 0, 0, 0, 0, 0, 0), (0, 1, 0, 0, 0, 0, 0, 0, 4, 0), (4, 1, 2, 0, 0, 0, 0, 0, 0, 0), (48, 3, 238, 229, 0, 1651, 3, 10, 0, 0),
  (22, 3, 87, 0, 2, 0, 0, 0, 0, 0), (6, 1, 0, 0, 0, 0, 0, 0, 0, 0), (0, 1, 0, 0, 0, 0, 0, 0, 5, 0), (6, 1, 0, 0, 0, 0, 0, 0, 0, 0), (42, 3, 106, 10, 15, 1392, 0, 0, 0, 0), (48, 3, 201, 217, 0, 1604, 3, 10, 0, 0),
  (24, 0, 87, 0, 1, 0, 0, 0, 0, 0)]
def q228_87 : List XO := [(6, 1, 0, 0, 0, 0, 0, 0, 0, 0), (0, 1, 0, 0, 0, 0, 0, 0, 1, 0), (48, 3, 214, 222, 0, 1623, 2, 10, 0, 0), (6, 1, 0, 0, 0, 0, 0, 0, 0, 0), (6, 1, 0, 0, 0, 0, 0, 0, 0, 0), (48, 3, 164, 230, 0, 1655, 1, 10, 0, 0),
  (0, 1, 0, 0, 0, 0, 0, 0, 0, 0), (0, 2, 0, 0, 1, 0, 0, 0, 9, 0), (48, 3, 231, 224, 0, 1631, 4, 10, 0, 0), (7, 1, 3, 0, 0, 0, 0, 0, 0, 0), (6, 1, 0, 0, 0, 0, 0, 0, 0, 0), (42, 3, 195, 10, 12, 1389, 0, 0, 0, 0),
  (22, 3, 118, 0, 1, 0, 0, 0, 0, 0), (6, 1, 0, 0, 0, 0, 0, 0, 0, 0), (0, 1, 0, 0, 0, 0, 0, 0, 4, 0), (4, 1, 2, 0, 0, 0, 0, 0, 0, 0), (4, 1, 3, 0, 0, 0, 0, 0, 0, 0), (48, 3, 241, 231, 0, 1659, 4, 10, 0, 0),
  (24, 0, 118, 0, 1, 0, 0, 0, 0, 0)]
def q228_118 : List XO := [(27, 1, 0, 0, 3, 0, 0, 0, 0, 0)]
def xt228 : List (Nat × List XO) := [(0, q228_0), (25, q228_25), (33, q228_33), (87, q228_87), (118, q228_118)]
def q229_0 : List XO := [(0, 3, 0, 0, 2, 0, 0, 0, 345, 0), (4, 1, 1, 0, 0, 0, 0, 0, 0, 0), (11, 1, 0, 0, 2, 0, 0, 0, 0, 0), (7, 1, 3, 0, 0, 0, 0, 0, 0, 0), (0, 1, 0, 0, 0, 0, 0, 0, 0, 0), (7, 2, 4, 0, 0, 0, 0, 0, 0, 0),
  (24, 0, 9, 0, 1, 0, 0, 0, 0, 0)]
def q229_9 : List XO := [(4, 2, 4, 0, 0, 0, 0, 0, 0, 0), (6, 1, 0, 0, 0, 0, 0, 0, 0, 0), (44, 3, 35, 10, 20, 1397, 0, 0, 0, 0), (4, 1, 3, 0, 0, 0, 0, 0, 0, 0), (0, 1, 0, 0, 0, 0, 0, 0, 2, 0), (11, 1, 0, 0, 0, 0, 0, 0, 0, 0),
  (33, 1, 0, 0, 0, 0, 0, 0, 0, 0), (23, 3, 47, 0, 3, 0, 0, 0, 0, 0), (6, 1, 0, 0, 0, 0, 0, 0, 0, 0), (44, 3, 35, 10, 20, 1397, 0, 0, 0, 0), (4, 1, 3, 0, 0, 0, 0, 0, 0, 0), (0, 2, 0, 0, 1, 0, 0, 0, 7, 0),
  (11, 1, 0, 0, 0, 0, 0, 0, 0, 0), (4, 2, 4, 0, 0, 0, 0, 0, 0, 0), (11, 1, 0, 0, 0, 0, 0, 0, 0, 0), (33, 1, 0, 0, 0, 0, 0, 0, 0, 0), (4, 1, 2, 0, 0, 0, 0, 0, 0, 0), (23, 3, 41, 0, 1, 0, 0, 0, 0, 0),
  (4, 2, 4, 0, 0, 0, 0, 0, 0, 0), (27, 1, 0, 0, 0, 0, 0, 0, 0, 0)]
def q229_41 : List XO := [(10, 3, 4, 0, 0, 0, 0, 0, 1, 0), (24, 3, 9, 0, 0, 0, 0, 0, 0, 0)]
def q229_47 : List XO := [(0, 1, 0, 0, 0, 0, 0, 0, (-1), 0), (27, 1, 0, 0, 0, 0, 0, 0, 0, 0)]
def xt229 : List (Nat × List XO) := [(0, q229_0), (9, q229_9), (41, q229_41), (47, q229_47)]
def q230_0 : List XO := [(6, 1, 0, 0, 0, 0, 0, 0, 0, 0), (0, 2, 0, 0, 1, 0, 0, 0, 100, 0), (0, 2, 0, 0, 1, 0, 0, 0, 101, 0), (0, 2, 0, 0, 1, 0, 0, 0, 101, 0), (0, 2, 0, 0, 1, 0, 0, 0, 112, 0), (0, 1, 0, 0, 0, 0, 0, 0, 0, 0),
  (0, 1, 0, 0, 0, 0, 0, 0, 0, 0), (48, 3, 137, 214, 1, 1593, 6, 10, 0, 0), (48, 3, 141, 215, 0, 1596, 2, 10, 0, 0), (27, 1, 0, 0, 1, 0, 0, 0, 0, 0)]
def xt230 : List (Nat × List XO) := [(0, q230_0)]
def q231_0 : List XO := [(0, 3, 0, 0, 2, 0, 0, 0, 345, 0), (4, 1, 1, 0, 0, 0, 0, 0, 0, 0), (11, 1, 0, 0, 2, 0, 0, 0, 0, 0), (7, 2, 4, 0, 0, 0, 0, 0, 0, 0), (6, 1, 0, 0, 0, 0, 0, 0, 0, 0), (44, 3, 35, 10, 20, 1397, 0, 0, 0, 0),
  (4, 2, 4, 0, 0, 0, 0, 0, 0, 0), (0, 2, 0, 0, 1, 0, 0, 0, 7, 0), (11, 1, 0, 0, 0, 0, 0, 0, 0, 0), (6, 1, 0, 0, 0, 0, 0, 0, 0, 0), (44, 3, 35, 10, 20, 1397, 0, 0, 0, 0), (4, 2, 4, 0, 0, 0, 0, 0, 0, 0),
  (0, 1, 0, 0, 0, 0, 0, 0, 2, 0), (11, 1, 0, 0, 0, 0, 0, 0, 0, 0), (33, 1, 0, 0, 0, 0, 0, 0, 0, 0), (11, 1, 0, 0, 0, 0, 0, 0, 0, 0), (4, 1, 2, 0, 0, 0, 0, 0, 0, 0), (34, 1, 0, 0, 0, 0, 0, 0, 0, 0),
  (6, 1, 0, 0, 0, 0, 0, 0, 0, 0), (44, 3, 35, 10, 20, 1397, 0, 0, 0, 0), (4, 2, 4, 0, 0, 0, 0, 0, 0, 0), (0, 2, 0, 0, 1, 0, 0, 0, 22, 0), (11, 1, 0, 0, 0, 0, 0, 0, 0, 0), (6, 1, 0, 0, 0, 0, 0, 0, 0, 0),
  (44, 3, 35, 10, 20, 1397, 0, 0, 0, 0), (4, 2, 4, 0, 0, 0, 0, 0, 0, 0), (0, 1, 0, 0, 0, 0, 0, 0, 2, 0), (11, 1, 0, 0, 0, 0, 0, 0, 0, 0), (33, 1, 0, 0, 0, 0, 0, 0, 0, 0), (11, 1, 0, 0, 0, 0, 0, 0, 0, 0),
  (4, 1, 3, 0, 0, 0, 0, 0, 0, 0), (34, 1, 0, 0, 0, 0, 0, 0, 0, 0), (6, 1, 0, 0, 0, 0, 0, 0, 0, 0), (44, 3, 35, 10, 20, 1397, 0, 0, 0, 0), (4, 2, 4, 0, 0, 0, 0, 0, 0, 0), (0, 1, 0, 0, 0, 0, 0, 0, 2, 0),
  (11, 1, 0, 0, 0, 0, 0, 0, 0, 0), (20, 1, 0, 0, 0, 0, 0, 0, 0, 0), (33, 1, 0, 0, 0, 0, 0, 0, 0, 0), (0, 1, 0, 0, 0, 0, 0, 0, 1, 0), (11, 1, 0, 0, 0, 0, 0, 0, 0, 0), (34, 1, 0, 0, 0, 0, 0, 0, 0, 0),
  (27, 1, 0, 0, 3, 0, 0, 0, 0, 0)]
def xt231 : List (Nat × List XO) := [(0, q231_0)]
def q232_0 : List XO := [(6, 1, 0, 0, 0, 0, 0, 0, 0, 0), (0, 2, 0, 0, 1, 0, 0, 0, 99, 0), (0, 2, 0, 0, 1, 0, 0, 0, 111, 0), (0, 2, 0, 0, 1, 0, 0, 0, 117, 0), (0, 2, 0, 0, 1, 0, 0, 0, 115, 0), (0, 2, 0, 0, 1, 0, 0, 0, 105, 0),
  (0, 2, 0, 0, 1, 0, 0, 0, 110, 0), (48, 3, 137, 214, 1, 1593, 6, 10, 0, 0), (48, 3, 141, 215, 0, 1596, 2, 10, 0, 0), (27, 1, 0, 0, 1, 0, 0, 0, 0, 0)]
def xt232 : List (Nat × List XO) := [(0, q232_0)]
def q233_0 : List XO := [(6, 1, 0, 0, 0, 0, 0, 0, 0, 0), (44, 3, 35, 10, 20, 1397, 0, 0, 0, 0), (0, 3, 0, 0, 2, 0, 0, 0, 1383, 0), (33, 1, 0, 0, 0, 0, 0, 0, 0, 0), (7, 1, 1, 0, 0, 0, 0, 0, 0, 0), (4, 1, 1, 0, 0, 0, 0, 0, 0, 0),
  (0, 2, 0, 0, 1, 0, 0, 0, 6, 0), (23, 3, 25, 0, 1, 0, 0, 0, 0, 0), (6, 1, 0, 0, 0, 0, 0, 0, 0, 0), (0, 2, 0, 0, 1, 0, 0, 0, 6, 0), (6, 1, 0, 0, 0, 0, 0, 0, 0, 0), (42, 3, 106, 10, 15, 1392, 0, 0, 0, 0),
  (48, 3, 201, 217, 0, 1604, 3, 10, 0, 0), (24, 0, 25, 0, 1, 0, 0, 0, 0, 0)]
def q233_25 : List XO := [(6, 1, 0, 0, 0, 0, 0, 0, 0, 0), (42, 3, 195, 10, 12, 1389, 0, 0, 0, 0), (22, 3, 33, 0, 5, 0, 0, 0, 0, 0), (27, 1, 0, 0, 3, 0, 0, 0, 0, 0)]
def q233_33 : List XO := [(6, 1, 0, 0, 0, 0, 0, 0, 0, 0), (48, 3, 205, 207, 0, 1565, 1, 10, 0, 0), (6, 1, 0, 0, 0, 0, 0, 0, 0, 0), (48, 3, 249, 234, 0, 1671, 1, 10, 0, 0), (22, 3, 48, 0, 1, 0, 0, 0, 0, 0), (6, 1, 0, 0, 0, 0, 0, 0, 0, 0),
  (48, 3, 208, 220, 0, 1616, 1, 10, 0, 0), (24, 0, 48, 0, 1, 0, 0, 0, 0, 0)]
def q233_48 : List XO := [(6, 1, 0, 0, 0, 0, 0, 0, 0, 0), (42, 3, 195, 10, 12, 1389, 0, 0, 0, 0), (22, 3, 72, 0, 1, 0, 0, 0, 0, 0), (6, 1, 0, 0, 0, 0, 0, 0, 0, 0), (0, 1, 0, 0, 0, 0, 0, 0, 4, 0), (48, 3, 252, 245, 0, 1715, 2, 10, 0, 0),
  (22, 3, 72, 0, 2, 0, 0, 0, 0, 0), (6, 1, 0, 0, 0, 0, 0, 0, 0, 0), (0, 1, 0, 0, 0, 0, 0, 0, 3, 0), (6, 1, 0, 0, 0, 0, 0, 0, 0, 0), (42, 3, 106, 10, 15, 1392, 0, 0, 0, 0), (48, 3, 201, 217, 0, 1604, 3, 10, 0, 0),
  (24, 0, 72, 0, 1, 0, 0, 0, 0, 0)]
def q233_72 : List XO := [(6, 1, 0, 0, 0, 0, 0, 0, 0, 0), (42, 3, 195, 10, 12, 1389, 0, 0, 0, 0), (22, 3, 80, 0, 5, 0, 0, 0, 0, 0), (27, 1, 0, 0, 3, 0, 0, 0, 0, 0)]
def q233_80 : List XO := [(6, 1, 0, 0, 0, 0, 0, 0, 0, 0), (44, 3, 41, 10, 22, 1399, 0, 0, 0, 0), (0, 2, 0, 0, 1, 0, 0, 0, 24, 0), (4, 1, 1, 0, 0, 0, 0, 0, 0, 0), (11, 1, 0, 0, 0, 0, 0, 0, 0, 0), (6, 1, 0, 0, 0, 0, 0, 0, 0, 0),
  (43, 3, 118, 10, 19, 1396, 0, 0, 0, 0), (36, 1, 0, 0, 0, 0, 0, 0, 0, 0), (6, 1, 0, 0, 0, 0, 0, 0, 0, 0), (48, 3, 205, 207, 0, 1565, 1, 10, 0, 0), (6, 1, 0, 0, 0, 0, 0, 0, 0, 0), (44, 3, 35, 10, 20, 1397, 0, 0, 0, 0),
  (0, 3, 0, 0, 2, 0, 0, 0, 1380, 0), (33, 1, 0, 0, 0, 0, 0, 0, 0, 0), (7, 1, 2, 0, 0, 0, 0, 0, 0, 0), (6, 1, 0, 0, 0, 0, 0, 0, 0, 0), (6, 1, 0, 0, 0, 0, 0, 0, 0, 0), (48, 3, 170, 236, 0, 1679, 1, 10, 0, 0),
  (0, 1, 0, 0, 0, 0, 0, 0, 0, 0), (4, 1, 2, 0, 0, 0, 0, 0, 0, 0), (6, 1, 0, 0, 0, 0, 0, 0, 0, 0), (44, 3, 35, 10, 20, 1397, 0, 0, 0, 0), (0, 3, 0, 0, 2, 0, 0, 0, 1381, 0), (33, 1, 0, 0, 0, 0, 0, 0, 0, 0),
  (11, 1, 0, 0, 2, 0, 0, 0, 0, 0), (0, 1, 0, 0, 0, 0, 0, 0, 1, 0), (11, 1, 0, 0, 1, 0, 0, 0, 0, 0), (48, 3, 231, 224, 0, 1631, 4, 10, 0, 0), (7, 1, 3, 0, 0, 0, 0, 0, 0, 0), (6, 1, 0, 0, 0, 0, 0, 0, 0, 0),
  (6, 1, 0, 0, 0, 0, 0, 0, 0, 0), (48, 3, 173, 237, 0, 1683, 1, 10, 0, 0), (0, 1, 0, 0, 0, 0, 0, 0, 1, 0), (4, 1, 2, 0, 0, 0, 0, 0, 0, 0), (4, 1, 3, 0, 0, 0, 0, 0, 0, 0), (4, 1, 2, 0, 0, 0, 0, 0, 0, 0),
  (12, 1, 0, 0, 1, 0, 0, 0, 0, 0), (11, 1, 0, 0, 1, 0, 0, 0, 0, 0), (48, 3, 231, 224, 0, 1631, 4, 10, 0, 0), (7, 2, 4, 0, 0, 0, 0, 0, 0, 0), (6, 1, 0, 0, 0, 0, 0, 0, 0, 0), (6, 1, 0, 0, 0, 0, 0, 0, 0, 0),
  (48, 3, 176, 238, 0, 1687, 1, 10, 0, 0), (0, 1, 0, 0, 0, 0, 0, 0, 1, 0), (6, 1, 0, 0, 0, 0, 0, 0, 0, 0), (44, 3, 35, 10, 20, 1397, 0, 0, 0, 0), (0, 3, 0, 0, 2, 0, 0, 0, 1381, 0), (33, 1, 0, 0, 0, 0, 0, 0, 0, 0),
  (4, 1, 3, 0, 0, 0, 0, 0, 0, 0), (4, 1, 2, 0, 0, 0, 0, 0, 0, 0), (12, 1, 0, 0, 0, 0, 0, 0, 0, 0), (11, 1, 0, 0, 1, 0, 0, 0, 0, 0), (48, 3, 231, 224, 0, 1631, 4, 10, 0, 0), (7, 2, 5, 0, 0, 0, 0, 0, 0, 0),
  (6, 1, 0, 0, 0, 0, 0, 0, 0, 0), (42, 3, 195, 10, 12, 1389, 0, 0, 0, 0), (22, 3, 175, 0, 5, 0, 0, 0, 0, 0), (27, 1, 0, 0, 3, 0, 0, 0, 0, 0)]
def q233_175 : List XO := [(6, 1, 0, 0, 0, 0, 0, 0, 0, 0), (0, 1, 0, 0, 0, 0, 0, 0, 4, 0), (4, 1, 3, 0, 0, 0, 0, 0, 0, 0), (4, 2, 4, 0, 0, 0, 0, 0, 0, 0), (4, 2, 5, 0, 0, 0, 0, 0, 0, 0), (48, 3, 255, 246, 0, 1719, 5, 10, 0, 0),
  (6, 1, 0, 0, 0, 0, 0, 0, 0, 0), (6, 1, 0, 0, 0, 0, 0, 0, 0, 0), (48, 3, 145, 242, 0, 1703, 1, 10, 0, 0), (48, 3, 259, 247, 0, 1723, 2, 10, 0, 0), (22, 3, 213, 0, 0, 0, 0, 0, 0, 0), (6, 1, 0, 0, 0, 0, 0, 0, 0, 0),
  (44, 3, 35, 10, 20, 1397, 0, 0, 0, 0), (0, 3, 0, 0, 2, 0, 0, 0, 1435, 0), (4, 1, 1, 0, 0, 0, 0, 0, 0, 0), (11, 1, 0, 0, 0, 0, 0, 0, 0, 0), (6, 1, 0, 0, 0, 0, 0, 0, 0, 0), (0, 1, 0, 0, 0, 0, 0, 0, 0, 0),
  (0, 2, 0, 0, 1, 0, 0, 0, 9, 0), (48, 3, 218, 218, 0, 1608, 3, 10, 0, 0), (34, 1, 0, 0, 0, 0, 0, 0, 0, 0), (24, 0, 213, 0, 1, 0, 0, 0, 0, 0)]
def q233_213 : List XO := [(6, 1, 0, 0, 0, 0, 0, 0, 0, 0), (6, 1, 0, 0, 0, 0, 0, 0, 0, 0), (48, 3, 149, 243, 0, 1707, 1, 10, 0, 0), (48, 3, 259, 247, 0, 1723, 2, 10, 0, 0), (22, 3, 235, 0, 0, 0, 0, 0, 0, 0), (6, 1, 0, 0, 0, 0, 0, 0, 0, 0),
  (44, 3, 35, 10, 20, 1397, 0, 0, 0, 0), (0, 3, 0, 0, 2, 0, 0, 0, 1441, 0), (4, 1, 1, 0, 0, 0, 0, 0, 0, 0), (11, 1, 0, 0, 0, 0, 0, 0, 0, 0), (0, 1, 0, 0, 0, 0, 0, 0, 1, 0), (34, 1, 0, 0, 0, 0, 0, 0, 0, 0),
  (24, 0, 235, 0, 1, 0, 0, 0, 0, 0)]
def q233_235 : List XO := [(6, 1, 0, 0, 0, 0, 0, 0, 0, 0), (6, 1, 0, 0, 0, 0, 0, 0, 0, 0), (48, 3, 179, 239, 0, 1691, 1, 10, 0, 0), (48, 3, 259, 247, 0, 1723, 2, 10, 0, 0), (22, 3, 251, 0, 0, 0, 0, 0, 0, 0), (6, 1, 0, 0, 0, 0, 0, 0, 0, 0),
  (4, 1, 1, 0, 0, 0, 0, 0, 0, 0), (48, 3, 263, 248, 0, 1727, 2, 10, 0, 0), (24, 0, 251, 0, 1, 0, 0, 0, 0, 0)]
def q233_251 : List XO := [(6, 1, 0, 0, 0, 0, 0, 0, 0, 0), (44, 3, 35, 10, 20, 1397, 0, 0, 0, 0), (0, 3, 0, 0, 2, 0, 0, 0, 1383, 0), (4, 1, 1, 0, 0, 0, 0, 0, 0, 0), (0, 1, 0, 0, 0, 0, 0, 0, 1, 0), (11, 1, 0, 0, 0, 0, 0, 0, 0, 0),
  (34, 1, 0, 0, 0, 0, 0, 0, 0, 0), (27, 1, 0, 0, 3, 0, 0, 0, 0, 0)]
def xt233 : List (Nat × List XO) := [(0, q233_0), (25, q233_25), (33, q233_33), (48, q233_48), (72, q233_72), (80, q233_80), (175, q233_175), (213, q233_213),
  (235, q233_235), (251, q233_251)]
def q234_0 : List XO := [(6, 1, 0, 0, 0, 0, 0, 0, 0, 0), (42, 3, 112, 10, 14, 1391, 0, 0, 0, 0), (0, 1, 0, 0, 0, 0, 0, 0, 1, 0), (23, 3, 28, 0, 1, 0, 0, 0, 0, 0), (6, 1, 0, 0, 0, 0, 0, 0, 0, 0), (42, 3, 125, 10, 18, 1395, 0, 0, 0, 0),
  (0, 2, 0, 0, 1, 0, 0, 0, 8, 0), (23, 3, 28, 0, 4, 0, 0, 0, 0, 0), (6, 1, 0, 0, 0, 0, 0, 0, 0, 0), (48, 3, 192, 235, 0, 1675, 1, 10, 0, 0), (22, 3, 28, 0, 1, 0, 0, 0, 0, 0), (0, 1, 0, 0, 0, 0, 0, 0, 1, 0),
  (24, 3, 29, 0, 0, 0, 0, 0, 0, 0)]
def q234_28 : List XO := [(0, 1, 0, 0, 0, 0, 0, 0, 0, 0), (24, 0, 29, 0, 1, 0, 0, 0, 0, 0)]
def q234_29 : List XO := [(27, 1, 0, 0, 1, 0, 0, 0, 0, 0)]
def xt234 : List (Nat × List XO) := [(0, q234_0), (28, q234_28), (29, q234_29)]
def q235_0 : List XO := [(6, 1, 0, 0, 0, 0, 0, 0, 0, 0), (48, 3, 152, 213, 0, 1589, 1, 10, 0, 0), (22, 3, 70, 0, 1, 0, 0, 0, 0, 0), (6, 1, 0, 0, 0, 0, 0, 0, 0, 0), (48, 3, 155, 223, 0, 1627, 1, 10, 0, 0), (22, 3, 70, 0, 1, 0, 0, 0, 0, 0),
  (6, 1, 0, 0, 0, 0, 0, 0, 0, 0), (48, 3, 158, 225, 0, 1635, 1, 10, 0, 0), (22, 3, 70, 0, 1, 0, 0, 0, 0, 0), (6, 1, 0, 0, 0, 0, 0, 0, 0, 0), (48, 3, 161, 227, 0, 1643, 1, 10, 0, 0), (22, 3, 70, 0, 1, 0, 0, 0, 0, 0),
  (6, 1, 0, 0, 0, 0, 0, 0, 0, 0), (48, 3, 164, 230, 0, 1655, 1, 10, 0, 0), (22, 3, 70, 0, 1, 0, 0, 0, 0, 0), (6, 1, 0, 0, 0, 0, 0, 0, 0, 0), (48, 3, 167, 232, 0, 1663, 1, 10, 0, 0), (22, 3, 70, 0, 1, 0, 0, 0, 0, 0),
  (6, 1, 0, 0, 0, 0, 0, 0, 0, 0), (48, 3, 170, 236, 0, 1679, 1, 10, 0, 0), (22, 3, 70, 0, 1, 0, 0, 0, 0, 0), (6, 1, 0, 0, 0, 0, 0, 0, 0, 0), (48, 3, 173, 237, 0, 1683, 1, 10, 0, 0), (22, 3, 70, 0, 1, 0, 0, 0, 0, 0),
  (6, 1, 0, 0, 0, 0, 0, 0, 0, 0), (48, 3, 176, 238, 0, 1687, 1, 10, 0, 0), (22, 3, 70, 0, 1, 0, 0, 0, 0, 0), (6, 1, 0, 0, 0, 0, 0, 0, 0, 0), (48, 3, 179, 239, 0, 1691, 1, 10, 0, 0), (22, 3, 72, 0, 0, 0, 0, 0, 0, 0),
  (24, 0, 70, 0, 1, 0, 0, 0, 0, 0)]
def q235_70 : List XO := [(0, 1, 0, 0, 0, 0, 0, 0, 1, 0), (27, 1, 0, 0, 1, 0, 0, 0, 0, 0)]
def q235_72 : List XO := [(6, 1, 0, 0, 0, 0, 0, 0, 0, 0), (48, 3, 182, 240, 0, 1695, 1, 10, 0, 0), (22, 3, 93, 0, 3, 0, 0, 0, 0, 0), (6, 1, 0, 0, 0, 0, 0, 0, 0, 0), (48, 3, 186, 241, 0, 1699, 1, 10, 0, 0), (22, 3, 93, 0, 3, 0, 0, 0, 0, 0),
  (6, 1, 0, 0, 0, 0, 0, 0, 0, 0), (48, 3, 189, 244, 0, 1711, 1, 10, 0, 0), (22, 3, 97, 0, 0, 0, 0, 0, 0, 0), (24, 0, 93, 0, 1, 0, 0, 0, 0, 0)]
def q235_93 : List XO := [(0, 1, 0, 0, 0, 0, 0, 0, 1, 0), (24, 3, 98, 0, 0, 0, 0, 0, 0, 0)]
def q235_97 : List XO := [(0, 1, 0, 0, 0, 0, 0, 0, 0, 0), (24, 0, 98, 0, 1, 0, 0, 0, 0, 0)]
def q235_98 : List XO := [(27, 1, 0, 0, 1, 0, 0, 0, 0, 0)]
def xt235 : List (Nat × List XO) := [(0, q235_0), (70, q235_70), (72, q235_72), (93, q235_93), (97, q235_97), (98, q235_98)]
def q236_0 : List XO := [(6, 1, 0, 0, 0, 0, 0, 0, 0, 0), (0, 2, 0, 0, 1, 0, 0, 0, 97, 0), (0, 2, 0, 0, 1, 0, 0, 0, 116, 0), (0, 1, 0, 0, 0, 0, 0, 0, 0, 0), (0, 1, 0, 0, 0, 0, 0, 0, 0, 0), (0, 1, 0, 0, 0, 0, 0, 0, 0, 0),
  (0, 1, 0, 0, 0, 0, 0, 0, 0, 0), (48, 3, 137, 214, 1, 1593, 6, 10, 0, 0), (48, 3, 141, 215, 0, 1596, 2, 10, 0, 0), (27, 1, 0, 0, 1, 0, 0, 0, 0, 0)]
def xt236 : List (Nat × List XO) := [(0, q236_0)]
def q237_0 : List XO := [(6, 1, 0, 0, 0, 0, 0, 0, 0, 0), (0, 2, 0, 0, 1, 0, 0, 0, 119, 0), (0, 2, 0, 0, 1, 0, 0, 0, 105, 0), (0, 2, 0, 0, 1, 0, 0, 0, 100, 0), (0, 2, 0, 0, 1, 0, 0, 0, 101, 0), (0, 1, 0, 0, 0, 0, 0, 0, 0, 0),
  (0, 1, 0, 0, 0, 0, 0, 0, 0, 0), (48, 3, 137, 214, 1, 1593, 6, 10, 0, 0), (48, 3, 141, 215, 0, 1596, 2, 10, 0, 0), (27, 1, 0, 0, 1, 0, 0, 0, 0, 0)]
def xt237 : List (Nat × List XO) := [(0, q237_0)]
def q238_0 : List XO := [(6, 1, 0, 0, 0, 0, 0, 0, 0, 0), (0, 2, 0, 0, 1, 0, 0, 0, 104, 0), (0, 2, 0, 0, 1, 0, 0, 0, 105, 0), (0, 2, 0, 0, 1, 0, 0, 0, 103, 0), (0, 2, 0, 0, 1, 0, 0, 0, 104, 0), (0, 1, 0, 0, 0, 0, 0, 0, 0, 0),
  (0, 1, 0, 0, 0, 0, 0, 0, 0, 0), (48, 3, 137, 214, 1, 1593, 6, 10, 0, 0), (48, 3, 141, 215, 0, 1596, 2, 10, 0, 0), (27, 1, 0, 0, 1, 0, 0, 0, 0, 0)]
def xt238 : List (Nat × List XO) := [(0, q238_0)]
def q239_0 : List XO := [(6, 1, 0, 0, 0, 0, 0, 0, 0, 0), (0, 2, 0, 0, 1, 0, 0, 0, 105, 0), (0, 2, 0, 0, 1, 0, 0, 0, 110, 0), (0, 2, 0, 0, 1, 0, 0, 0, 107, 0), (0, 2, 0, 0, 1, 0, 0, 0, 101, 0), (0, 2, 0, 0, 1, 0, 0, 0, 100, 0),
  (0, 1, 0, 0, 0, 0, 0, 0, 0, 0), (48, 3, 137, 214, 1, 1593, 6, 10, 0, 0), (48, 3, 141, 215, 0, 1596, 2, 10, 0, 0), (27, 1, 0, 0, 1, 0, 0, 0, 0, 0)]
def xt239 : List (Nat × List XO) := [(0, q239_0)]
def q240_0 : List XO := [(6, 1, 0, 0, 0, 0, 0, 0, 0, 0), (0, 2, 0, 0, 1, 0, 0, 0, 115, 0), (0, 2, 0, 0, 1, 0, 0, 0, 117, 0), (0, 2, 0, 0, 1, 0, 0, 0, 110, 0), (0, 1, 0, 0, 0, 0, 0, 0, 0, 0), (0, 1, 0, 0, 0, 0, 0, 0, 0, 0),
  (0, 1, 0, 0, 0, 0, 0, 0, 0, 0), (48, 3, 137, 214, 1, 1593, 6, 10, 0, 0), (48, 3, 141, 215, 0, 1596, 2, 10, 0, 0), (22, 3, 21, 0, 0, 0, 0, 0, 0, 0), (0, 1, 0, 0, 0, 0, 0, 0, 0, 0), (27, 1, 0, 0, 0, 0, 0, 0, 0, 0)]
def q240_21 : List XO := [(6, 1, 0, 0, 0, 0, 0, 0, 0, 0), (0, 2, 0, 0, 1, 0, 0, 0, 114, 0), (0, 2, 0, 0, 1, 0, 0, 0, 97, 0), (0, 2, 0, 0, 1, 0, 0, 0, 105, 0), (0, 2, 0, 0, 1, 0, 0, 0, 110, 0), (0, 1, 0, 0, 0, 0, 0, 0, 0, 0),
  (0, 1, 0, 0, 0, 0, 0, 0, 0, 0), (48, 3, 137, 214, 1, 1593, 6, 10, 0, 0), (48, 3, 141, 215, 0, 1596, 2, 10, 0, 0), (22, 3, 43, 0, 0, 0, 0, 0, 0, 0), (0, 1, 0, 0, 0, 0, 0, 0, 1, 0), (27, 1, 0, 0, 0, 0, 0, 0, 0, 0)]
def q240_43 : List XO := [(6, 1, 0, 0, 0, 0, 0, 0, 0, 0), (0, 2, 0, 0, 1, 0, 0, 0, 118, 0), (0, 2, 0, 0, 1, 0, 0, 0, 101, 0), (0, 2, 0, 0, 1, 0, 0, 0, 105, 0), (0, 2, 0, 0, 1, 0, 0, 0, 108, 0), (0, 1, 0, 0, 0, 0, 0, 0, 0, 0),
  (0, 1, 0, 0, 0, 0, 0, 0, 0, 0), (48, 3, 137, 214, 1, 1593, 6, 10, 0, 0), (48, 3, 141, 215, 0, 1596, 2, 10, 0, 0), (22, 3, 65, 0, 0, 0, 0, 0, 0, 0), (0, 1, 0, 0, 0, 0, 0, 0, 2, 0), (27, 1, 0, 0, 0, 0, 0, 0, 0, 0)]
def q240_65 : List XO := [(6, 1, 0, 0, 0, 0, 0, 0, 0, 0), (0, 2, 0, 0, 1, 0, 0, 0, 98, 0), (0, 2, 0, 0, 1, 0, 0, 0, 97, 0), (0, 2, 0, 0, 1, 0, 0, 0, 114, 0), (0, 2, 0, 0, 1, 0, 0, 0, 101, 0), (0, 1, 0, 0, 0, 0, 0, 0, 0, 0),
  (0, 1, 0, 0, 0, 0, 0, 0, 0, 0), (48, 3, 137, 214, 1, 1593, 6, 10, 0, 0), (48, 3, 141, 215, 0, 1596, 2, 10, 0, 0), (22, 3, 87, 0, 0, 0, 0, 0, 0, 0), (0, 1, 0, 0, 0, 0, 0, 0, 3, 0), (27, 1, 0, 0, 0, 0, 0, 0, 0, 0)]
def q240_87 : List XO := [(6, 1, 0, 0, 0, 0, 0, 0, 0, 0), (0, 2, 0, 0, 1, 0, 0, 0, 105, 0), (0, 2, 0, 0, 1, 0, 0, 0, 110, 0), (0, 2, 0, 0, 1, 0, 0, 0, 107, 0), (0, 1, 0, 0, 0, 0, 0, 0, 0, 0), (0, 1, 0, 0, 0, 0, 0, 0, 0, 0),
  (0, 1, 0, 0, 0, 0, 0, 0, 0, 0), (48, 3, 137, 214, 1, 1593, 6, 10, 0, 0), (48, 3, 141, 215, 0, 1596, 2, 10, 0, 0), (22, 3, 108, 0, 0, 0, 0, 0, 0, 0), (0, 1, 0, 0, 0, 0, 0, 0, 4, 0), (27, 1, 0, 0, 0, 0, 0, 0, 0, 0)]
def q240_108 : List XO := [(6, 1, 0, 0, 0, 0, 0, 0, 0, 0), (0, 2, 0, 0, 1, 0, 0, 0, 119, 0), (0, 2, 0, 0, 1, 0, 0, 0, 97, 0), (0, 2, 0, 0, 1, 0, 0, 0, 115, 0), (0, 2, 0, 0, 1, 0, 0, 0, 104, 0), (0, 1, 0, 0, 0, 0, 0, 0, 0, 0),
  (0, 1, 0, 0, 0, 0, 0, 0, 0, 0), (48, 3, 137, 214, 1, 1593, 6, 10, 0, 0), (48, 3, 141, 215, 0, 1596, 2, 10, 0, 0), (22, 3, 130, 0, 0, 0, 0, 0, 0, 0), (0, 1, 0, 0, 0, 0, 0, 0, 5, 0), (27, 1, 0, 0, 0, 0, 0, 0, 0, 0)]
def q240_130 : List XO := [(6, 1, 0, 0, 0, 0, 0, 0, 0, 0), (0, 2, 0, 0, 1, 0, 0, 0, 115, 0), (0, 2, 0, 0, 1, 0, 0, 0, 97, 0), (0, 2, 0, 0, 1, 0, 0, 0, 105, 0), (0, 2, 0, 0, 1, 0, 0, 0, 108, 0), (0, 1, 0, 0, 0, 0, 0, 0, 0, 0),
  (0, 1, 0, 0, 0, 0, 0, 0, 0, 0), (48, 3, 137, 214, 1, 1593, 6, 10, 0, 0), (48, 3, 141, 215, 0, 1596, 2, 10, 0, 0), (22, 3, 153, 0, 0, 0, 0, 0, 0, 0), (0, 2, 0, 0, 1, 0, 0, 0, 6, 0), (27, 1, 0, 0, 0, 0, 0, 0, 0, 0)]
def q240_153 : List XO := [(6, 1, 0, 0, 0, 0, 0, 0, 0, 0), (0, 2, 0, 0, 1, 0, 0, 0, 97, 0), (0, 2, 0, 0, 1, 0, 0, 0, 110, 0), (0, 2, 0, 0, 1, 0, 0, 0, 121, 0), (0, 1, 0, 0, 0, 0, 0, 0, 0, 0), (0, 1, 0, 0, 0, 0, 0, 0, 0, 0),
  (0, 1, 0, 0, 0, 0, 0, 0, 0, 0), (48, 3, 137, 214, 1, 1593, 6, 10, 0, 0), (48, 3, 141, 215, 0, 1596, 2, 10, 0, 0), (22, 3, 175, 0, 0, 0, 0, 0, 0, 0), (0, 2, 0, 0, 1, 0, 0, 0, 7, 0), (27, 1, 0, 0, 0, 0, 0, 0, 0, 0)]
def q240_175 : List XO := [(6, 1, 0, 0, 0, 0, 0, 0, 0, 0), (0, 2, 0, 0, 1, 0, 0, 0, 119, 0), (0, 2, 0, 0, 1, 0, 0, 0, 104, 0), (0, 2, 0, 0, 1, 0, 0, 0, 101, 0), (0, 2, 0, 0, 1, 0, 0, 0, 110, 0), (0, 1, 0, 0, 0, 0, 0, 0, 0, 0),
  (0, 1, 0, 0, 0, 0, 0, 0, 0, 0), (48, 3, 137, 214, 1, 1593, 6, 10, 0, 0), (48, 3, 141, 215, 0, 1596, 2, 10, 0, 0), (22, 3, 198, 0, 0, 0, 0, 0, 0, 0), (0, 2, 0, 0, 1, 0, 0, 0, 8, 0), (27, 1, 0, 0, 0, 0, 0, 0, 0, 0)]
def q240_198 : List XO := [(6, 1, 0, 0, 0, 0, 0, 0, 0, 0), (0, 2, 0, 0, 1, 0, 0, 0, 108, 0), (0, 2, 0, 0, 1, 0, 0, 0, 111, 0), (0, 2, 0, 0, 1, 0, 0, 0, 111, 0), (0, 2, 0, 0, 1, 0, 0, 0, 112, 0), (0, 1, 0, 0, 0, 0, 0, 0, 0, 0),
  (0, 1, 0, 0, 0, 0, 0, 0, 0, 0), (48, 3, 137, 214, 1, 1593, 6, 10, 0, 0), (48, 3, 141, 215, 0, 1596, 2, 10, 0, 0), (22, 3, 221, 0, 0, 0, 0, 0, 0, 0), (0, 2, 0, 0, 1, 0, 0, 0, 9, 0), (27, 1, 0, 0, 0, 0, 0, 0, 0, 0)]
def q240_221 : List XO := [(6, 1, 0, 0, 0, 0, 0, 0, 0, 0), (0, 2, 0, 0, 1, 0, 0, 0, 115, 0), (0, 2, 0, 0, 1, 0, 0, 0, 116, 0), (0, 2, 0, 0, 1, 0, 0, 0, 111, 0), (0, 2, 0, 0, 1, 0, 0, 0, 112, 0), (0, 1, 0, 0, 0, 0, 0, 0, 0, 0),
  (0, 1, 0, 0, 0, 0, 0, 0, 0, 0), (48, 3, 137, 214, 1, 1593, 6, 10, 0, 0), (48, 3, 141, 215, 0, 1596, 2, 10, 0, 0), (22, 3, 246, 0, 0, 0, 0, 0, 0, 0), (0, 2, 0, 0, 1, 0, 0, 0, 10, 0), (24, 3, 247, 0, 0, 0, 0, 0, 0, 0)]
def q240_246 : List XO := [(0, 1, 0, 0, 0, 0, 0, 0, (-1), 0), (24, 0, 247, 0, 1, 0, 0, 0, 0, 0)]
def q240_247 : List XO := [(27, 1, 0, 0, 0, 0, 0, 0, 0, 0)]
def xt240 : List (Nat × List XO) := [(0, q240_0), (21, q240_21), (43, q240_43), (65, q240_65), (87, q240_87), (108, q240_108), (130, q240_130), (153, q240_153),
  (175, q240_175), (198, q240_198), (221, q240_221), (246, q240_246), (247, q240_247)]
def q241_0 : List XO := [(6, 1, 0, 0, 0, 0, 0, 0, 0, 0), (0, 2, 0, 0, 1, 0, 0, 0, 115, 0), (0, 2, 0, 0, 1, 0, 0, 0, 104, 0), (0, 2, 0, 0, 1, 0, 0, 0, 111, 0), (0, 2, 0, 0, 1, 0, 0, 0, 119, 0), (0, 2, 0, 0, 1, 0, 0, 0, 115, 0),
  (0, 1, 0, 0, 0, 0, 0, 0, 0, 0), (48, 3, 137, 214, 1, 1593, 6, 10, 0, 0), (48, 3, 141, 215, 0, 1596, 2, 10, 0, 0), (22, 3, 23, 0, 0, 0, 0, 0, 0, 0), (0, 1, 0, 0, 0, 0, 0, 0, 0, 0), (27, 1, 0, 0, 0, 0, 0, 0, 0, 0)]
def q241_23 : List XO := [(6, 1, 0, 0, 0, 0, 0, 0, 0, 0), (48, 3, 145, 242, 0, 1703, 1, 10, 0, 0), (22, 3, 34, 0, 0, 0, 0, 0, 0, 0), (0, 1, 0, 0, 0, 0, 0, 0, 1, 0), (24, 3, 46, 0, 0, 0, 0, 0, 0, 0)]
def q241_34 : List XO := [(6, 1, 0, 0, 0, 0, 0, 0, 0, 0), (48, 3, 149, 243, 0, 1707, 1, 10, 0, 0), (22, 3, 45, 0, 0, 0, 0, 0, 0, 0), (0, 1, 0, 0, 0, 0, 0, 0, 2, 0), (24, 3, 46, 0, 0, 0, 0, 0, 0, 0)]
def q241_45 : List XO := [(0, 1, 0, 0, 0, 0, 0, 0, (-1), 0), (24, 0, 46, 0, 1, 0, 0, 0, 0, 0)]
def q241_46 : List XO := [(27, 1, 0, 0, 0, 0, 0, 0, 0, 0)]
def xt241 : List (Nat × List XO) := [(0, q241_0), (23, q241_23), (34, q241_34), (45, q241_45), (46, q241_46)]
def q242_0 : List XO := [(6, 1, 0, 0, 0, 0, 0, 0, 0, 0), (0, 2, 0, 0, 1, 0, 0, 0, 116, 0), (0, 2, 0, 0, 1, 0, 0, 0, 97, 0), (0, 2, 0, 0, 1, 0, 0, 0, 110, 0), (0, 1, 0, 0, 0, 0, 0, 0, 0, 0), (0, 1, 0, 0, 0, 0, 0, 0, 0, 0),
  (0, 1, 0, 0, 0, 0, 0, 0, 0, 0), (48, 3, 137, 214, 1, 1593, 6, 10, 0, 0), (48, 3, 141, 215, 0, 1596, 2, 10, 0, 0), (27, 1, 0, 0, 1, 0, 0, 0, 0, 0)]
def xt242 : List (Nat × List XO) := [(0, q242_0)]
def q243_0 : List XO := [(6, 1, 0, 0, 0, 0, 0, 0, 0, 0), (0, 2, 0, 0, 1, 0, 0, 0, 118, 0), (0, 2, 0, 0, 1, 0, 0, 0, 101, 0), (0, 2, 0, 0, 1, 0, 0, 0, 105, 0), (0, 2, 0, 0, 1, 0, 0, 0, 108, 0), (0, 2, 0, 0, 1, 0, 0, 0, 101, 0),
  (0, 2, 0, 0, 1, 0, 0, 0, 100, 0), (48, 3, 137, 214, 1, 1593, 6, 10, 0, 0), (48, 3, 141, 215, 0, 1596, 2, 10, 0, 0), (27, 1, 0, 0, 1, 0, 0, 0, 0, 0)]
def xt243 : List (Nat × List XO) := [(0, q243_0)]
def q244_0 : List XO := [(6, 1, 0, 0, 0, 0, 0, 0, 0, 0), (0, 2, 0, 0, 1, 0, 0, 0, 101, 0), (0, 2, 0, 0, 1, 0, 0, 0, 110, 0), (0, 2, 0, 0, 1, 0, 0, 0, 100, 0), (0, 1, 0, 0, 0, 0, 0, 0, 0, 0), (0, 1, 0, 0, 0, 0, 0, 0, 0, 0),
  (0, 1, 0, 0, 0, 0, 0, 0, 0, 0), (48, 3, 137, 214, 1, 1593, 6, 10, 0, 0), (48, 3, 141, 215, 0, 1596, 2, 10, 0, 0), (27, 1, 0, 0, 1, 0, 0, 0, 0, 0)]
def xt244 : List (Nat × List XO) := [(0, q244_0)]
def q245_0 : List XO := [(0, 1, 0, 0, 0, 0, 0, 0, 0, 0), (7, 1, 2, 0, 0, 0, 0, 0, 0, 0), (24, 0, 2, 0, 1, 0, 0, 0, 0, 0)]
def q245_2 : List XO := [(4, 1, 2, 0, 0, 0, 0, 0, 0, 0), (6, 1, 0, 0, 0, 0, 0, 0, 0, 0), (44, 3, 35, 10, 20, 1397, 0, 0, 0, 0), (0, 3, 0, 0, 2, 0, 0, 0, 345, 0), (4, 1, 1, 0, 0, 0, 0, 0, 0, 0), (11, 1, 0, 0, 2, 0, 0, 0, 0, 0),
  (0, 1, 0, 0, 0, 0, 0, 0, 3, 0), (11, 1, 0, 0, 0, 0, 0, 0, 0, 0), (33, 1, 0, 0, 0, 0, 0, 0, 0, 0), (23, 3, 45, 0, 3, 0, 0, 0, 0, 0), (6, 1, 0, 0, 0, 0, 0, 0, 0, 0), (44, 3, 41, 10, 22, 1399, 0, 0, 0, 0),
  (0, 2, 0, 0, 1, 0, 0, 0, 6, 0), (4, 1, 1, 0, 0, 0, 0, 0, 0, 0), (11, 1, 0, 0, 2, 0, 0, 0, 0, 0), (4, 1, 2, 0, 0, 0, 0, 0, 0, 0), (11, 1, 0, 0, 0, 0, 0, 0, 0, 0), (35, 1, 0, 0, 0, 0, 0, 0, 0, 0),
  (6, 1, 0, 0, 0, 0, 0, 0, 0, 0), (43, 3, 118, 10, 19, 1396, 0, 0, 0, 0), (18, 1, 0, 0, 0, 0, 0, 0, 0, 0), (22, 3, 39, 0, 1, 0, 0, 0, 0, 0), (4, 1, 2, 0, 0, 0, 0, 0, 0, 0), (27, 1, 0, 0, 0, 0, 0, 0, 0, 0)]
def q245_39 : List XO := [(10, 3, 2, 0, 0, 0, 0, 0, 1, 0), (24, 3, 2, 0, 0, 0, 0, 0, 0, 0)]
def q245_45 : List XO := [(0, 1, 0, 0, 0, 0, 0, 0, (-1), 0), (27, 1, 0, 0, 0, 0, 0, 0, 0, 0)]
def xt245 : List (Nat × List XO) := [(0, q245_0), (2, q245_2), (39, q245_39), (45, q245_45)]
def q246_0 : List XO := [(0, 3, 0, 0, 2, 0, 0, 0, 345, 0), (4, 1, 1, 0, 0, 0, 0, 0, 0, 0), (11, 1, 0, 0, 2, 0, 0, 0, 0, 0), (6, 1, 0, 0, 0, 0, 0, 0, 0, 0), (44, 3, 35, 10, 20, 1397, 0, 0, 0, 0), (0, 3, 0, 0, 2, 0, 0, 0, 345, 0),
  (4, 1, 1, 0, 0, 0, 0, 0, 0, 0), (11, 1, 0, 0, 2, 0, 0, 0, 0, 0), (0, 1, 0, 0, 0, 0, 0, 0, 3, 0), (11, 1, 0, 0, 0, 0, 0, 0, 0, 0), (33, 1, 0, 0, 0, 0, 0, 0, 0, 0), (11, 1, 0, 0, 0, 0, 0, 0, 0, 0),
  (7, 2, 5, 0, 0, 0, 0, 0, 0, 0), (6, 1, 0, 0, 0, 0, 0, 0, 0, 0), (44, 3, 35, 10, 20, 1397, 0, 0, 0, 0), (4, 2, 5, 0, 0, 0, 0, 0, 0, 0), (0, 2, 0, 0, 1, 0, 0, 0, 37, 0), (11, 1, 0, 0, 0, 0, 0, 0, 0, 0),
  (4, 1, 2, 0, 0, 0, 0, 0, 0, 0), (34, 1, 0, 0, 0, 0, 0, 0, 0, 0), (6, 1, 0, 0, 0, 0, 0, 0, 0, 0), (44, 3, 35, 10, 20, 1397, 0, 0, 0, 0), (4, 2, 5, 0, 0, 0, 0, 0, 0, 0), (0, 2, 0, 0, 1, 0, 0, 0, 43, 0),
  (11, 1, 0, 0, 0, 0, 0, 0, 0, 0), (4, 1, 3, 0, 0, 0, 0, 0, 0, 0), (34, 1, 0, 0, 0, 0, 0, 0, 0, 0), (6, 1, 0, 0, 0, 0, 0, 0, 0, 0), (44, 3, 35, 10, 20, 1397, 0, 0, 0, 0), (4, 2, 5, 0, 0, 0, 0, 0, 0, 0),
  (0, 2, 0, 0, 1, 0, 0, 0, 49, 0), (11, 1, 0, 0, 0, 0, 0, 0, 0, 0), (4, 2, 4, 0, 0, 0, 0, 0, 0, 0), (34, 1, 0, 0, 0, 0, 0, 0, 0, 0), (6, 1, 0, 0, 0, 0, 0, 0, 0, 0), (44, 3, 35, 10, 20, 1397, 0, 0, 0, 0),
  (4, 2, 5, 0, 0, 0, 0, 0, 0, 0), (0, 2, 0, 0, 1, 0, 0, 0, 55, 0), (11, 1, 0, 0, 0, 0, 0, 0, 0, 0), (0, 1, 0, 0, 0, 0, 0, 0, 0, 0), (34, 1, 0, 0, 0, 0, 0, 0, 0, 0), (6, 1, 0, 0, 0, 0, 0, 0, 0, 0),
  (44, 3, 35, 10, 20, 1397, 0, 0, 0, 0), (4, 2, 5, 0, 0, 0, 0, 0, 0, 0), (0, 2, 0, 0, 1, 0, 0, 0, 61, 0), (11, 1, 0, 0, 0, 0, 0, 0, 0, 0), (0, 1, 0, 0, 0, 0, 0, 0, 0, 0), (34, 1, 0, 0, 0, 0, 0, 0, 0, 0),
  (6, 1, 0, 0, 0, 0, 0, 0, 0, 0), (44, 3, 35, 10, 20, 1397, 0, 0, 0, 0), (4, 2, 5, 0, 0, 0, 0, 0, 0, 0), (0, 2, 0, 0, 1, 0, 0, 0, 67, 0), (11, 1, 0, 0, 0, 0, 0, 0, 0, 0), (0, 1, 0, 0, 0, 0, 0, 0, 0, 0),
  (34, 1, 0, 0, 0, 0, 0, 0, 0, 0), (27, 1, 0, 0, 3, 0, 0, 0, 0, 0)]
def xt246 : List (Nat × List XO) := [(0, q246_0)]
def q247_0 : List XO := [(6, 1, 0, 0, 0, 0, 0, 0, 0, 0), (42, 3, 195, 10, 12, 1389, 0, 0, 0, 0), (22, 3, 11, 0, 4, 0, 0, 0, 0, 0), (4, 1, 1, 0, 0, 0, 0, 0, 0, 0), (22, 3, 13, 0, 1, 0, 0, 0, 0, 0), (24, 0, 11, 0, 1, 0, 0, 0, 0, 0)]
def q247_11 : List XO := [(0, 1, 0, 0, 0, 0, 0, 0, 0, 0), (27, 1, 0, 0, 1, 0, 0, 0, 0, 0)]
def q247_13 : List XO := [(6, 1, 0, 0, 0, 0, 0, 0, 0, 0), (48, 3, 205, 207, 0, 1565, 1, 10, 0, 0), (0, 1, 0, 0, 0, 0, 0, 0, 1, 0), (27, 1, 0, 0, 1, 0, 0, 0, 0, 0)]
def xt247 : List (Nat × List XO) := [(0, q247_0), (11, q247_11), (13, q247_13)]
def q248_0 : List XO := [(0, 1, 0, 0, 0, 0, 0, 0, 0, 0), (7, 1, 2, 0, 0, 0, 0, 0, 0, 0), (0, 1, 0, 0, 0, 0, 0, 0, 0, 0), (7, 1, 3, 0, 0, 0, 0, 0, 0, 0), (24, 0, 4, 0, 1, 0, 0, 0, 0, 0)]
def q248_4 : List XO := [(6, 1, 0, 0, 0, 0, 0, 0, 0, 0), (42, 3, 195, 10, 12, 1389, 0, 0, 0, 0), (22, 3, 138, 0, 1, 0, 0, 0, 0, 0), (6, 1, 0, 0, 0, 0, 0, 0, 0, 0), (42, 3, 112, 10, 14, 1391, 0, 0, 0, 0), (0, 1, 0, 0, 0, 0, 0, 0, 2, 0),
  (23, 3, 138, 0, 1, 0, 0, 0, 0, 0), (6, 1, 0, 0, 0, 0, 0, 0, 0, 0), (0, 1, 0, 0, 0, 0, 0, 0, 0, 0), (6, 1, 0, 0, 0, 0, 0, 0, 0, 0), (44, 3, 35, 10, 20, 1397, 0, 0, 0, 0), (0, 3, 0, 0, 2, 0, 0, 0, 1380, 0),
  (33, 1, 0, 0, 0, 0, 0, 0, 0, 0), (6, 1, 0, 0, 0, 0, 0, 0, 0, 0), (44, 3, 35, 10, 20, 1397, 0, 0, 0, 0), (0, 3, 0, 0, 2, 0, 0, 0, 1381, 0), (33, 1, 0, 0, 0, 0, 0, 0, 0, 0), (11, 1, 0, 0, 2, 0, 0, 0, 0, 0),
  (0, 1, 0, 0, 0, 0, 0, 0, 1, 0), (11, 1, 0, 0, 1, 0, 0, 0, 0, 0), (48, 3, 211, 219, 0, 1612, 3, 10, 0, 0), (7, 2, 4, 0, 0, 0, 0, 0, 0, 0), (6, 1, 0, 0, 0, 0, 0, 0, 0, 0), (42, 3, 195, 10, 12, 1389, 0, 0, 0, 0),
  (22, 3, 72, 0, 1, 0, 0, 0, 0, 0), (6, 1, 0, 0, 0, 0, 0, 0, 0, 0), (0, 1, 0, 0, 0, 0, 0, 0, 4, 0), (4, 1, 1, 0, 0, 0, 0, 0, 0, 0), (4, 2, 4, 0, 0, 0, 0, 0, 0, 0), (48, 3, 245, 249, 0, 1731, 4, 10, 0, 0),
  (22, 3, 72, 0, 1, 0, 0, 0, 0, 0), (6, 1, 0, 0, 0, 0, 0, 0, 0, 0), (0, 1, 0, 0, 0, 0, 0, 0, 4, 0), (6, 1, 0, 0, 0, 0, 0, 0, 0, 0), (42, 3, 106, 10, 15, 1392, 0, 0, 0, 0), (48, 3, 201, 217, 0, 1604, 3, 10, 0, 0),
  (24, 0, 72, 0, 1, 0, 0, 0, 0, 0)]
def q248_72 : List XO := [(6, 1, 0, 0, 0, 0, 0, 0, 0, 0), (42, 3, 195, 10, 12, 1389, 0, 0, 0, 0), (22, 3, 97, 0, 1, 0, 0, 0, 0, 0), (4, 1, 2, 0, 0, 0, 0, 0, 0, 0), (4, 2, 4, 0, 0, 0, 0, 0, 0, 0), (48, 3, 96, 250, 1, 1735, 2, 10, 0, 0),
  (22, 3, 97, 0, 0, 0, 0, 0, 0, 0), (6, 1, 0, 0, 0, 0, 0, 0, 0, 0), (0, 1, 0, 0, 0, 0, 0, 0, 5, 0), (6, 1, 0, 0, 0, 0, 0, 0, 0, 0), (42, 3, 106, 10, 15, 1392, 0, 0, 0, 0), (48, 3, 201, 217, 0, 1604, 3, 10, 0, 0),
  (24, 0, 97, 0, 1, 0, 0, 0, 0, 0)]
def q248_97 : List XO := [(6, 1, 0, 0, 0, 0, 0, 0, 0, 0), (42, 3, 195, 10, 12, 1389, 0, 0, 0, 0), (22, 3, 120, 0, 1, 0, 0, 0, 0, 0), (4, 1, 3, 0, 0, 0, 0, 0, 0, 0), (0, 2, 0, 0, 1, 0, 0, 0, 6, 0), (23, 3, 120, 0, 1, 0, 0, 0, 0, 0),
  (6, 1, 0, 0, 0, 0, 0, 0, 0, 0), (0, 2, 0, 0, 1, 0, 0, 0, 6, 0), (6, 1, 0, 0, 0, 0, 0, 0, 0, 0), (42, 3, 106, 10, 15, 1392, 0, 0, 0, 0), (48, 3, 201, 217, 0, 1604, 3, 10, 0, 0), (24, 0, 120, 0, 1, 0, 0, 0, 0, 0)]
def q248_120 : List XO := [(4, 1, 2, 0, 0, 0, 0, 0, 0, 0), (0, 1, 0, 0, 0, 0, 0, 0, 1, 0), (4, 2, 4, 0, 0, 0, 0, 0, 0, 0), (11, 1, 0, 0, 6, 0, 0, 0, 0, 0), (11, 1, 0, 0, 4, 0, 0, 0, 0, 0), (7, 1, 2, 0, 0, 0, 0, 0, 0, 0),
  (6, 1, 0, 0, 0, 0, 0, 0, 0, 0), (0, 1, 0, 0, 0, 0, 0, 0, 1, 0), (48, 3, 214, 222, 0, 1623, 2, 10, 0, 0), (10, 3, 3, 0, 0, 0, 0, 0, 1, 0), (24, 3, 4, 0, 0, 0, 0, 0, 0, 0)]
def q248_138 : List XO := [(6, 1, 0, 0, 0, 0, 0, 0, 0, 0), (44, 3, 35, 10, 20, 1397, 0, 0, 0, 0), (0, 3, 0, 0, 2, 0, 0, 0, 1447, 0), (4, 1, 1, 0, 0, 0, 0, 0, 0, 0), (11, 1, 0, 0, 0, 0, 0, 0, 0, 0), (4, 1, 2, 0, 0, 0, 0, 0, 0, 0),
  (34, 1, 0, 0, 0, 0, 0, 0, 0, 0), (27, 1, 0, 0, 3, 0, 0, 0, 0, 0)]
def xt248 : List (Nat × List XO) := [(0, q248_0), (4, q248_4), (72, q248_72), (97, q248_97), (120, q248_120), (138, q248_138)]
def q249_0 : List XO := [(0, 3, 0, 0, 2, 0, 0, 0, 345, 0), (4, 1, 1, 0, 0, 0, 0, 0, 0, 0), (11, 1, 0, 0, 2, 0, 0, 0, 0, 0), (7, 2, 4, 0, 0, 0, 0, 0, 0, 0), (4, 1, 3, 0, 0, 0, 0, 0, 0, 0), (6, 1, 0, 0, 0, 0, 0, 0, 0, 0),
  (44, 3, 35, 10, 20, 1397, 0, 0, 0, 0), (4, 2, 4, 0, 0, 0, 0, 0, 0, 0), (33, 1, 0, 0, 0, 0, 0, 0, 0, 0), (12, 1, 0, 0, 1, 0, 0, 0, 0, 0), (6, 1, 0, 0, 0, 0, 0, 0, 0, 0), (44, 3, 35, 10, 20, 1397, 0, 0, 0, 0),
  (4, 2, 4, 0, 0, 0, 0, 0, 0, 0), (0, 2, 0, 0, 1, 0, 0, 0, 37, 0), (11, 1, 0, 0, 0, 0, 0, 0, 0, 0), (4, 1, 2, 0, 0, 0, 0, 0, 0, 0), (11, 1, 0, 0, 0, 0, 0, 0, 0, 0), (33, 1, 0, 0, 0, 0, 0, 0, 0, 0),
  (6, 1, 0, 0, 0, 0, 0, 0, 0, 0), (44, 3, 35, 10, 20, 1397, 0, 0, 0, 0), (4, 2, 4, 0, 0, 0, 0, 0, 0, 0), (33, 1, 0, 0, 0, 0, 0, 0, 0, 0), (12, 1, 0, 0, 1, 0, 0, 0, 0, 0), (11, 1, 0, 0, 1, 0, 0, 0, 0, 0),
  (7, 2, 5, 0, 0, 0, 0, 0, 0, 0), (4, 1, 3, 0, 0, 0, 0, 0, 0, 0), (6, 1, 0, 0, 0, 0, 0, 0, 0, 0), (44, 3, 35, 10, 20, 1397, 0, 0, 0, 0), (4, 2, 4, 0, 0, 0, 0, 0, 0, 0), (33, 1, 0, 0, 0, 0, 0, 0, 0, 0),
  (12, 1, 0, 0, 0, 0, 0, 0, 0, 0), (6, 1, 0, 0, 0, 0, 0, 0, 0, 0), (44, 3, 35, 10, 20, 1397, 0, 0, 0, 0), (4, 2, 4, 0, 0, 0, 0, 0, 0, 0), (0, 2, 0, 0, 1, 0, 0, 0, 37, 0), (11, 1, 0, 0, 0, 0, 0, 0, 0, 0),
  (4, 1, 2, 0, 0, 0, 0, 0, 0, 0), (11, 1, 0, 0, 0, 0, 0, 0, 0, 0), (33, 1, 0, 0, 0, 0, 0, 0, 0, 0), (6, 1, 0, 0, 0, 0, 0, 0, 0, 0), (44, 3, 35, 10, 20, 1397, 0, 0, 0, 0), (4, 2, 4, 0, 0, 0, 0, 0, 0, 0),
  (33, 1, 0, 0, 0, 0, 0, 0, 0, 0), (12, 1, 0, 0, 0, 0, 0, 0, 0, 0), (11, 1, 0, 0, 1, 0, 0, 0, 0, 0), (7, 2, 6, 0, 0, 0, 0, 0, 0, 0), (4, 2, 5, 0, 0, 0, 0, 0, 0, 0), (17, 1, 0, 0, 0, 0, 0, 0, 0, 0),
  (1, 1, 0, 0, 0, 0, 0, 0, 0, 0), (6, 1, 0, 0, 0, 0, 0, 0, 0, 0), (44, 3, 35, 10, 20, 1397, 0, 0, 0, 0), (4, 2, 4, 0, 0, 0, 0, 0, 0, 0), (0, 2, 0, 0, 1, 0, 0, 0, 43, 0), (11, 1, 0, 0, 0, 0, 0, 0, 0, 0),
  (4, 1, 2, 0, 0, 0, 0, 0, 0, 0), (11, 1, 0, 0, 0, 0, 0, 0, 0, 0), (33, 1, 0, 0, 0, 0, 0, 0, 0, 0), (0, 1, 0, 0, 0, 0, 0, 0, 1, 0), (11, 1, 0, 0, 1, 0, 0, 0, 0, 0), (17, 1, 0, 0, 0, 0, 0, 0, 0, 0),
  (48, 3, 92, 221, 1, 1620, 3, 10, 0, 0), (22, 3, 125, 0, 0, 0, 0, 0, 0, 0), (4, 2, 6, 0, 0, 0, 0, 0, 0, 0), (17, 1, 0, 0, 0, 0, 0, 0, 0, 0), (1, 1, 0, 0, 0, 0, 0, 0, 0, 0), (6, 1, 0, 0, 0, 0, 0, 0, 0, 0),
  (44, 3, 35, 10, 20, 1397, 0, 0, 0, 0), (4, 2, 4, 0, 0, 0, 0, 0, 0, 0), (0, 2, 0, 0, 1, 0, 0, 0, 49, 0), (11, 1, 0, 0, 0, 0, 0, 0, 0, 0), (4, 1, 2, 0, 0, 0, 0, 0, 0, 0), (11, 1, 0, 0, 0, 0, 0, 0, 0, 0),
  (33, 1, 0, 0, 0, 0, 0, 0, 0, 0), (0, 1, 0, 0, 0, 0, 0, 0, 1, 0), (11, 1, 0, 0, 1, 0, 0, 0, 0, 0), (17, 1, 0, 0, 0, 0, 0, 0, 0, 0), (48, 3, 92, 221, 1, 1620, 3, 10, 0, 0), (22, 3, 125, 0, 0, 0, 0, 0, 0, 0),
  (0, 1, 0, 0, 0, 0, 0, 0, 1, 0), (24, 3, 126, 0, 0, 0, 0, 0, 0, 0)]
def q249_125 : List XO := [(0, 1, 0, 0, 0, 0, 0, 0, 0, 0), (24, 0, 126, 0, 1, 0, 0, 0, 0, 0)]
def q249_126 : List XO := [(27, 1, 0, 0, 1, 0, 0, 0, 0, 0)]
def xt249 : List (Nat × List XO) := [(0, q249_0), (125, q249_125), (126, q249_126)]
def q250_0 : List XO := [(4, 1, 0, 0, 0, 0, 0, 0, 0, 0), (4, 1, 1, 0, 0, 0, 0, 0, 0, 0), (11, 1, 0, 0, 7, 0, 0, 0, 0, 0), (0, 1, 0, 0, 0, 0, 0, 0, 1, 0), (11, 1, 0, 0, 3, 0, 0, 0, 0, 0), (0, 1, 0, 0, 0, 0, 0, 0, 1, 0),
  (23, 3, 13, 0, 1, 0, 0, 0, 0, 0), (0, 1, 0, 0, 0, 0, 0, 0, 1, 0), (24, 3, 14, 0, 0, 0, 0, 0, 0, 0)]
def q250_13 : List XO := [(0, 1, 0, 0, 0, 0, 0, 0, 0, 0), (24, 0, 14, 0, 1, 0, 0, 0, 0, 0)]
def q250_14 : List XO := [(27, 1, 0, 0, 1, 0, 0, 0, 0, 0)]
def xt250 : List (Nat × List XO) := [(0, q250_0), (13, q250_13), (14, q250_14)]
def q251_0 : List XO := [(6, 1, 0, 0, 0, 0, 0, 0, 0, 0), (42, 3, 112, 10, 14, 1391, 0, 0, 0, 0), (0, 1, 0, 0, 0, 0, 0, 0, 3, 0), (23, 3, 20, 0, 1, 0, 0, 0, 0, 0), (6, 1, 0, 0, 0, 0, 0, 0, 0, 0), (42, 3, 131, 10, 17, 1394, 0, 0, 0, 0),
  (4, 1, 1, 0, 0, 0, 0, 0, 0, 0), (23, 3, 20, 0, 1, 0, 0, 0, 0, 0), (0, 1, 0, 0, 0, 0, 0, 0, 1, 0), (24, 3, 21, 0, 0, 0, 0, 0, 0, 0)]
def q251_20 : List XO := [(0, 1, 0, 0, 0, 0, 0, 0, 0, 0), (24, 0, 21, 0, 1, 0, 0, 0, 0, 0)]
def q251_21 : List XO := [(27, 1, 0, 0, 1, 0, 0, 0, 0, 0)]
def xt251 : List (Nat × List XO) := [(0, q251_0), (20, q251_20), (21, q251_21)]
def q252_0 : List XO := [(6, 1, 0, 0, 0, 0, 0, 0, 0, 0), (6, 1, 0, 0, 0, 0, 0, 0, 0, 0), (42, 3, 195, 10, 12, 1389, 0, 0, 0, 0), (45, 3, 28, 10, 10, 1387, 0, 0, 0, 0), (6, 1, 0, 0, 0, 0, 0, 0, 0, 0), (6, 1, 0, 0, 0, 0, 0, 0, 0, 0),
  (42, 3, 195, 10, 12, 1389, 0, 0, 0, 0), (22, 3, 20, 0, 1, 0, 0, 0, 0, 0), (0, 1, 0, 0, 0, 0, 0, 0, (-1), 0), (24, 3, 24, 0, 0, 0, 0, 0, 0, 0)]
def q252_20 : List XO := [(6, 1, 0, 0, 0, 0, 0, 0, 0, 0), (42, 3, 198, 10, 13, 1390, 0, 0, 0, 0), (24, 0, 24, 0, 1, 0, 0, 0, 0, 0)]
def q252_24 : List XO := [(45, 3, 32, 10, 11, 1388, 0, 0, 0, 0), (6, 1, 0, 0, 0, 0, 0, 0, 0, 0), (42, 3, 195, 10, 12, 1389, 0, 0, 0, 0), (22, 3, 43, 0, 0, 0, 0, 0, 0, 0), (6, 1, 0, 0, 0, 0, 0, 0, 0, 0), (0, 2, 0, 0, 1, 0, 0, 0, 10, 0),
  (48, 3, 72, 195, 0, 1517, 2, 10, 0, 0), (22, 3, 47, 0, 0, 0, 0, 0, 0, 0), (24, 0, 43, 0, 1, 0, 0, 0, 0, 0)]
def q252_43 : List XO := [(0, 1, 0, 0, 0, 0, 0, 0, 1, 0), (24, 3, 48, 0, 0, 0, 0, 0, 0, 0)]
def q252_47 : List XO := [(0, 1, 0, 0, 0, 0, 0, 0, 0, 0), (24, 0, 48, 0, 1, 0, 0, 0, 0, 0)]
def q252_48 : List XO := [(27, 1, 0, 0, 1, 0, 0, 0, 0, 0)]
def xt252 : List (Nat × List XO) := [(0, q252_0), (20, q252_20), (24, q252_24), (43, q252_43), (47, q252_47), (48, q252_48)]
def q253_0 : List XO := [(0, 1, 0, 0, 0, 0, 0, 0, 0, 0), (7, 1, 3, 0, 0, 0, 0, 0, 0, 0), (24, 0, 2, 0, 1, 0, 0, 0, 0, 0)]
def q253_2 : List XO := [(4, 1, 3, 0, 0, 0, 0, 0, 0, 0), (0, 3, 0, 0, 2, 0, 0, 0, 345, 0), (23, 3, 39, 0, 3, 0, 0, 0, 0, 0), (6, 1, 0, 0, 0, 0, 0, 0, 0, 0), (44, 3, 35, 10, 20, 1397, 0, 0, 0, 0), (0, 3, 0, 0, 2, 0, 0, 0, 345, 0),
  (4, 1, 2, 0, 0, 0, 0, 0, 0, 0), (11, 1, 0, 0, 2, 0, 0, 0, 0, 0), (4, 1, 3, 0, 0, 0, 0, 0, 0, 0), (11, 1, 0, 0, 0, 0, 0, 0, 0, 0), (6, 1, 0, 0, 0, 0, 0, 0, 0, 0), (44, 3, 35, 10, 20, 1397, 0, 0, 0, 0),
  (0, 3, 0, 0, 2, 0, 0, 0, 345, 0), (4, 1, 1, 0, 0, 0, 0, 0, 0, 0), (11, 1, 0, 0, 2, 0, 0, 0, 0, 0), (4, 1, 3, 0, 0, 0, 0, 0, 0, 0), (11, 1, 0, 0, 0, 0, 0, 0, 0, 0), (33, 1, 0, 0, 0, 0, 0, 0, 0, 0),
  (34, 1, 0, 0, 0, 0, 0, 0, 0, 0), (10, 3, 3, 0, 0, 0, 0, 0, 1, 0), (24, 3, 2, 0, 0, 0, 0, 0, 0, 0)]
def q253_39 : List XO := [(0, 1, 0, 0, 0, 0, 0, 0, 0, 0), (7, 1, 3, 0, 0, 0, 0, 0, 0, 0), (24, 0, 41, 0, 1, 0, 0, 0, 0, 0)]
def q253_41 : List XO := [(4, 1, 3, 0, 0, 0, 0, 0, 0, 0), (0, 2, 0, 0, 1, 0, 0, 0, 6, 0), (23, 3, 75, 0, 3, 0, 0, 0, 0, 0), (6, 1, 0, 0, 0, 0, 0, 0, 0, 0), (44, 3, 41, 10, 22, 1399, 0, 0, 0, 0), (0, 2, 0, 0, 1, 0, 0, 0, 6, 0),
  (4, 1, 2, 0, 0, 0, 0, 0, 0, 0), (11, 1, 0, 0, 2, 0, 0, 0, 0, 0), (4, 1, 3, 0, 0, 0, 0, 0, 0, 0), (11, 1, 0, 0, 0, 0, 0, 0, 0, 0), (6, 1, 0, 0, 0, 0, 0, 0, 0, 0), (44, 3, 41, 10, 22, 1399, 0, 0, 0, 0),
  (0, 2, 0, 0, 1, 0, 0, 0, 6, 0), (4, 1, 1, 0, 0, 0, 0, 0, 0, 0), (11, 1, 0, 0, 2, 0, 0, 0, 0, 0), (4, 1, 3, 0, 0, 0, 0, 0, 0, 0), (11, 1, 0, 0, 0, 0, 0, 0, 0, 0), (35, 1, 0, 0, 0, 0, 0, 0, 0, 0),
  (36, 1, 0, 0, 0, 0, 0, 0, 0, 0), (10, 3, 3, 0, 0, 0, 0, 0, 1, 0), (24, 3, 41, 0, 0, 0, 0, 0, 0, 0)]
def q253_75 : List XO := [(27, 1, 0, 0, 3, 0, 0, 0, 0, 0)]
def xt253 : List (Nat × List XO) := [(0, q253_0), (2, q253_2), (39, q253_39), (41, q253_41), (75, q253_75)]
def q254_0 : List XO := [(6, 1, 0, 0, 0, 0, 0, 0, 0, 0), (0, 1, 0, 0, 0, 0, 0, 0, 0, 0), (45, 3, 57, 10, 1, 1378, 0, 0, 0, 0), (6, 1, 0, 0, 0, 0, 0, 0, 0, 0), (0, 1, 0, 0, 0, 0, 0, 0, 0, 0), (45, 3, 60, 10, 0, 1377, 0, 0, 0, 0),
  (6, 1, 0, 0, 0, 0, 0, 0, 0, 0), (4, 1, 1, 0, 0, 0, 0, 0, 0, 0), (0, 3, 0, 0, 2, 0, 0, 0, 300, 0), (48, 3, 278, 206, 0, 1561, 3, 10, 0, 0), (22, 3, 23, 0, 1, 0, 0, 0, 0, 0), (0, 1, 0, 0, 0, 0, 0, 0, (-1), 0),
  (27, 1, 0, 0, 0, 0, 0, 0, 0, 0)]
def q254_23 : List XO := [(6, 1, 0, 0, 0, 0, 0, 0, 0, 0), (0, 1, 0, 0, 0, 0, 0, 0, 0, 0), (45, 3, 305, 10, 26, 1403, 0, 0, 0, 0), (24, 0, 28, 0, 1, 0, 0, 0, 0, 0)]
def q254_28 : List XO := [(6, 1, 0, 0, 0, 0, 0, 0, 0, 0), (42, 3, 195, 10, 12, 1389, 0, 0, 0, 0), (22, 3, 50, 0, 1, 0, 0, 0, 0, 0), (6, 1, 0, 0, 0, 0, 0, 0, 0, 0), (42, 3, 112, 10, 14, 1391, 0, 0, 0, 0), (22, 3, 50, 0, 0, 0, 0, 0, 0, 0),
  (6, 1, 0, 0, 0, 0, 0, 0, 0, 0), (0, 1, 0, 0, 0, 0, 0, 0, 0, 0), (48, 3, 311, 255, 0, 1754, 2, 10, 0, 0), (24, 3, 28, 0, 0, 0, 0, 0, 0, 0)]
def q254_50 : List XO := [(6, 1, 0, 0, 0, 0, 0, 0, 0, 0), (48, 3, 287, 252, 0, 1742, 1, 10, 0, 0), (22, 3, 59, 0, 1, 0, 0, 0, 0, 0), (0, 1, 0, 0, 0, 0, 0, 0, (-1), 0), (27, 1, 0, 0, 0, 0, 0, 0, 0, 0)]
def q254_59 : List XO := [(6, 1, 0, 0, 0, 0, 0, 0, 0, 0), (44, 3, 35, 10, 20, 1397, 0, 0, 0, 0), (0, 2, 0, 0, 1, 0, 0, 0, 73, 0), (0, 1, 0, 0, 0, 0, 0, 0, 1, 0), (34, 1, 0, 0, 0, 0, 0, 0, 0, 0), (6, 1, 0, 0, 0, 0, 0, 0, 0, 0),
  (44, 3, 35, 10, 20, 1397, 0, 0, 0, 0), (0, 2, 0, 0, 1, 0, 0, 0, 74, 0), (6, 1, 0, 0, 0, 0, 0, 0, 0, 0), (42, 3, 305, 10, 26, 1403, 0, 0, 0, 0), (34, 1, 0, 0, 0, 0, 0, 0, 0, 0), (0, 1, 0, 0, 0, 0, 0, 0, 0, 0),
  (7, 1, 2, 0, 0, 0, 0, 0, 0, 0), (24, 0, 80, 0, 1, 0, 0, 0, 0, 0)]
def q254_80 : List XO := [(4, 1, 2, 0, 0, 0, 0, 0, 0, 0), (0, 2, 0, 0, 1, 0, 0, 0, 9, 0), (6, 1, 0, 0, 0, 0, 0, 0, 0, 0), (42, 3, 305, 10, 26, 1403, 0, 0, 0, 0), (11, 1, 0, 0, 2, 0, 0, 0, 0, 0), (23, 3, 116, 0, 3, 0, 0, 0, 0, 0),
  (6, 1, 0, 0, 0, 0, 0, 0, 0, 0), (44, 3, 35, 10, 20, 1397, 0, 0, 0, 0), (0, 2, 0, 0, 1, 0, 0, 0, 75, 0), (4, 1, 2, 0, 0, 0, 0, 0, 0, 0), (11, 1, 0, 0, 0, 0, 0, 0, 0, 0), (6, 1, 0, 0, 0, 0, 0, 0, 0, 0),
  (44, 3, 35, 10, 20, 1397, 0, 0, 0, 0), (0, 3, 0, 0, 2, 0, 0, 0, 1455, 0), (4, 1, 2, 0, 0, 0, 0, 0, 0, 0), (11, 1, 0, 0, 0, 0, 0, 0, 0, 0), (33, 1, 0, 0, 0, 0, 0, 0, 0, 0), (34, 1, 0, 0, 0, 0, 0, 0, 0, 0),
  (10, 3, 2, 0, 0, 0, 0, 0, 1, 0), (24, 3, 80, 0, 0, 0, 0, 0, 0, 0)]
def q254_116 : List XO := [(6, 1, 0, 0, 0, 0, 0, 0, 0, 0), (42, 3, 305, 10, 26, 1403, 0, 0, 0, 0), (27, 1, 0, 0, 0, 0, 0, 0, 0, 0)]
def xt254 : List (Nat × List XO) := [(0, q254_0), (23, q254_23), (28, q254_28), (50, q254_50), (59, q254_59), (80, q254_80), (116, q254_116)]
def q255_0 : List XO := [(6, 1, 0, 0, 0, 0, 0, 0, 0, 0), (48, 3, 182, 240, 0, 1695, 1, 10, 0, 0), (7, 1, 2, 0, 0, 0, 0, 0, 0, 0), (4, 1, 2, 0, 0, 0, 0, 0, 0, 0), (0, 2, 0, 0, 1, 0, 0, 0, 8, 0), (23, 3, 17, 0, 0, 0, 0, 0, 0, 0),
  (4, 1, 2, 0, 0, 0, 0, 0, 0, 0), (0, 2, 0, 0, 1, 0, 0, 0, 9, 0), (23, 3, 21, 0, 1, 0, 0, 0, 0, 0), (24, 0, 17, 0, 1, 0, 0, 0, 0, 0)]
def q255_17 : List XO := [(0, 1, 0, 0, 0, 0, 0, 0, 1, 0), (24, 3, 22, 0, 0, 0, 0, 0, 0, 0)]
def q255_21 : List XO := [(0, 1, 0, 0, 0, 0, 0, 0, 0, 0), (24, 0, 22, 0, 1, 0, 0, 0, 0, 0)]
def q255_22 : List XO := [(7, 1, 3, 0, 0, 0, 0, 0, 0, 0), (4, 1, 2, 0, 0, 0, 0, 0, 0, 0), (22, 3, 31, 0, 3, 0, 0, 0, 0, 0), (6, 1, 0, 0, 0, 0, 0, 0, 0, 0), (48, 3, 208, 220, 0, 1616, 1, 10, 0, 0), (24, 0, 31, 0, 1, 0, 0, 0, 0, 0)]
def q255_31 : List XO := [(6, 1, 0, 0, 0, 0, 0, 0, 0, 0), (42, 3, 195, 10, 12, 1389, 0, 0, 0, 0), (22, 3, 57, 0, 1, 0, 0, 0, 0, 0), (6, 1, 0, 0, 0, 0, 0, 0, 0, 0), (42, 3, 305, 10, 26, 1403, 0, 0, 0, 0), (0, 2, 0, 0, 1, 0, 0, 0, 30, 0),
  (23, 3, 57, 0, 1, 0, 0, 0, 0, 0), (6, 1, 0, 0, 0, 0, 0, 0, 0, 0), (0, 2, 0, 0, 1, 0, 0, 0, 6, 0), (6, 1, 0, 0, 0, 0, 0, 0, 0, 0), (42, 3, 106, 10, 15, 1392, 0, 0, 0, 0), (48, 3, 201, 217, 0, 1604, 3, 10, 0, 0),
  (24, 0, 57, 0, 1, 0, 0, 0, 0, 0)]
def q255_57 : List XO := [(6, 1, 0, 0, 0, 0, 0, 0, 0, 0), (42, 3, 195, 10, 12, 1389, 0, 0, 0, 0), (22, 3, 83, 0, 1, 0, 0, 0, 0, 0), (4, 1, 3, 0, 0, 0, 0, 0, 0, 0), (22, 3, 83, 0, 0, 0, 0, 0, 0, 0), (4, 1, 1, 0, 0, 0, 0, 0, 0, 0),
  (0, 1, 0, 0, 0, 0, 0, 0, 3, 0), (23, 3, 83, 0, 1, 0, 0, 0, 0, 0), (6, 1, 0, 0, 0, 0, 0, 0, 0, 0), (0, 2, 0, 0, 1, 0, 0, 0, 7, 0), (6, 1, 0, 0, 0, 0, 0, 0, 0, 0), (42, 3, 106, 10, 15, 1392, 0, 0, 0, 0),
  (48, 3, 201, 217, 0, 1604, 3, 10, 0, 0), (24, 0, 83, 0, 1, 0, 0, 0, 0, 0)]
def q255_83 : List XO := [(6, 1, 0, 0, 0, 0, 0, 0, 0, 0), (42, 3, 195, 10, 12, 1389, 0, 0, 0, 0), (22, 3, 91, 0, 5, 0, 0, 0, 0, 0), (27, 1, 0, 0, 3, 0, 0, 0, 0, 0)]
def q255_91 : List XO := [(0, 3, 0, 0, 2, 0, 0, 0, 1455, 0), (0, 2, 0, 0, 1, 0, 0, 0, 9, 0), (6, 1, 0, 0, 0, 0, 0, 0, 0, 0), (42, 3, 305, 10, 26, 1403, 0, 0, 0, 0), (11, 1, 0, 0, 2, 0, 0, 0, 0, 0), (11, 1, 0, 0, 0, 0, 0, 0, 0, 0),
  (7, 2, 4, 0, 0, 0, 0, 0, 0, 0), (6, 1, 0, 0, 0, 0, 0, 0, 0, 0), (19, 1, 0, 0, 0, 0, 0, 0, 0, 0), (42, 3, 305, 10, 26, 1403, 0, 0, 0, 0), (0, 1, 0, 0, 0, 0, 0, 0, 1, 0), (11, 1, 0, 0, 0, 0, 0, 0, 0, 0),
  (45, 3, 305, 10, 26, 1403, 0, 0, 0, 0), (6, 1, 0, 0, 0, 0, 0, 0, 0, 0), (48, 3, 205, 207, 0, 1565, 1, 10, 0, 0), (6, 1, 0, 0, 0, 0, 0, 0, 0, 0), (44, 3, 35, 10, 20, 1397, 0, 0, 0, 0), (4, 2, 4, 0, 0, 0, 0, 0, 0, 0),
  (4, 1, 2, 0, 0, 0, 0, 0, 0, 0), (34, 1, 0, 0, 0, 0, 0, 0, 0, 0), (6, 1, 0, 0, 0, 0, 0, 0, 0, 0), (4, 2, 4, 0, 0, 0, 0, 0, 0, 0), (48, 3, 308, 256, 0, 1758, 2, 10, 0, 0), (6, 1, 0, 0, 0, 0, 0, 0, 0, 0),
  (6, 1, 0, 0, 0, 0, 0, 0, 0, 0), (0, 2, 0, 0, 1, 0, 0, 0, 59, 0), (48, 3, 284, 251, 0, 1738, 2, 10, 0, 0), (48, 3, 214, 222, 0, 1623, 2, 10, 0, 0), (24, 0, 142, 0, 1, 0, 0, 0, 0, 0)]
def q255_142 : List XO := [(4, 1, 3, 0, 0, 0, 0, 0, 0, 0), (22, 3, 170, 0, 0, 0, 0, 0, 0, 0), (6, 1, 0, 0, 0, 0, 0, 0, 0, 0), (42, 3, 195, 10, 12, 1389, 0, 0, 0, 0), (22, 3, 170, 0, 1, 0, 0, 0, 0, 0), (6, 1, 0, 0, 0, 0, 0, 0, 0, 0),
  (48, 3, 189, 244, 0, 1711, 1, 10, 0, 0), (22, 3, 170, 0, 1, 0, 0, 0, 0, 0), (6, 1, 0, 0, 0, 0, 0, 0, 0, 0), (4, 1, 1, 0, 0, 0, 0, 0, 0, 0), (0, 1, 0, 0, 0, 0, 0, 0, 1, 0), (11, 1, 0, 0, 0, 0, 0, 0, 0, 0),
  (48, 3, 311, 255, 0, 1754, 2, 10, 0, 0), (24, 3, 142, 0, 0, 0, 0, 0, 0, 0)]
def q255_170 : List XO := [(4, 1, 3, 0, 0, 0, 0, 0, 0, 0), (22, 3, 192, 0, 0, 0, 0, 0, 0, 0), (6, 1, 0, 0, 0, 0, 0, 0, 0, 0), (6, 1, 0, 0, 0, 0, 0, 0, 0, 0), (48, 3, 189, 244, 0, 1711, 1, 10, 0, 0), (48, 3, 214, 222, 0, 1623, 2, 10, 0, 0),
  (6, 1, 0, 0, 0, 0, 0, 0, 0, 0), (6, 1, 0, 0, 0, 0, 0, 0, 0, 0), (0, 2, 0, 0, 1, 0, 0, 0, 59, 0), (48, 3, 284, 251, 0, 1738, 2, 10, 0, 0), (48, 3, 214, 222, 0, 1623, 2, 10, 0, 0), (24, 0, 192, 0, 1, 0, 0, 0, 0, 0)]
def q255_192 : List XO := [(6, 1, 0, 0, 0, 0, 0, 0, 0, 0), (44, 3, 35, 10, 20, 1397, 0, 0, 0, 0), (4, 2, 4, 0, 0, 0, 0, 0, 0, 0), (0, 2, 0, 0, 1, 0, 0, 0, 8, 0), (11, 1, 0, 0, 0, 0, 0, 0, 0, 0), (6, 1, 0, 0, 0, 0, 0, 0, 0, 0),
  (42, 3, 305, 10, 26, 1403, 0, 0, 0, 0), (34, 1, 0, 0, 0, 0, 0, 0, 0, 0), (27, 1, 0, 0, 3, 0, 0, 0, 0, 0)]
def xt255 : List (Nat × List XO) := [(0, q255_0), (17, q255_17), (21, q255_21), (22, q255_22), (31, q255_31), (57, q255_57), (83, q255_83), (91, q255_91),
  (142, q255_142), (170, q255_170), (192, q255_192)]
def q256_0 : List XO := [(6, 1, 0, 0, 0, 0, 0, 0, 0, 0), (44, 3, 35, 10, 20, 1397, 0, 0, 0, 0), (4, 1, 1, 0, 0, 0, 0, 0, 0, 0), (33, 1, 0, 0, 0, 0, 0, 0, 0, 0), (7, 1, 2, 0, 0, 0, 0, 0, 0, 0), (4, 1, 2, 0, 0, 0, 0, 0, 0, 0),
  (0, 1, 0, 0, 0, 0, 0, 0, 1, 0), (23, 3, 30, 0, 1, 0, 0, 0, 0, 0), (6, 1, 0, 0, 0, 0, 0, 0, 0, 0), (44, 3, 35, 10, 20, 1397, 0, 0, 0, 0), (4, 1, 1, 0, 0, 0, 0, 0, 0, 0), (0, 1, 0, 0, 0, 0, 0, 0, 1, 0),
  (11, 1, 0, 0, 0, 0, 0, 0, 0, 0), (6, 1, 0, 0, 0, 0, 0, 0, 0, 0), (0, 1, 0, 0, 0, 0, 0, 0, 1, 0), (0, 2, 0, 0, 1, 0, 0, 0, 9, 0), (48, 3, 218, 218, 0, 1608, 3, 10, 0, 0), (34, 1, 0, 0, 0, 0, 0, 0, 0, 0),
  (24, 3, 176, 0, 0, 0, 0, 0, 0, 0)]
def q256_30 : List XO := [(4, 1, 2, 0, 0, 0, 0, 0, 0, 0), (0, 2, 0, 0, 1, 0, 0, 0, 9, 0), (23, 3, 54, 0, 1, 0, 0, 0, 0, 0), (6, 1, 0, 0, 0, 0, 0, 0, 0, 0), (44, 3, 35, 10, 20, 1397, 0, 0, 0, 0), (4, 1, 1, 0, 0, 0, 0, 0, 0, 0),
  (0, 1, 0, 0, 0, 0, 0, 0, 1, 0), (11, 1, 0, 0, 0, 0, 0, 0, 0, 0), (6, 1, 0, 0, 0, 0, 0, 0, 0, 0), (0, 1, 0, 0, 0, 0, 0, 0, 1, 0), (0, 2, 0, 0, 1, 0, 0, 0, 99, 0), (48, 3, 218, 218, 0, 1608, 3, 10, 0, 0),
  (34, 1, 0, 0, 0, 0, 0, 0, 0, 0), (24, 3, 176, 0, 0, 0, 0, 0, 0, 0)]
def q256_54 : List XO := [(4, 1, 2, 0, 0, 0, 0, 0, 0, 0), (0, 2, 0, 0, 1, 0, 0, 0, 8, 0), (23, 3, 68, 0, 1, 0, 0, 0, 0, 0), (6, 1, 0, 0, 0, 0, 0, 0, 0, 0), (4, 1, 1, 0, 0, 0, 0, 0, 0, 0), (48, 3, 302, 257, 0, 1762, 2, 10, 0, 0),
  (24, 3, 176, 0, 0, 0, 0, 0, 0, 0)]
def q256_68 : List XO := [(4, 1, 2, 0, 0, 0, 0, 0, 0, 0), (0, 2, 0, 0, 1, 0, 0, 0, 7, 0), (23, 3, 176, 0, 3, 0, 0, 0, 0, 0), (6, 1, 0, 0, 0, 0, 0, 0, 0, 0), (44, 3, 35, 10, 20, 1397, 0, 0, 0, 0), (4, 1, 1, 0, 0, 0, 0, 0, 0, 0),
  (0, 1, 0, 0, 0, 0, 0, 0, 1, 0), (11, 1, 0, 0, 0, 0, 0, 0, 0, 0), (6, 1, 0, 0, 0, 0, 0, 0, 0, 0), (48, 3, 296, 258, 0, 1766, 1, 10, 0, 0), (34, 1, 0, 0, 0, 0, 0, 0, 0, 0), (4, 1, 2, 0, 0, 0, 0, 0, 0, 0),
  (22, 3, 105, 0, 1, 0, 0, 0, 0, 0), (6, 1, 0, 0, 0, 0, 0, 0, 0, 0), (44, 3, 35, 10, 20, 1397, 0, 0, 0, 0), (4, 1, 1, 0, 0, 0, 0, 0, 0, 0), (0, 1, 0, 0, 0, 0, 0, 0, 2, 0), (11, 1, 0, 0, 0, 0, 0, 0, 0, 0),
  (6, 1, 0, 0, 0, 0, 0, 0, 0, 0), (0, 1, 0, 0, 0, 0, 0, 0, 1, 0), (0, 2, 0, 0, 1, 0, 0, 0, 9, 0), (48, 3, 218, 218, 0, 1608, 3, 10, 0, 0), (34, 1, 0, 0, 0, 0, 0, 0, 0, 0), (24, 0, 105, 0, 1, 0, 0, 0, 0, 0)]
def q256_105 : List XO := [(4, 1, 2, 0, 0, 0, 0, 0, 0, 0), (0, 1, 0, 0, 0, 0, 0, 0, 4, 0), (23, 3, 116, 0, 0, 0, 0, 0, 0, 0), (4, 1, 2, 0, 0, 0, 0, 0, 0, 0), (0, 2, 0, 0, 1, 0, 0, 0, 6, 0), (23, 3, 135, 0, 1, 0, 0, 0, 0, 0),
  (24, 0, 116, 0, 1, 0, 0, 0, 0, 0)]
def q256_116 : List XO := [(6, 1, 0, 0, 0, 0, 0, 0, 0, 0), (44, 3, 35, 10, 20, 1397, 0, 0, 0, 0), (4, 1, 1, 0, 0, 0, 0, 0, 0, 0), (0, 1, 0, 0, 0, 0, 0, 0, 2, 0), (11, 1, 0, 0, 0, 0, 0, 0, 0, 0), (6, 1, 0, 0, 0, 0, 0, 0, 0, 0),
  (0, 1, 0, 0, 0, 0, 0, 0, 0, 0), (6, 1, 0, 0, 0, 0, 0, 0, 0, 0), (48, 3, 299, 259, 0, 1771, 1, 10, 0, 0), (0, 1, 0, 0, 0, 0, 0, 0, 1, 0), (11, 1, 0, 0, 1, 0, 0, 0, 0, 0), (48, 3, 218, 218, 0, 1608, 3, 10, 0, 0),
  (34, 1, 0, 0, 0, 0, 0, 0, 0, 0), (24, 0, 135, 0, 1, 0, 0, 0, 0, 0)]
def q256_135 : List XO := [(4, 1, 2, 0, 0, 0, 0, 0, 0, 0), (0, 2, 0, 0, 1, 0, 0, 0, 6, 0), (23, 3, 142, 0, 0, 0, 0, 0, 0, 0), (27, 1, 0, 0, 3, 0, 0, 0, 0, 0)]
def q256_142 : List XO := [(6, 1, 0, 0, 0, 0, 0, 0, 0, 0), (44, 3, 35, 10, 20, 1397, 0, 0, 0, 0), (4, 1, 1, 0, 0, 0, 0, 0, 0, 0), (0, 1, 0, 0, 0, 0, 0, 0, 3, 0), (11, 1, 0, 0, 0, 0, 0, 0, 0, 0), (6, 1, 0, 0, 0, 0, 0, 0, 0, 0),
  (0, 1, 0, 0, 0, 0, 0, 0, 0, 0), (6, 1, 0, 0, 0, 0, 0, 0, 0, 0), (48, 3, 299, 259, 0, 1771, 1, 10, 0, 0), (0, 1, 0, 0, 0, 0, 0, 0, 1, 0), (11, 1, 0, 0, 1, 0, 0, 0, 0, 0), (48, 3, 218, 218, 0, 1608, 3, 10, 0, 0),
  (34, 1, 0, 0, 0, 0, 0, 0, 0, 0), (6, 1, 0, 0, 0, 0, 0, 0, 0, 0), (44, 3, 35, 10, 20, 1397, 0, 0, 0, 0), (4, 1, 1, 0, 0, 0, 0, 0, 0, 0), (0, 1, 0, 0, 0, 0, 0, 0, 4, 0), (11, 1, 0, 0, 0, 0, 0, 0, 0, 0),
  (6, 1, 0, 0, 0, 0, 0, 0, 0, 0), (0, 1, 0, 0, 0, 0, 0, 0, 1, 0), (0, 2, 0, 0, 1, 0, 0, 0, 10, 0), (48, 3, 218, 218, 0, 1608, 3, 10, 0, 0), (34, 1, 0, 0, 0, 0, 0, 0, 0, 0), (24, 0, 176, 0, 1, 0, 0, 0, 0, 0)]
def q256_176 : List XO := [(27, 1, 0, 0, 3, 0, 0, 0, 0, 0)]
def xt256 : List (Nat × List XO) := [(0, q256_0), (30, q256_30), (54, q256_54), (68, q256_68), (105, q256_105), (116, q256_116), (135, q256_135), (142, q256_142),
  (176, q256_176)]
def q257_0 : List XO := [(6, 1, 0, 0, 0, 0, 0, 0, 0, 0), (48, 3, 186, 241, 0, 1699, 1, 10, 0, 0), (7, 1, 2, 0, 0, 0, 0, 0, 0, 0), (6, 1, 0, 0, 0, 0, 0, 0, 0, 0), (4, 1, 2, 0, 0, 0, 0, 0, 0, 0), (22, 3, 14, 0, 2, 0, 0, 0, 0, 0),
  (0, 1, 0, 0, 0, 0, 0, 0, 1, 0), (24, 3, 15, 0, 0, 0, 0, 0, 0, 0)]
def q257_14 : List XO := [(0, 1, 0, 0, 0, 0, 0, 0, 0, 0), (24, 0, 15, 0, 1, 0, 0, 0, 0, 0)]
def q257_15 : List XO := [(48, 3, 214, 222, 0, 1623, 2, 10, 0, 0), (6, 1, 0, 0, 0, 0, 0, 0, 0, 0), (44, 3, 35, 10, 20, 1397, 0, 0, 0, 0), (4, 1, 1, 0, 0, 0, 0, 0, 0, 0), (0, 1, 0, 0, 0, 0, 0, 0, 5, 0), (11, 1, 0, 0, 0, 0, 0, 0, 0, 0),
  (4, 1, 2, 0, 0, 0, 0, 0, 0, 0), (34, 1, 0, 0, 0, 0, 0, 0, 0, 0), (6, 1, 0, 0, 0, 0, 0, 0, 0, 0), (42, 3, 195, 10, 12, 1389, 0, 0, 0, 0), (22, 3, 35, 0, 5, 0, 0, 0, 0, 0), (27, 1, 0, 0, 3, 0, 0, 0, 0, 0)]
def q257_35 : List XO := [(6, 1, 0, 0, 0, 0, 0, 0, 0, 0), (44, 3, 35, 10, 20, 1397, 0, 0, 0, 0), (4, 1, 1, 0, 0, 0, 0, 0, 0, 0), (0, 1, 0, 0, 0, 0, 0, 0, 1, 0), (11, 1, 0, 0, 0, 0, 0, 0, 0, 0), (6, 1, 0, 0, 0, 0, 0, 0, 0, 0),
  (48, 3, 296, 258, 0, 1766, 1, 10, 0, 0), (34, 1, 0, 0, 0, 0, 0, 0, 0, 0), (4, 1, 2, 0, 0, 0, 0, 0, 0, 0), (22, 3, 70, 0, 1, 0, 0, 0, 0, 0), (6, 1, 0, 0, 0, 0, 0, 0, 0, 0), (44, 3, 35, 10, 20, 1397, 0, 0, 0, 0),
  (4, 1, 1, 0, 0, 0, 0, 0, 0, 0), (0, 1, 0, 0, 0, 0, 0, 0, 2, 0), (11, 1, 0, 0, 0, 0, 0, 0, 0, 0), (6, 1, 0, 0, 0, 0, 0, 0, 0, 0), (0, 1, 0, 0, 0, 0, 0, 0, 0, 0), (6, 1, 0, 0, 0, 0, 0, 0, 0, 0),
  (48, 3, 299, 259, 0, 1771, 1, 10, 0, 0), (0, 1, 0, 0, 0, 0, 0, 0, 1, 0), (11, 1, 0, 0, 1, 0, 0, 0, 0, 0), (48, 3, 218, 218, 0, 1608, 3, 10, 0, 0), (34, 1, 0, 0, 0, 0, 0, 0, 0, 0), (24, 0, 70, 0, 1, 0, 0, 0, 0, 0)]
def q257_70 : List XO := [(6, 1, 0, 0, 0, 0, 0, 0, 0, 0), (42, 3, 195, 10, 12, 1389, 0, 0, 0, 0), (22, 3, 82, 0, 4, 0, 0, 0, 0, 0), (4, 1, 2, 0, 0, 0, 0, 0, 0, 0), (0, 1, 0, 0, 0, 0, 0, 0, 1, 0), (23, 3, 83, 0, 0, 0, 0, 0, 0, 0),
  (24, 0, 82, 0, 1, 0, 0, 0, 0, 0)]
def q257_82 : List XO := [(27, 1, 0, 0, 3, 0, 0, 0, 0, 0)]
def q257_83 : List XO := [(6, 1, 0, 0, 0, 0, 0, 0, 0, 0), (44, 3, 35, 10, 20, 1397, 0, 0, 0, 0), (4, 1, 1, 0, 0, 0, 0, 0, 0, 0), (0, 2, 0, 0, 1, 0, 0, 0, 7, 0), (11, 1, 0, 0, 0, 0, 0, 0, 0, 0), (6, 1, 0, 0, 0, 0, 0, 0, 0, 0),
  (42, 3, 112, 10, 14, 1391, 0, 0, 0, 0), (0, 1, 0, 0, 0, 0, 0, 0, 3, 0), (23, 3, 106, 0, 1, 0, 0, 0, 0, 0), (6, 1, 0, 0, 0, 0, 0, 0, 0, 0), (42, 3, 131, 10, 17, 1394, 0, 0, 0, 0), (24, 3, 107, 0, 0, 0, 0, 0, 0, 0)]
def q257_106 : List XO := [(0, 1, 0, 0, 0, 0, 0, 0, 0, 0), (24, 0, 107, 0, 1, 0, 0, 0, 0, 0)]
def q257_107 : List XO := [(34, 1, 0, 0, 0, 0, 0, 0, 0, 0), (6, 1, 0, 0, 0, 0, 0, 0, 0, 0), (6, 1, 0, 0, 0, 0, 0, 0, 0, 0), (0, 2, 0, 0, 1, 0, 0, 0, 60, 0), (48, 3, 284, 251, 0, 1738, 2, 10, 0, 0), (22, 3, 136, 0, 1, 0, 0, 0, 0, 0),
  (6, 1, 0, 0, 0, 0, 0, 0, 0, 0), (0, 2, 0, 0, 1, 0, 0, 0, 62, 0), (48, 3, 284, 251, 0, 1738, 2, 10, 0, 0), (22, 3, 136, 0, 1, 0, 0, 0, 0, 0), (6, 1, 0, 0, 0, 0, 0, 0, 0, 0), (0, 2, 0, 0, 1, 0, 0, 0, 61, 0),
  (48, 3, 284, 251, 0, 1738, 2, 10, 0, 0), (22, 3, 140, 0, 0, 0, 0, 0, 0, 0), (24, 0, 136, 0, 1, 0, 0, 0, 0, 0)]
def q257_136 : List XO := [(0, 1, 0, 0, 0, 0, 0, 0, 1, 0), (24, 3, 141, 0, 0, 0, 0, 0, 0, 0)]
def q257_140 : List XO := [(0, 1, 0, 0, 0, 0, 0, 0, 0, 0), (24, 0, 141, 0, 1, 0, 0, 0, 0, 0)]
def q257_141 : List XO := [(48, 3, 214, 222, 0, 1623, 2, 10, 0, 0), (6, 1, 0, 0, 0, 0, 0, 0, 0, 0), (44, 3, 35, 10, 20, 1397, 0, 0, 0, 0), (4, 1, 1, 0, 0, 0, 0, 0, 0, 0), (0, 2, 0, 0, 1, 0, 0, 0, 6, 0), (11, 1, 0, 0, 0, 0, 0, 0, 0, 0),
  (6, 1, 0, 0, 0, 0, 0, 0, 0, 0), (0, 1, 0, 0, 0, 0, 0, 0, 0, 0), (0, 2, 0, 0, 1, 0, 0, 0, 9, 0), (48, 3, 218, 218, 0, 1608, 3, 10, 0, 0), (34, 1, 0, 0, 0, 0, 0, 0, 0, 0), (27, 1, 0, 0, 3, 0, 0, 0, 0, 0)]
def xt257 : List (Nat × List XO) := [(0, q257_0), (14, q257_14), (15, q257_15), (35, q257_35), (70, q257_70), (82, q257_82), (83, q257_83), (106, q257_106),
  (107, q257_107), (136, q257_136), (140, q257_140), (141, q257_141)]
def q258_0 : List XO := [(6, 1, 0, 0, 0, 0, 0, 0, 0, 0), (42, 3, 195, 10, 12, 1389, 0, 0, 0, 0), (22, 3, 18, 0, 1, 0, 0, 0, 0, 0), (6, 1, 0, 0, 0, 0, 0, 0, 0, 0), (48, 3, 249, 234, 0, 1671, 1, 10, 0, 0), (22, 3, 18, 0, 1, 0, 0, 0, 0, 0),
  (6, 1, 0, 0, 0, 0, 0, 0, 0, 0), (48, 3, 208, 220, 0, 1616, 1, 10, 0, 0), (24, 0, 18, 0, 1, 0, 0, 0, 0, 0)]
def q258_18 : List XO := [(6, 1, 0, 0, 0, 0, 0, 0, 0, 0), (42, 3, 195, 10, 12, 1389, 0, 0, 0, 0), (22, 3, 27, 0, 5, 0, 0, 0, 0, 0), (0, 1, 0, 0, 0, 0, 0, 0, 0, 0), (27, 1, 0, 0, 0, 0, 0, 0, 0, 0)]
def q258_27 : List XO := [(6, 1, 0, 0, 0, 0, 0, 0, 0, 0), (0, 1, 0, 0, 0, 0, 0, 0, 0, 0), (48, 3, 252, 245, 0, 1715, 2, 10, 0, 0), (7, 1, 1, 0, 0, 0, 0, 0, 0, 0), (4, 1, 1, 0, 0, 0, 0, 0, 0, 0), (22, 3, 46, 0, 3, 0, 0, 0, 0, 0),
  (6, 1, 0, 0, 0, 0, 0, 0, 0, 0), (0, 1, 0, 0, 0, 0, 0, 0, 3, 0), (6, 1, 0, 0, 0, 0, 0, 0, 0, 0), (42, 3, 106, 10, 15, 1392, 0, 0, 0, 0), (48, 3, 201, 217, 0, 1604, 3, 10, 0, 0), (24, 0, 46, 0, 1, 0, 0, 0, 0, 0)]
def q258_46 : List XO := [(6, 1, 0, 0, 0, 0, 0, 0, 0, 0), (0, 1, 0, 0, 0, 0, 0, 0, 1, 0), (48, 3, 214, 222, 0, 1623, 2, 10, 0, 0), (0, 1, 0, 0, 0, 0, 0, 0, 0, 0), (4, 1, 1, 0, 0, 0, 0, 0, 0, 0), (48, 3, 293, 35, 1, 1770, 2, 99, 0, 0),
  (27, 1, 0, 0, 0, 0, 0, 0, 0, 0)]
def xt258 : List (Nat × List XO) := [(0, q258_0), (18, q258_18), (27, q258_27), (46, q258_46)]
def q259_0 : List XO := [(6, 1, 0, 0, 0, 0, 0, 0, 0, 0), (44, 3, 35, 10, 20, 1397, 0, 0, 0, 0), (0, 1, 0, 0, 0, 0, 0, 0, 0, 0), (33, 1, 0, 0, 0, 0, 0, 0, 0, 0), (6, 1, 0, 0, 0, 0, 0, 0, 0, 0), (44, 3, 35, 10, 20, 1397, 0, 0, 0, 0),
  (0, 1, 0, 0, 0, 0, 0, 0, 1, 0), (33, 1, 0, 0, 0, 0, 0, 0, 0, 0), (11, 1, 0, 0, 2, 0, 0, 0, 0, 0), (27, 1, 0, 0, 0, 0, 0, 0, 0, 0)]
def xt259 : List (Nat × List XO) := [(0, q259_0)]
def q260_0 : List XO := [(6, 1, 0, 0, 0, 0, 0, 0, 0, 0), (0, 1, 0, 0, 0, 0, 0, 0, 0, 0), (45, 3, 57, 10, 1, 1378, 0, 0, 0, 0), (6, 1, 0, 0, 0, 0, 0, 0, 0, 0), (0, 1, 0, 0, 0, 0, 0, 0, 0, 0), (45, 3, 60, 10, 0, 1377, 0, 0, 0, 0),
  (4, 1, 1, 0, 0, 0, 0, 0, 0, 0), (17, 1, 0, 0, 0, 0, 0, 0, 0, 0), (1, 1, 0, 0, 0, 0, 0, 0, 0, 0), (1, 3, 317, 0, 1, 1779, 0, 0, 0, 8), (48, 3, 92, 221, 1, 1620, 3, 10, 0, 0), (22, 3, 28, 0, 1, 0, 0, 0, 0, 0),
  (6, 1, 0, 0, 0, 0, 0, 0, 0, 0), (0, 1, 0, 0, 0, 0, 0, 0, 5, 0), (48, 3, 319, 261, 0, 1780, 2, 10, 0, 0), (27, 1, 0, 0, 0, 0, 0, 0, 0, 0)]
def q260_28 : List XO := [(4, 1, 1, 0, 0, 0, 0, 0, 0, 0), (0, 2, 0, 0, 1, 0, 0, 0, 7, 0), (23, 3, 43, 0, 3, 0, 0, 0, 0, 0), (6, 1, 0, 0, 0, 0, 0, 0, 0, 0), (44, 3, 35, 10, 20, 1397, 0, 0, 0, 0), (4, 1, 1, 0, 0, 0, 0, 0, 0, 0),
  (33, 1, 0, 0, 0, 0, 0, 0, 0, 0), (24, 3, 60, 0, 0, 0, 0, 0, 0, 0)]
def q260_43 : List XO := [(4, 1, 1, 0, 0, 0, 0, 0, 0, 0), (0, 2, 0, 0, 1, 0, 0, 0, 7, 0), (23, 3, 56, 0, 1, 0, 0, 0, 0, 0), (6, 1, 0, 0, 0, 0, 0, 0, 0, 0), (48, 3, 322, 262, 0, 1784, 1, 10, 0, 0), (24, 3, 60, 0, 0, 0, 0, 0, 0, 0)]
def q260_56 : List XO := [(6, 1, 0, 0, 0, 0, 0, 0, 0, 0), (48, 3, 325, 263, 0, 1788, 1, 10, 0, 0), (24, 0, 60, 0, 1, 0, 0, 0, 0, 0)]
def q260_60 : List XO := [(27, 1, 0, 0, 0, 0, 0, 0, 0, 0)]
def xt260 : List (Nat × List XO) := [(0, q260_0), (28, q260_28), (43, q260_43), (56, q260_56), (60, q260_60)]
def q261_0 : List XO := [(6, 1, 0, 0, 0, 0, 0, 0, 0, 0), (4, 1, 1, 0, 0, 0, 0, 0, 0, 0), (45, 3, 60, 10, 0, 1377, 0, 0, 0, 0), (0, 1, 0, 0, 0, 0, 0, 0, (-1), 0), (27, 1, 0, 0, 0, 0, 0, 0, 0, 0)]
def xt261 : List (Nat × List XO) := [(0, q261_0)]
def q262_0 : List XO := [(0, 1, 0, 0, 0, 0, 0, 0, 0, 0), (7, 1, 1, 0, 0, 0, 0, 0, 0, 0), (0, 1, 0, 0, 0, 0, 0, 0, 0, 0), (7, 1, 2, 0, 0, 0, 0, 0, 0, 0), (24, 0, 4, 0, 1, 0, 0, 0, 0, 0)]
def q262_4 : List XO := [(4, 1, 2, 0, 0, 0, 0, 0, 0, 0), (6, 1, 0, 0, 0, 0, 0, 0, 0, 0), (44, 3, 35, 10, 20, 1397, 0, 0, 0, 0), (0, 1, 0, 0, 0, 0, 0, 0, 3, 0), (33, 1, 0, 0, 0, 0, 0, 0, 0, 0), (23, 3, 34, 0, 3, 0, 0, 0, 0, 0),
  (4, 1, 1, 0, 0, 0, 0, 0, 0, 0), (6, 1, 0, 0, 0, 0, 0, 0, 0, 0), (44, 3, 35, 10, 20, 1397, 0, 0, 0, 0), (0, 2, 0, 0, 1, 0, 0, 0, 61, 0), (4, 1, 2, 0, 0, 0, 0, 0, 0, 0), (11, 1, 0, 0, 0, 0, 0, 0, 0, 0),
  (33, 1, 0, 0, 0, 0, 0, 0, 0, 0), (4, 1, 2, 0, 0, 0, 0, 0, 0, 0), (11, 1, 0, 0, 6, 0, 0, 0, 0, 0), (11, 1, 0, 0, 4, 0, 0, 0, 0, 0), (7, 1, 1, 0, 0, 0, 0, 0, 0, 0), (10, 3, 2, 0, 0, 0, 0, 0, 1, 0),
  (24, 3, 4, 0, 0, 0, 0, 0, 0, 0)]
def q262_34 : List XO := [(4, 1, 1, 0, 0, 0, 0, 0, 0, 0), (27, 1, 0, 0, 0, 0, 0, 0, 0, 0)]
def xt262 : List (Nat × List XO) := [(0, q262_0), (4, q262_4), (34, q262_34)]
def q263_0 : List XO := [(0, 1, 0, 0, 0, 0, 0, 0, 0, 0), (7, 1, 1, 0, 0, 0, 0, 0, 0, 0), (0, 1, 0, 0, 0, 0, 0, 0, 0, 0), (7, 1, 2, 0, 0, 0, 0, 0, 0, 0), (24, 0, 4, 0, 1, 0, 0, 0, 0, 0)]
def q263_4 : List XO := [(4, 1, 2, 0, 0, 0, 0, 0, 0, 0), (6, 1, 0, 0, 0, 0, 0, 0, 0, 0), (44, 3, 35, 10, 20, 1397, 0, 0, 0, 0), (0, 1, 0, 0, 0, 0, 0, 0, 2, 0), (33, 1, 0, 0, 0, 0, 0, 0, 0, 0), (23, 3, 34, 0, 3, 0, 0, 0, 0, 0),
  (4, 1, 1, 0, 0, 0, 0, 0, 0, 0), (0, 1, 0, 0, 0, 0, 0, 0, 1, 0), (6, 1, 0, 0, 0, 0, 0, 0, 0, 0), (44, 3, 35, 10, 20, 1397, 0, 0, 0, 0), (0, 2, 0, 0, 1, 0, 0, 0, 7, 0), (4, 1, 2, 0, 0, 0, 0, 0, 0, 0),
  (11, 1, 0, 0, 0, 0, 0, 0, 0, 0), (33, 1, 0, 0, 0, 0, 0, 0, 0, 0), (11, 1, 0, 0, 6, 0, 0, 0, 0, 0), (11, 1, 0, 0, 4, 0, 0, 0, 0, 0), (7, 1, 1, 0, 0, 0, 0, 0, 0, 0), (10, 3, 2, 0, 0, 0, 0, 0, 1, 0),
  (24, 3, 4, 0, 0, 0, 0, 0, 0, 0)]
def q263_34 : List XO := [(4, 1, 1, 0, 0, 0, 0, 0, 0, 0), (27, 1, 0, 0, 0, 0, 0, 0, 0, 0)]
def xt263 : List (Nat × List XO) := [(0, q263_0), (4, q263_4), (34, q263_34)]
def q264_0 : List XO := [(6, 1, 0, 0, 0, 0, 0, 0, 0, 0), (0, 1, 0, 0, 0, 0, 0, 0, 0, 0), (45, 3, 57, 10, 1, 1378, 0, 0, 0, 0), (6, 1, 0, 0, 0, 0, 0, 0, 0, 0), (0, 1, 0, 0, 0, 0, 0, 0, 0, 0), (45, 3, 60, 10, 0, 1377, 0, 0, 0, 0),
  (6, 1, 0, 0, 0, 0, 0, 0, 0, 0), (4, 1, 1, 0, 0, 0, 0, 0, 0, 0), (48, 3, 328, 265, 0, 1796, 2, 10, 0, 0), (22, 3, 24, 0, 1, 0, 0, 0, 0, 0), (6, 1, 0, 0, 0, 0, 0, 0, 0, 0), (0, 1, 0, 0, 0, 0, 0, 0, 2, 0),
  (48, 3, 319, 261, 0, 1780, 2, 10, 0, 0), (27, 1, 0, 0, 0, 0, 0, 0, 0, 0)]
def q264_24 : List XO := [(4, 1, 2, 0, 0, 0, 0, 0, 0, 0), (17, 1, 0, 0, 0, 0, 0, 0, 0, 0), (1, 1, 0, 0, 0, 0, 0, 0, 0, 0), (1, 1, 0, 0, 0, 0, 0, 0, 0, 1), (48, 3, 92, 221, 1, 1620, 3, 10, 0, 0), (22, 3, 51, 0, 0, 0, 0, 0, 0, 0),
  (6, 1, 0, 0, 0, 0, 0, 0, 0, 0), (44, 3, 35, 10, 20, 1397, 0, 0, 0, 0), (0, 2, 0, 0, 1, 0, 0, 0, 7, 0), (0, 2, 0, 0, 1, 0, 0, 0, 15, 0), (4, 1, 2, 0, 0, 0, 0, 0, 0, 0), (11, 1, 0, 0, 2, 0, 0, 0, 0, 0),
  (11, 1, 0, 0, 0, 0, 0, 0, 0, 0), (4, 1, 1, 0, 0, 0, 0, 0, 0, 0), (11, 1, 0, 0, 0, 0, 0, 0, 0, 0), (33, 1, 0, 0, 0, 0, 0, 0, 0, 0), (24, 3, 56, 0, 0, 0, 0, 0, 0, 0)]
def q264_51 : List XO := [(6, 1, 0, 0, 0, 0, 0, 0, 0, 0), (0, 1, 0, 0, 0, 0, 0, 0, 5, 0), (48, 3, 319, 261, 0, 1780, 2, 10, 0, 0), (24, 0, 56, 0, 1, 0, 0, 0, 0, 0)]
def q264_56 : List XO := [(27, 1, 0, 0, 0, 0, 0, 0, 0, 0)]
def xt264 : List (Nat × List XO) := [(0, q264_0), (24, q264_24), (51, q264_51), (56, q264_56)]
def q265_0 : List XO := [(4, 1, 1, 0, 0, 0, 0, 0, 0, 0), (17, 1, 0, 0, 0, 0, 0, 0, 0, 0), (1, 1, 0, 0, 0, 0, 0, 0, 0, 0), (6, 1, 0, 0, 0, 0, 0, 0, 0, 0), (44, 3, 35, 10, 20, 1397, 0, 0, 0, 0), (0, 1, 0, 0, 0, 0, 0, 0, 2, 0),
  (33, 1, 0, 0, 0, 0, 0, 0, 0, 0), (0, 1, 0, 0, 0, 0, 0, 0, 1, 0), (11, 1, 0, 0, 1, 0, 0, 0, 0, 0), (17, 1, 0, 0, 0, 0, 0, 0, 0, 0), (48, 3, 92, 221, 1, 1620, 3, 10, 0, 0), (27, 1, 0, 0, 1, 0, 0, 0, 0, 0)]
def xt265 : List (Nat × List XO) := [(0, q265_0)]
def q266_0 : List XO := [(6, 1, 0, 0, 0, 0, 0, 0, 0, 0), (0, 1, 0, 0, 0, 0, 0, 0, 0, 0), (45, 3, 57, 10, 1, 1378, 0, 0, 0, 0), (6, 1, 0, 0, 0, 0, 0, 0, 0, 0), (0, 1, 0, 0, 0, 0, 0, 0, 0, 0), (45, 3, 60, 10, 0, 1377, 0, 0, 0, 0),
  (6, 1, 0, 0, 0, 0, 0, 0, 0, 0), (4, 1, 1, 0, 0, 0, 0, 0, 0, 0), (48, 3, 331, 267, 0, 1804, 2, 10, 0, 0), (22, 3, 24, 0, 1, 0, 0, 0, 0, 0), (6, 1, 0, 0, 0, 0, 0, 0, 0, 0), (0, 1, 0, 0, 0, 0, 0, 0, 2, 0),
  (48, 3, 319, 261, 0, 1780, 2, 10, 0, 0), (27, 1, 0, 0, 0, 0, 0, 0, 0, 0)]
def q266_24 : List XO := [(6, 1, 0, 0, 0, 0, 0, 0, 0, 0), (0, 1, 0, 0, 0, 0, 0, 0, 0, 0), (4, 1, 1, 0, 0, 0, 0, 0, 0, 0), (48, 3, 238, 229, 0, 1651, 3, 10, 0, 0), (7, 1, 2, 0, 0, 0, 0, 0, 0, 0), (4, 1, 2, 0, 0, 0, 0, 0, 0, 0),
  (22, 3, 44, 0, 3, 0, 0, 0, 0, 0), (6, 1, 0, 0, 0, 0, 0, 0, 0, 0), (0, 2, 0, 0, 1, 0, 0, 0, 8, 0), (48, 3, 319, 261, 0, 1780, 2, 10, 0, 0), (24, 3, 53, 0, 0, 0, 0, 0, 0, 0)]
def q266_44 : List XO := [(6, 1, 0, 0, 0, 0, 0, 0, 0, 0), (44, 3, 35, 10, 20, 1397, 0, 0, 0, 0), (0, 2, 0, 0, 1, 0, 0, 0, 22, 0), (4, 1, 2, 0, 0, 0, 0, 0, 0, 0), (11, 1, 0, 0, 0, 0, 0, 0, 0, 0), (33, 1, 0, 0, 0, 0, 0, 0, 0, 0),
  (24, 0, 53, 0, 1, 0, 0, 0, 0, 0)]
def q266_53 : List XO := [(27, 1, 0, 0, 0, 0, 0, 0, 0, 0)]
def xt266 : List (Nat × List XO) := [(0, q266_0), (24, q266_24), (44, q266_44), (53, q266_53)]
def q267_0 : List XO := [(4, 1, 1, 0, 0, 0, 0, 0, 0, 0), (17, 1, 0, 0, 0, 0, 0, 0, 0, 0), (1, 1, 0, 0, 0, 0, 0, 0, 0, 0), (6, 1, 0, 0, 0, 0, 0, 0, 0, 0), (48, 3, 299, 259, 0, 1771, 1, 10, 0, 0), (0, 1, 0, 0, 0, 0, 0, 0, 1, 0),
  (11, 1, 0, 0, 1, 0, 0, 0, 0, 0), (17, 1, 0, 0, 0, 0, 0, 0, 0, 0), (48, 3, 92, 221, 1, 1620, 3, 10, 0, 0), (27, 1, 0, 0, 1, 0, 0, 0, 0, 0)]
def xt267 : List (Nat × List XO) := [(0, q267_0)]
def q268_0 : List XO := [(6, 1, 0, 0, 0, 0, 0, 0, 0, 0), (0, 1, 0, 0, 0, 0, 0, 0, 0, 0), (45, 3, 57, 10, 1, 1378, 0, 0, 0, 0), (6, 1, 0, 0, 0, 0, 0, 0, 0, 0), (0, 1, 0, 0, 0, 0, 0, 0, 0, 0), (45, 3, 60, 10, 0, 1377, 0, 0, 0, 0),
  (6, 1, 0, 0, 0, 0, 0, 0, 0, 0), (4, 1, 1, 0, 0, 0, 0, 0, 0, 0), (48, 3, 334, 269, 0, 1812, 2, 10, 0, 0), (22, 3, 24, 0, 1, 0, 0, 0, 0, 0), (6, 1, 0, 0, 0, 0, 0, 0, 0, 0), (0, 1, 0, 0, 0, 0, 0, 0, 2, 0),
  (48, 3, 319, 261, 0, 1780, 2, 10, 0, 0), (27, 1, 0, 0, 0, 0, 0, 0, 0, 0)]
def q268_24 : List XO := [(4, 1, 2, 0, 0, 0, 0, 0, 0, 0), (17, 1, 0, 0, 0, 0, 0, 0, 0, 0), (1, 1, 0, 0, 0, 0, 0, 0, 0, 0), (1, 3, 337, 0, 1, 1816, 0, 0, 0, 6), (48, 3, 92, 221, 1, 1620, 3, 10, 0, 0), (22, 3, 42, 0, 1, 0, 0, 0, 0, 0),
  (6, 1, 0, 0, 0, 0, 0, 0, 0, 0), (0, 1, 0, 0, 0, 0, 0, 0, 5, 0), (48, 3, 319, 261, 0, 1780, 2, 10, 0, 0), (27, 1, 0, 0, 0, 0, 0, 0, 0, 0)]
def q268_42 : List XO := [(4, 1, 2, 0, 0, 0, 0, 0, 0, 0), (0, 2, 0, 0, 1, 0, 0, 0, 6, 0), (23, 3, 56, 0, 1, 0, 0, 0, 0, 0), (6, 1, 0, 0, 0, 0, 0, 0, 0, 0), (4, 1, 1, 0, 0, 0, 0, 0, 0, 0), (48, 3, 339, 270, 0, 1817, 2, 10, 0, 0),
  (24, 3, 70, 0, 0, 0, 0, 0, 0, 0)]
def q268_56 : List XO := [(6, 1, 0, 0, 0, 0, 0, 0, 0, 0), (44, 3, 35, 10, 20, 1397, 0, 0, 0, 0), (0, 2, 0, 0, 1, 0, 0, 0, 37, 0), (0, 2, 0, 0, 1, 0, 0, 0, 6, 0), (4, 1, 2, 0, 0, 0, 0, 0, 0, 0), (11, 1, 0, 0, 2, 0, 0, 0, 0, 0),
  (11, 1, 0, 0, 0, 0, 0, 0, 0, 0), (4, 1, 1, 0, 0, 0, 0, 0, 0, 0), (11, 1, 0, 0, 0, 0, 0, 0, 0, 0), (33, 1, 0, 0, 0, 0, 0, 0, 0, 0), (24, 0, 70, 0, 1, 0, 0, 0, 0, 0)]
def q268_70 : List XO := [(27, 1, 0, 0, 0, 0, 0, 0, 0, 0)]
def xt268 : List (Nat × List XO) := [(0, q268_0), (24, q268_24), (42, q268_42), (56, q268_56), (70, q268_70)]
def q269_0 : List XO := [(4, 1, 1, 0, 0, 0, 0, 0, 0, 0), (17, 1, 0, 0, 0, 0, 0, 0, 0, 0), (1, 1, 0, 0, 0, 0, 0, 0, 0, 0), (6, 1, 0, 0, 0, 0, 0, 0, 0, 0), (44, 3, 35, 10, 20, 1397, 0, 0, 0, 0), (0, 1, 0, 0, 0, 0, 0, 0, 3, 0),
  (33, 1, 0, 0, 0, 0, 0, 0, 0, 0), (0, 1, 0, 0, 0, 0, 0, 0, 1, 0), (11, 1, 0, 0, 1, 0, 0, 0, 0, 0), (17, 1, 0, 0, 0, 0, 0, 0, 0, 0), (48, 3, 92, 221, 1, 1620, 3, 10, 0, 0), (27, 1, 0, 0, 1, 0, 0, 0, 0, 0)]
def xt269 : List (Nat × List XO) := [(0, q269_0)]
def q270_0 : List XO := [(0, 1, 0, 0, 0, 0, 0, 0, 0, 0), (7, 1, 2, 0, 0, 0, 0, 0, 0, 0), (0, 1, 0, 0, 0, 0, 0, 0, 0, 0), (7, 1, 3, 0, 0, 0, 0, 0, 0, 0), (24, 0, 4, 0, 1, 0, 0, 0, 0, 0)]
def q270_4 : List XO := [(4, 1, 3, 0, 0, 0, 0, 0, 0, 0), (6, 1, 0, 0, 0, 0, 0, 0, 0, 0), (48, 3, 299, 259, 0, 1771, 1, 10, 0, 0), (23, 3, 38, 0, 3, 0, 0, 0, 0, 0), (4, 1, 2, 0, 0, 0, 0, 0, 0, 0), (6, 1, 0, 0, 0, 0, 0, 0, 0, 0),
  (0, 1, 0, 0, 0, 0, 0, 0, 0, 0), (4, 1, 1, 0, 0, 0, 0, 0, 0, 0), (4, 1, 3, 0, 0, 0, 0, 0, 0, 0), (48, 3, 245, 249, 0, 1731, 4, 10, 0, 0), (22, 3, 29, 0, 0, 0, 0, 0, 0, 0), (0, 1, 0, 0, 0, 0, 0, 0, 1, 0),
  (4, 1, 3, 0, 0, 0, 0, 0, 0, 0), (11, 1, 0, 0, 6, 0, 0, 0, 0, 0), (24, 3, 30, 0, 0, 0, 0, 0, 0, 0)]
def q270_29 : List XO := [(0, 1, 0, 0, 0, 0, 0, 0, 0, 0), (24, 0, 30, 0, 1, 0, 0, 0, 0, 0)]
def q270_30 : List XO := [(11, 1, 0, 0, 4, 0, 0, 0, 0, 0), (7, 1, 2, 0, 0, 0, 0, 0, 0, 0), (10, 3, 3, 0, 0, 0, 0, 0, 1, 0), (24, 3, 4, 0, 0, 0, 0, 0, 0, 0)]
def q270_38 : List XO := [(4, 1, 2, 0, 0, 0, 0, 0, 0, 0), (27, 1, 0, 0, 0, 0, 0, 0, 0, 0)]
def xt270 : List (Nat × List XO) := [(0, q270_0), (4, q270_4), (29, q270_29), (30, q270_30), (38, q270_38)]
def q271_0 : List XO := [(6, 1, 0, 0, 0, 0, 0, 0, 0, 0), (0, 1, 0, 0, 0, 0, 0, 0, 0, 0), (45, 3, 57, 10, 1, 1378, 0, 0, 0, 0), (6, 1, 0, 0, 0, 0, 0, 0, 0, 0), (0, 1, 0, 0, 0, 0, 0, 0, 0, 0), (45, 3, 60, 10, 0, 1377, 0, 0, 0, 0),
  (6, 1, 0, 0, 0, 0, 0, 0, 0, 0), (4, 1, 1, 0, 0, 0, 0, 0, 0, 0), (48, 3, 334, 269, 0, 1812, 2, 10, 0, 0), (22, 3, 26, 0, 0, 0, 0, 0, 0, 0), (6, 1, 0, 0, 0, 0, 0, 0, 0, 0), (4, 1, 1, 0, 0, 0, 0, 0, 0, 0),
  (48, 3, 342, 272, 0, 1825, 2, 10, 0, 0), (24, 3, 31, 0, 0, 0, 0, 0, 0, 0)]
def q271_26 : List XO := [(6, 1, 0, 0, 0, 0, 0, 0, 0, 0), (0, 1, 0, 0, 0, 0, 0, 0, 2, 0), (48, 3, 319, 261, 0, 1780, 2, 10, 0, 0), (24, 0, 31, 0, 1, 0, 0, 0, 0, 0)]
def q271_31 : List XO := [(27, 1, 0, 0, 0, 0, 0, 0, 0, 0)]
def xt271 : List (Nat × List XO) := [(0, q271_0), (26, q271_26), (31, q271_31)]
def q272_0 : List XO := [(6, 1, 0, 0, 0, 0, 0, 0, 0, 0), (44, 3, 35, 10, 20, 1397, 0, 0, 0, 0), (0, 2, 0, 0, 1, 0, 0, 0, 67, 0), (4, 1, 1, 0, 0, 0, 0, 0, 0, 0), (11, 1, 0, 0, 0, 0, 0, 0, 0, 0), (33, 1, 0, 0, 0, 0, 0, 0, 0, 0),
  (7, 1, 2, 0, 0, 0, 0, 0, 0, 0), (6, 1, 0, 0, 0, 0, 0, 0, 0, 0), (44, 3, 35, 10, 20, 1397, 0, 0, 0, 0), (0, 2, 0, 0, 1, 0, 0, 0, 61, 0), (4, 1, 1, 0, 0, 0, 0, 0, 0, 0), (11, 1, 0, 0, 0, 0, 0, 0, 0, 0),
  (33, 1, 0, 0, 0, 0, 0, 0, 0, 0), (0, 1, 0, 0, 0, 0, 0, 0, 1, 0), (23, 3, 25, 0, 1, 0, 0, 0, 0, 0), (0, 1, 0, 0, 0, 0, 0, 0, 0, 0), (27, 1, 0, 0, 0, 0, 0, 0, 0, 0)]
def q272_25 : List XO := [(0, 1, 0, 0, 0, 0, 0, 0, 0, 0), (7, 1, 3, 0, 0, 0, 0, 0, 0, 0), (24, 0, 27, 0, 1, 0, 0, 0, 0, 0)]
def q272_27 : List XO := [(4, 1, 3, 0, 0, 0, 0, 0, 0, 0), (6, 1, 0, 0, 0, 0, 0, 0, 0, 0), (44, 3, 35, 10, 20, 1397, 0, 0, 0, 0), (0, 1, 0, 0, 0, 0, 0, 0, 2, 0), (33, 1, 0, 0, 0, 0, 0, 0, 0, 0), (23, 3, 100, 0, 3, 0, 0, 0, 0, 0),
  (4, 1, 2, 0, 0, 0, 0, 0, 0, 0), (6, 1, 0, 0, 0, 0, 0, 0, 0, 0), (0, 1, 0, 0, 0, 0, 0, 0, 0, 0), (4, 1, 1, 0, 0, 0, 0, 0, 0, 0), (6, 1, 0, 0, 0, 0, 0, 0, 0, 0), (44, 3, 35, 10, 20, 1397, 0, 0, 0, 0),
  (0, 2, 0, 0, 1, 0, 0, 0, 7, 0), (4, 1, 3, 0, 0, 0, 0, 0, 0, 0), (11, 1, 0, 0, 0, 0, 0, 0, 0, 0), (33, 1, 0, 0, 0, 0, 0, 0, 0, 0), (48, 3, 245, 249, 0, 1731, 4, 10, 0, 0), (22, 3, 91, 0, 0, 0, 0, 0, 0, 0),
  (6, 1, 0, 0, 0, 0, 0, 0, 0, 0), (44, 3, 35, 10, 20, 1397, 0, 0, 0, 0), (0, 2, 0, 0, 1, 0, 0, 0, 22, 0), (4, 1, 3, 0, 0, 0, 0, 0, 0, 0), (11, 1, 0, 0, 0, 0, 0, 0, 0, 0), (33, 1, 0, 0, 0, 0, 0, 0, 0, 0),
  (6, 1, 0, 0, 0, 0, 0, 0, 0, 0), (44, 3, 35, 10, 20, 1397, 0, 0, 0, 0), (0, 2, 0, 0, 1, 0, 0, 0, 55, 0), (4, 1, 1, 0, 0, 0, 0, 0, 0, 0), (11, 1, 0, 0, 0, 0, 0, 0, 0, 0), (33, 1, 0, 0, 0, 0, 0, 0, 0, 0),
  (23, 3, 91, 0, 3, 0, 0, 0, 0, 0), (0, 1, 0, 0, 0, 0, 0, 0, 1, 0), (6, 1, 0, 0, 0, 0, 0, 0, 0, 0), (44, 3, 35, 10, 20, 1397, 0, 0, 0, 0), (0, 2, 0, 0, 1, 0, 0, 0, 7, 0), (4, 1, 3, 0, 0, 0, 0, 0, 0, 0),
  (11, 1, 0, 0, 0, 0, 0, 0, 0, 0), (33, 1, 0, 0, 0, 0, 0, 0, 0, 0), (11, 1, 0, 0, 6, 0, 0, 0, 0, 0), (24, 3, 92, 0, 0, 0, 0, 0, 0, 0)]
def q272_91 : List XO := [(0, 1, 0, 0, 0, 0, 0, 0, 0, 0), (24, 0, 92, 0, 1, 0, 0, 0, 0, 0)]
def q272_92 : List XO := [(11, 1, 0, 0, 4, 0, 0, 0, 0, 0), (7, 1, 2, 0, 0, 0, 0, 0, 0, 0), (10, 3, 3, 0, 0, 0, 0, 0, 1, 0), (24, 3, 27, 0, 0, 0, 0, 0, 0, 0)]
def q272_100 : List XO := [(4, 1, 2, 0, 0, 0, 0, 0, 0, 0), (27, 1, 0, 0, 0, 0, 0, 0, 0, 0)]
def xt272 : List (Nat × List XO) := [(0, q272_0), (25, q272_25), (27, q272_27), (91, q272_91), (92, q272_92), (100, q272_100)]
def q273_0 : List XO := [(6, 1, 0, 0, 0, 0, 0, 0, 0, 0), (0, 1, 0, 0, 0, 0, 0, 0, 0, 0), (45, 3, 57, 10, 1, 1378, 0, 0, 0, 0), (6, 1, 0, 0, 0, 0, 0, 0, 0, 0), (0, 1, 0, 0, 0, 0, 0, 0, 0, 0), (45, 3, 60, 10, 0, 1377, 0, 0, 0, 0),
  (6, 1, 0, 0, 0, 0, 0, 0, 0, 0), (4, 1, 1, 0, 0, 0, 0, 0, 0, 0), (48, 3, 345, 274, 0, 1833, 2, 10, 0, 0), (22, 3, 24, 0, 1, 0, 0, 0, 0, 0), (6, 1, 0, 0, 0, 0, 0, 0, 0, 0), (0, 1, 0, 0, 0, 0, 0, 0, 1, 0),
  (48, 3, 319, 261, 0, 1780, 2, 10, 0, 0), (27, 1, 0, 0, 0, 0, 0, 0, 0, 0)]
def q273_24 : List XO := [(6, 1, 0, 0, 0, 0, 0, 0, 0, 0), (44, 3, 17, 10, 5, 1382, 0, 0, 0, 0), (4, 1, 1, 0, 0, 0, 0, 0, 0, 0), (33, 1, 0, 0, 0, 0, 0, 0, 0, 0), (22, 3, 39, 0, 3, 0, 0, 0, 0, 0), (6, 1, 0, 0, 0, 0, 0, 0, 0, 0),
  (0, 1, 0, 0, 0, 0, 0, 0, 3, 0), (48, 3, 319, 261, 0, 1780, 2, 10, 0, 0), (27, 1, 0, 0, 0, 0, 0, 0, 0, 0)]
def q273_39 : List XO := [(6, 1, 0, 0, 0, 0, 0, 0, 0, 0), (44, 3, 17, 10, 5, 1382, 0, 0, 0, 0), (4, 1, 1, 0, 0, 0, 0, 0, 0, 0), (33, 1, 0, 0, 0, 0, 0, 0, 0, 0), (6, 1, 0, 0, 0, 0, 0, 0, 0, 0), (44, 3, 35, 10, 20, 1397, 0, 0, 0, 0),
  (0, 1, 0, 0, 0, 0, 0, 0, 3, 0), (33, 1, 0, 0, 0, 0, 0, 0, 0, 0), (23, 3, 60, 0, 3, 0, 0, 0, 0, 0), (6, 1, 0, 0, 0, 0, 0, 0, 0, 0), (0, 1, 0, 0, 0, 0, 0, 0, 4, 0), (48, 3, 319, 261, 0, 1780, 2, 10, 0, 0),
  (27, 1, 0, 0, 0, 0, 0, 0, 0, 0)]
def q273_60 : List XO := [(0, 1, 0, 0, 0, 0, 0, 0, 0, 0), (7, 1, 2, 0, 0, 0, 0, 0, 0, 0), (24, 0, 62, 0, 1, 0, 0, 0, 0, 0)]
def q273_62 : List XO := [(4, 1, 2, 0, 0, 0, 0, 0, 0, 0), (6, 1, 0, 0, 0, 0, 0, 0, 0, 0), (44, 3, 35, 10, 20, 1397, 0, 0, 0, 0), (0, 1, 0, 0, 0, 0, 0, 0, 3, 0), (33, 1, 0, 0, 0, 0, 0, 0, 0, 0), (23, 3, 95, 0, 3, 0, 0, 0, 0, 0),
  (6, 1, 0, 0, 0, 0, 0, 0, 0, 0), (4, 1, 1, 0, 0, 0, 0, 0, 0, 0), (4, 1, 2, 0, 0, 0, 0, 0, 0, 0), (6, 1, 0, 0, 0, 0, 0, 0, 0, 0), (44, 3, 35, 10, 20, 1397, 0, 0, 0, 0), (0, 2, 0, 0, 1, 0, 0, 0, 55, 0),
  (4, 1, 2, 0, 0, 0, 0, 0, 0, 0), (11, 1, 0, 0, 0, 0, 0, 0, 0, 0), (33, 1, 0, 0, 0, 0, 0, 0, 0, 0), (17, 1, 0, 0, 0, 0, 0, 0, 0, 0), (48, 3, 348, 196, 0, 1838, 4, 10, 0, 0), (21, 1, 0, 0, 0, 0, 0, 0, 0, 0),
  (10, 3, 2, 0, 0, 0, 0, 0, 1, 0), (24, 3, 62, 0, 0, 0, 0, 0, 0, 0)]
def q273_95 : List XO := [(6, 1, 0, 0, 0, 0, 0, 0, 0, 0), (44, 3, 35, 10, 20, 1397, 0, 0, 0, 0), (0, 1, 0, 0, 0, 0, 0, 0, 3, 0), (33, 1, 0, 0, 0, 0, 0, 0, 0, 0), (27, 1, 0, 0, 0, 0, 0, 0, 0, 0)]
def xt273 : List (Nat × List XO) := [(0, q273_0), (24, q273_24), (39, q273_39), (60, q273_60), (62, q273_62), (95, q273_95)]
def q274_0 : List XO := [(4, 1, 1, 0, 0, 0, 0, 0, 0, 0), (17, 1, 0, 0, 0, 0, 0, 0, 0, 0), (1, 1, 0, 0, 0, 0, 0, 0, 0, 0), (1, 3, 90, 0, 1, 1837, 0, 0, 0, 3), (48, 3, 92, 221, 1, 1620, 3, 10, 0, 0), (27, 1, 0, 0, 1, 0, 0, 0, 0, 0)]
def xt274 : List (Nat × List XO) := [(0, q274_0)]
def q275_0 : List XO := [(6, 1, 0, 0, 0, 0, 0, 0, 0, 0), (0, 1, 0, 0, 0, 0, 0, 0, 0, 0), (45, 3, 57, 10, 1, 1378, 0, 0, 0, 0), (6, 1, 0, 0, 0, 0, 0, 0, 0, 0), (0, 1, 0, 0, 0, 0, 0, 0, 0, 0), (45, 3, 60, 10, 0, 1377, 0, 0, 0, 0),
  (6, 1, 0, 0, 0, 0, 0, 0, 0, 0), (4, 1, 1, 0, 0, 0, 0, 0, 0, 0), (48, 3, 334, 269, 0, 1812, 2, 10, 0, 0), (22, 3, 24, 0, 1, 0, 0, 0, 0, 0), (6, 1, 0, 0, 0, 0, 0, 0, 0, 0), (0, 1, 0, 0, 0, 0, 0, 0, 2, 0),
  (48, 3, 319, 261, 0, 1780, 2, 10, 0, 0), (27, 1, 0, 0, 0, 0, 0, 0, 0, 0)]
def q275_24 : List XO := [(4, 1, 2, 0, 0, 0, 0, 0, 0, 0), (17, 1, 0, 0, 0, 0, 0, 0, 0, 0), (1, 1, 0, 0, 0, 0, 0, 0, 0, 1), (1, 3, 355, 0, 1, 1843, 0, 0, 0, 9), (48, 3, 92, 221, 1, 1620, 3, 10, 0, 0), (22, 3, 42, 0, 1, 0, 0, 0, 0, 0),
  (6, 1, 0, 0, 0, 0, 0, 0, 0, 0), (0, 1, 0, 0, 0, 0, 0, 0, 5, 0), (48, 3, 319, 261, 0, 1780, 2, 10, 0, 0), (27, 1, 0, 0, 0, 0, 0, 0, 0, 0)]
def q275_42 : List XO := [(6, 1, 0, 0, 0, 0, 0, 0, 0, 0), (4, 1, 1, 0, 0, 0, 0, 0, 0, 0), (4, 1, 2, 0, 0, 0, 0, 0, 0, 0), (48, 3, 357, 276, 0, 1844, 3, 10, 0, 0), (22, 3, 63, 0, 0, 0, 0, 0, 0, 0), (6, 1, 0, 0, 0, 0, 0, 0, 0, 0),
  (44, 3, 35, 10, 20, 1397, 0, 0, 0, 0), (0, 2, 0, 0, 1, 0, 0, 0, 55, 0), (4, 1, 1, 0, 0, 0, 0, 0, 0, 0), (11, 1, 0, 0, 0, 0, 0, 0, 0, 0), (33, 1, 0, 0, 0, 0, 0, 0, 0, 0), (24, 3, 69, 0, 0, 0, 0, 0, 0, 0)]
def q275_63 : List XO := [(6, 1, 0, 0, 0, 0, 0, 0, 0, 0), (0, 2, 0, 0, 1, 0, 0, 0, 9, 0), (48, 3, 319, 261, 0, 1780, 2, 10, 0, 0), (24, 0, 69, 0, 1, 0, 0, 0, 0, 0)]
def q275_69 : List XO := [(27, 1, 0, 0, 0, 0, 0, 0, 0, 0)]
def xt275 : List (Nat × List XO) := [(0, q275_0), (24, q275_24), (42, q275_42), (63, q275_63), (69, q275_69)]
def q276_0 : List XO := [(6, 1, 0, 0, 0, 0, 0, 0, 0, 0), (44, 3, 35, 10, 20, 1397, 0, 0, 0, 0), (0, 2, 0, 0, 1, 0, 0, 0, 61, 0), (4, 1, 1, 0, 0, 0, 0, 0, 0, 0), (11, 1, 0, 0, 0, 0, 0, 0, 0, 0), (33, 1, 0, 0, 0, 0, 0, 0, 0, 0),
  (0, 1, 0, 0, 0, 0, 0, 0, 1, 0), (23, 3, 27, 0, 0, 0, 0, 0, 0, 0), (6, 1, 0, 0, 0, 0, 0, 0, 0, 0), (44, 3, 35, 10, 20, 1397, 0, 0, 0, 0), (0, 2, 0, 0, 1, 0, 0, 0, 55, 0), (4, 1, 1, 0, 0, 0, 0, 0, 0, 0),
  (11, 1, 0, 0, 0, 0, 0, 0, 0, 0), (33, 1, 0, 0, 0, 0, 0, 0, 0, 0), (0, 2, 0, 0, 1, 0, 0, 0, 9, 0), (23, 3, 29, 0, 1, 0, 0, 0, 0, 0), (24, 0, 27, 0, 1, 0, 0, 0, 0, 0)]
def q276_27 : List XO := [(0, 1, 0, 0, 0, 0, 0, 0, 0, 0), (27, 1, 0, 0, 1, 0, 0, 0, 0, 0)]
def q276_29 : List XO := [(6, 1, 0, 0, 0, 0, 0, 0, 0, 0), (44, 3, 35, 10, 20, 1397, 0, 0, 0, 0), (0, 2, 0, 0, 1, 0, 0, 0, 55, 0), (4, 1, 1, 0, 0, 0, 0, 0, 0, 0), (11, 1, 0, 0, 0, 0, 0, 0, 0, 0), (0, 2, 0, 0, 1, 0, 0, 0, 9, 0),
  (6, 1, 0, 0, 0, 0, 0, 0, 0, 0), (44, 3, 35, 10, 20, 1397, 0, 0, 0, 0), (0, 2, 0, 0, 1, 0, 0, 0, 55, 0), (4, 1, 1, 0, 0, 0, 0, 0, 0, 0), (11, 1, 0, 0, 0, 0, 0, 0, 0, 0), (33, 1, 0, 0, 0, 0, 0, 0, 0, 0),
  (4, 1, 2, 0, 0, 0, 0, 0, 0, 0), (11, 1, 0, 0, 0, 0, 0, 0, 0, 0), (48, 3, 352, 34, 1, 1848, 2, 99, 0, 0), (34, 1, 0, 0, 0, 0, 0, 0, 0, 0), (0, 1, 0, 0, 0, 0, 0, 0, 1, 0), (27, 1, 0, 0, 1, 0, 0, 0, 0, 0)]
def xt276 : List (Nat × List XO) := [(0, q276_0), (27, q276_27), (29, q276_29)]
def q277_0 : List XO := [(6, 1, 0, 0, 0, 0, 0, 0, 0, 0), (0, 1, 0, 0, 0, 0, 0, 0, 0, 0), (45, 3, 57, 10, 1, 1378, 0, 0, 0, 0), (6, 1, 0, 0, 0, 0, 0, 0, 0, 0), (0, 1, 0, 0, 0, 0, 0, 0, 0, 0), (45, 3, 60, 10, 0, 1377, 0, 0, 0, 0),
  (4, 1, 1, 0, 0, 0, 0, 0, 0, 0), (17, 1, 0, 0, 0, 0, 0, 0, 0, 0), (1, 1, 0, 0, 0, 0, 0, 0, 0, 1), (1, 3, 355, 0, 1, 1843, 0, 0, 0, 9), (48, 3, 92, 221, 1, 1620, 3, 10, 0, 0), (22, 3, 30, 0, 0, 0, 0, 0, 0, 0),
  (6, 1, 0, 0, 0, 0, 0, 0, 0, 0), (4, 1, 1, 0, 0, 0, 0, 0, 0, 0), (48, 3, 360, 278, 0, 1853, 2, 10, 0, 0), (24, 3, 35, 0, 0, 0, 0, 0, 0, 0)]
def q277_30 : List XO := [(6, 1, 0, 0, 0, 0, 0, 0, 0, 0), (0, 1, 0, 0, 0, 0, 0, 0, 5, 0), (48, 3, 319, 261, 0, 1780, 2, 10, 0, 0), (24, 0, 35, 0, 1, 0, 0, 0, 0, 0)]
def q277_35 : List XO := [(27, 1, 0, 0, 0, 0, 0, 0, 0, 0)]
def xt277 : List (Nat × List XO) := [(0, q277_0), (30, q277_30), (35, q277_35)]
def q278_0 : List XO := [(0, 1, 0, 0, 0, 0, 0, 0, 0, 0), (7, 1, 2, 0, 0, 0, 0, 0, 0, 0), (0, 1, 0, 0, 0, 0, 0, 0, 0, 0), (7, 1, 3, 0, 0, 0, 0, 0, 0, 0), (24, 0, 4, 0, 1, 0, 0, 0, 0, 0)]
def q278_4 : List XO := [(4, 1, 3, 0, 0, 0, 0, 0, 0, 0), (6, 1, 0, 0, 0, 0, 0, 0, 0, 0), (44, 3, 35, 10, 20, 1397, 0, 0, 0, 0), (0, 1, 0, 0, 0, 0, 0, 0, 3, 0), (33, 1, 0, 0, 0, 0, 0, 0, 0, 0), (23, 3, 75, 0, 3, 0, 0, 0, 0, 0),
  (6, 1, 0, 0, 0, 0, 0, 0, 0, 0), (44, 3, 35, 10, 20, 1397, 0, 0, 0, 0), (0, 2, 0, 0, 1, 0, 0, 0, 61, 0), (4, 1, 3, 0, 0, 0, 0, 0, 0, 0), (11, 1, 0, 0, 0, 0, 0, 0, 0, 0), (33, 1, 0, 0, 0, 0, 0, 0, 0, 0),
  (0, 1, 0, 0, 0, 0, 0, 0, 1, 0), (23, 3, 69, 0, 0, 0, 0, 0, 0, 0), (6, 1, 0, 0, 0, 0, 0, 0, 0, 0), (44, 3, 35, 10, 20, 1397, 0, 0, 0, 0), (0, 2, 0, 0, 1, 0, 0, 0, 55, 0), (4, 1, 3, 0, 0, 0, 0, 0, 0, 0),
  (11, 1, 0, 0, 0, 0, 0, 0, 0, 0), (33, 1, 0, 0, 0, 0, 0, 0, 0, 0), (22, 3, 42, 0, 1, 0, 0, 0, 0, 0), (24, 3, 69, 0, 0, 0, 0, 0, 0, 0)]
def q278_42 : List XO := [(6, 1, 0, 0, 0, 0, 0, 0, 0, 0), (44, 3, 35, 10, 20, 1397, 0, 0, 0, 0), (0, 2, 0, 0, 1, 0, 0, 0, 55, 0), (4, 1, 3, 0, 0, 0, 0, 0, 0, 0), (11, 1, 0, 0, 0, 0, 0, 0, 0, 0), (0, 1, 0, 0, 0, 0, 0, 0, 0, 0),
  (6, 1, 0, 0, 0, 0, 0, 0, 0, 0), (44, 3, 35, 10, 20, 1397, 0, 0, 0, 0), (0, 2, 0, 0, 1, 0, 0, 0, 55, 0), (4, 1, 3, 0, 0, 0, 0, 0, 0, 0), (11, 1, 0, 0, 0, 0, 0, 0, 0, 0), (33, 1, 0, 0, 0, 0, 0, 0, 0, 0),
  (4, 1, 1, 0, 0, 0, 0, 0, 0, 0), (11, 1, 0, 0, 1, 0, 0, 0, 0, 0), (48, 3, 293, 35, 1, 1770, 2, 99, 0, 0), (34, 1, 0, 0, 0, 0, 0, 0, 0, 0), (10, 3, 2, 0, 0, 0, 0, 0, 1, 0), (24, 0, 69, 0, 1, 0, 0, 0, 0, 0)]
def q278_69 : List XO := [(10, 3, 3, 0, 0, 0, 0, 0, 1, 0), (24, 3, 4, 0, 0, 0, 0, 0, 0, 0)]
def q278_75 : List XO := [(4, 1, 2, 0, 0, 0, 0, 0, 0, 0), (27, 1, 0, 0, 0, 0, 0, 0, 0, 0)]
def xt278 : List (Nat × List XO) := [(0, q278_0), (4, q278_4), (42, q278_42), (69, q278_69), (75, q278_75)]
def q279_0 : List XO := [(6, 1, 0, 0, 0, 0, 0, 0, 0, 0), (0, 1, 0, 0, 0, 0, 0, 0, 0, 0), (45, 3, 57, 10, 1, 1378, 0, 0, 0, 0), (6, 1, 0, 0, 0, 0, 0, 0, 0, 0), (0, 1, 0, 0, 0, 0, 0, 0, 0, 0), (45, 3, 60, 10, 0, 1377, 0, 0, 0, 0),
  (6, 1, 0, 0, 0, 0, 0, 0, 0, 0), (4, 1, 1, 0, 0, 0, 0, 0, 0, 0), (48, 3, 334, 269, 0, 1812, 2, 10, 0, 0), (22, 3, 24, 0, 1, 0, 0, 0, 0, 0), (6, 1, 0, 0, 0, 0, 0, 0, 0, 0), (0, 1, 0, 0, 0, 0, 0, 0, 2, 0),
  (48, 3, 72, 195, 0, 1517, 2, 10, 0, 0), (27, 1, 0, 0, 1, 0, 0, 0, 0, 0)]
def q279_24 : List XO := [(6, 1, 0, 0, 0, 0, 0, 0, 0, 0), (0, 2, 0, 0, 1, 0, 0, 0, 61, 0), (4, 1, 1, 0, 0, 0, 0, 0, 0, 0), (11, 1, 0, 0, 0, 0, 0, 0, 0, 0), (4, 1, 2, 0, 0, 0, 0, 0, 0, 0), (22, 3, 37, 0, 0, 0, 0, 0, 0, 0),
  (0, 1, 0, 0, 0, 0, 0, 0, 1, 0), (24, 3, 38, 0, 0, 0, 0, 0, 0, 0)]
def q279_37 : List XO := [(0, 1, 0, 0, 0, 0, 0, 0, 0, 0), (24, 0, 38, 0, 1, 0, 0, 0, 0, 0)]
def q279_38 : List XO := [(48, 3, 363, 280, 0, 1861, 3, 10, 0, 0), (22, 3, 53, 0, 1, 0, 0, 0, 0, 0), (6, 1, 0, 0, 0, 0, 0, 0, 0, 0), (0, 2, 0, 0, 1, 0, 0, 0, 9, 0), (48, 3, 72, 195, 0, 1517, 2, 10, 0, 0), (22, 3, 57, 0, 0, 0, 0, 0, 0, 0),
  (24, 0, 53, 0, 1, 0, 0, 0, 0, 0)]
def q279_53 : List XO := [(0, 1, 0, 0, 0, 0, 0, 0, 1, 0), (24, 3, 58, 0, 0, 0, 0, 0, 0, 0)]
def q279_57 : List XO := [(0, 1, 0, 0, 0, 0, 0, 0, 0, 0), (24, 0, 58, 0, 1, 0, 0, 0, 0, 0)]
def q279_58 : List XO := [(27, 1, 0, 0, 1, 0, 0, 0, 0, 0)]
def xt279 : List (Nat × List XO) := [(0, q279_0), (24, q279_24), (37, q279_37), (38, q279_38), (53, q279_53), (57, q279_57), (58, q279_58)]
def q280_0 : List XO := [(6, 1, 0, 0, 0, 0, 0, 0, 0, 0), (44, 3, 35, 10, 20, 1397, 0, 0, 0, 0), (4, 1, 1, 0, 0, 0, 0, 0, 0, 0), (33, 1, 0, 0, 0, 0, 0, 0, 0, 0), (4, 1, 2, 0, 0, 0, 0, 0, 0, 0), (23, 3, 12, 0, 1, 0, 0, 0, 0, 0),
  (0, 1, 0, 0, 0, 0, 0, 0, 0, 0), (27, 1, 0, 0, 1, 0, 0, 0, 0, 0)]
def q280_12 : List XO := [(6, 1, 0, 0, 0, 0, 0, 0, 0, 0), (44, 3, 35, 10, 20, 1397, 0, 0, 0, 0), (4, 1, 1, 0, 0, 0, 0, 0, 0, 0), (4, 1, 2, 0, 0, 0, 0, 0, 0, 0), (34, 1, 0, 0, 0, 0, 0, 0, 0, 0), (0, 1, 0, 0, 0, 0, 0, 0, 1, 0),
  (27, 1, 0, 0, 1, 0, 0, 0, 0, 0)]
def xt280 : List (Nat × List XO) := [(0, q280_0), (12, q280_12)]
def q281_0 : List XO := [(6, 1, 0, 0, 0, 0, 0, 0, 0, 0), (0, 1, 0, 0, 0, 0, 0, 0, 0, 0), (45, 3, 57, 10, 1, 1378, 0, 0, 0, 0), (6, 1, 0, 0, 0, 0, 0, 0, 0, 0), (0, 1, 0, 0, 0, 0, 0, 0, 0, 0), (45, 3, 60, 10, 0, 1377, 0, 0, 0, 0),
  (6, 1, 0, 0, 0, 0, 0, 0, 0, 0), (4, 1, 1, 0, 0, 0, 0, 0, 0, 0), (48, 3, 334, 269, 0, 1812, 2, 10, 0, 0), (22, 3, 26, 0, 0, 0, 0, 0, 0, 0), (6, 1, 0, 0, 0, 0, 0, 0, 0, 0), (4, 1, 2, 0, 0, 0, 0, 0, 0, 0),
  (48, 3, 331, 267, 0, 1804, 2, 10, 0, 0), (22, 3, 32, 0, 1, 0, 0, 0, 0, 0), (24, 0, 26, 0, 1, 0, 0, 0, 0, 0)]
def q281_26 : List XO := [(6, 1, 0, 0, 0, 0, 0, 0, 0, 0), (0, 1, 0, 0, 0, 0, 0, 0, 2, 0), (48, 3, 319, 261, 0, 1780, 2, 10, 0, 0), (27, 1, 0, 0, 0, 0, 0, 0, 0, 0)]
def q281_32 : List XO := [(6, 1, 0, 0, 0, 0, 0, 0, 0, 0), (44, 3, 35, 10, 20, 1397, 0, 0, 0, 0), (0, 2, 0, 0, 1, 0, 0, 0, 67, 0), (4, 1, 1, 0, 0, 0, 0, 0, 0, 0), (11, 1, 0, 0, 0, 0, 0, 0, 0, 0), (33, 1, 0, 0, 0, 0, 0, 0, 0, 0),
  (48, 3, 366, 282, 1, 1869, 1, 10, 0, 0), (0, 2, 0, 0, 1, 0, 0, 0, 6, 0), (23, 3, 56, 0, 1, 0, 0, 0, 0, 0), (6, 1, 0, 0, 0, 0, 0, 0, 0, 0), (0, 2, 0, 0, 1, 0, 0, 0, 7, 0), (48, 3, 319, 261, 0, 1780, 2, 10, 0, 0),
  (27, 1, 0, 0, 0, 0, 0, 0, 0, 0)]
def q281_56 : List XO := [(6, 1, 0, 0, 0, 0, 0, 0, 0, 0), (4, 1, 1, 0, 0, 0, 0, 0, 0, 0), (4, 1, 2, 0, 0, 0, 0, 0, 0, 0), (48, 3, 369, 283, 0, 1872, 3, 10, 0, 0), (22, 3, 80, 0, 0, 0, 0, 0, 0, 0), (6, 1, 0, 0, 0, 0, 0, 0, 0, 0),
  (44, 3, 35, 10, 20, 1397, 0, 0, 0, 0), (0, 2, 0, 0, 1, 0, 0, 0, 67, 0), (4, 1, 1, 0, 0, 0, 0, 0, 0, 0), (11, 1, 0, 0, 0, 0, 0, 0, 0, 0), (33, 1, 0, 0, 0, 0, 0, 0, 0, 0), (48, 3, 366, 282, 1, 1869, 1, 10, 0, 0),
  (24, 3, 86, 0, 0, 0, 0, 0, 0, 0)]
def q281_80 : List XO := [(6, 1, 0, 0, 0, 0, 0, 0, 0, 0), (0, 2, 0, 0, 1, 0, 0, 0, 9, 0), (48, 3, 319, 261, 0, 1780, 2, 10, 0, 0), (24, 0, 86, 0, 1, 0, 0, 0, 0, 0)]
def q281_86 : List XO := [(27, 1, 0, 0, 0, 0, 0, 0, 0, 0)]
def xt281 : List (Nat × List XO) := [(0, q281_0), (26, q281_26), (32, q281_32), (56, q281_56), (80, q281_80), (86, q281_86)]
def q282_0 : List XO := [(0, 1, 0, 0, 0, 0, 0, 0, 0, 0), (7, 1, 1, 0, 0, 0, 0, 0, 0, 0), (0, 1, 0, 0, 0, 0, 0, 0, 0, 0), (7, 1, 2, 0, 0, 0, 0, 0, 0, 0), (24, 0, 4, 0, 1, 0, 0, 0, 0, 0)]
def q282_4 : List XO := [(4, 1, 2, 0, 0, 0, 0, 0, 0, 0), (0, 2, 0, 0, 1, 0, 0, 0, 30, 0), (23, 3, 32, 0, 3, 0, 0, 0, 0, 0), (4, 1, 1, 0, 0, 0, 0, 0, 0, 0), (4, 1, 0, 0, 0, 0, 0, 0, 0, 0), (4, 1, 2, 0, 0, 0, 0, 0, 0, 0),
  (48, 3, 96, 250, 1, 1735, 2, 10, 0, 0), (22, 3, 23, 0, 0, 0, 0, 0, 0, 0), (0, 1, 0, 0, 0, 0, 0, 0, 1, 0), (24, 3, 24, 0, 0, 0, 0, 0, 0, 0)]
def q282_23 : List XO := [(0, 1, 0, 0, 0, 0, 0, 0, 0, 0), (24, 0, 24, 0, 1, 0, 0, 0, 0, 0)]
def q282_24 : List XO := [(11, 1, 0, 0, 0, 0, 0, 0, 0, 0), (7, 1, 1, 0, 0, 0, 0, 0, 0, 0), (10, 3, 2, 0, 0, 0, 0, 0, 1, 0), (24, 3, 4, 0, 0, 0, 0, 0, 0, 0)]
def q282_32 : List XO := [(4, 1, 1, 0, 0, 0, 0, 0, 0, 0), (27, 1, 0, 0, 0, 0, 0, 0, 0, 0)]
def xt282 : List (Nat × List XO) := [(0, q282_0), (4, q282_4), (23, q282_23), (24, q282_24), (32, q282_32)]
def q283_0 : List XO := [(6, 1, 0, 0, 0, 0, 0, 0, 0, 0), (44, 3, 35, 10, 20, 1397, 0, 0, 0, 0), (0, 2, 0, 0, 1, 0, 0, 0, 67, 0), (4, 1, 1, 0, 0, 0, 0, 0, 0, 0), (11, 1, 0, 0, 0, 0, 0, 0, 0, 0), (33, 1, 0, 0, 0, 0, 0, 0, 0, 0),
  (48, 3, 366, 282, 1, 1869, 1, 10, 0, 0), (0, 2, 0, 0, 1, 0, 0, 0, 6, 0), (23, 3, 43, 0, 0, 0, 0, 0, 0, 0), (6, 1, 0, 0, 0, 0, 0, 0, 0, 0), (0, 1, 0, 0, 0, 0, 0, 0, 0, 0), (4, 1, 1, 0, 0, 0, 0, 0, 0, 0),
  (4, 1, 2, 0, 0, 0, 0, 0, 0, 0), (48, 3, 245, 249, 0, 1731, 4, 10, 0, 0), (22, 3, 43, 0, 0, 0, 0, 0, 0, 0), (6, 1, 0, 0, 0, 0, 0, 0, 0, 0), (44, 3, 35, 10, 20, 1397, 0, 0, 0, 0), (0, 2, 0, 0, 1, 0, 0, 0, 67, 0),
  (4, 1, 1, 0, 0, 0, 0, 0, 0, 0), (11, 1, 0, 0, 0, 0, 0, 0, 0, 0), (33, 1, 0, 0, 0, 0, 0, 0, 0, 0), (4, 1, 2, 0, 0, 0, 0, 0, 0, 0), (48, 3, 96, 250, 1, 1735, 2, 10, 0, 0), (22, 3, 45, 0, 0, 0, 0, 0, 0, 0),
  (24, 0, 43, 0, 1, 0, 0, 0, 0, 0)]
def q283_43 : List XO := [(0, 1, 0, 0, 0, 0, 0, 0, 0, 0), (27, 1, 0, 0, 1, 0, 0, 0, 0, 0)]
def q283_45 : List XO := [(6, 1, 0, 0, 0, 0, 0, 0, 0, 0), (44, 3, 35, 10, 20, 1397, 0, 0, 0, 0), (0, 2, 0, 0, 1, 0, 0, 0, 67, 0), (4, 1, 1, 0, 0, 0, 0, 0, 0, 0), (11, 1, 0, 0, 0, 0, 0, 0, 0, 0), (20, 1, 0, 0, 0, 0, 0, 0, 0, 0),
  (33, 1, 0, 0, 0, 0, 0, 0, 0, 0), (0, 1, 0, 0, 0, 0, 0, 0, 1, 0), (4, 1, 2, 0, 0, 0, 0, 0, 0, 0), (11, 1, 0, 0, 6, 0, 0, 0, 0, 0), (11, 1, 0, 0, 4, 0, 0, 0, 0, 0), (34, 1, 0, 0, 0, 0, 0, 0, 0, 0),
  (0, 1, 0, 0, 0, 0, 0, 0, 1, 0), (27, 1, 0, 0, 1, 0, 0, 0, 0, 0)]
def xt283 : List (Nat × List XO) := [(0, q283_0), (43, q283_43), (45, q283_45)]
def q284_0 : List XO := [(6, 1, 0, 0, 0, 0, 0, 0, 0, 0), (0, 1, 0, 0, 0, 0, 0, 0, 0, 0), (45, 3, 57, 10, 1, 1378, 0, 0, 0, 0), (6, 1, 0, 0, 0, 0, 0, 0, 0, 0), (0, 1, 0, 0, 0, 0, 0, 0, 0, 0), (45, 3, 60, 10, 0, 1377, 0, 0, 0, 0),
  (6, 1, 0, 0, 0, 0, 0, 0, 0, 0), (4, 1, 1, 0, 0, 0, 0, 0, 0, 0), (48, 3, 334, 269, 0, 1812, 2, 10, 0, 0), (22, 3, 24, 0, 1, 0, 0, 0, 0, 0), (6, 1, 0, 0, 0, 0, 0, 0, 0, 0), (0, 1, 0, 0, 0, 0, 0, 0, 2, 0),
  (48, 3, 319, 261, 0, 1780, 2, 10, 0, 0), (27, 1, 0, 0, 0, 0, 0, 0, 0, 0)]
def q284_24 : List XO := [(6, 1, 0, 0, 0, 0, 0, 0, 0, 0), (44, 3, 35, 10, 20, 1397, 0, 0, 0, 0), (0, 2, 0, 0, 1, 0, 0, 0, 67, 0), (4, 1, 1, 0, 0, 0, 0, 0, 0, 0), (11, 1, 0, 0, 0, 0, 0, 0, 0, 0), (33, 1, 0, 0, 0, 0, 0, 0, 0, 0),
  (48, 3, 366, 282, 1, 1869, 1, 10, 0, 0), (7, 1, 2, 0, 0, 0, 0, 0, 0, 0), (6, 1, 0, 0, 0, 0, 0, 0, 0, 0), (0, 2, 0, 0, 1, 0, 0, 0, 67, 0), (4, 1, 1, 0, 0, 0, 0, 0, 0, 0), (11, 1, 0, 0, 0, 0, 0, 0, 0, 0),
  (0, 1, 0, 0, 0, 0, 0, 0, 0, 0), (48, 3, 363, 280, 0, 1861, 3, 10, 0, 0), (22, 3, 53, 0, 0, 0, 0, 0, 0, 0), (4, 1, 2, 0, 0, 0, 0, 0, 0, 0), (24, 3, 59, 0, 0, 0, 0, 0, 0, 0)]
def q284_53 : List XO := [(6, 1, 0, 0, 0, 0, 0, 0, 0, 0), (0, 2, 0, 0, 1, 0, 0, 0, 9, 0), (48, 3, 319, 261, 0, 1780, 2, 10, 0, 0), (24, 0, 59, 0, 1, 0, 0, 0, 0, 0)]
def q284_59 : List XO := [(27, 1, 0, 0, 0, 0, 0, 0, 0, 0)]
def xt284 : List (Nat × List XO) := [(0, q284_0), (24, q284_24), (53, q284_53), (59, q284_59)]
def q285_0 : List XO := [(6, 1, 0, 0, 0, 0, 0, 0, 0, 0), (0, 1, 0, 0, 0, 0, 0, 0, 0, 0), (45, 3, 57, 10, 1, 1378, 0, 0, 0, 0), (6, 1, 0, 0, 0, 0, 0, 0, 0, 0), (0, 1, 0, 0, 0, 0, 0, 0, 0, 0), (45, 3, 60, 10, 0, 1377, 0, 0, 0, 0),
  (6, 1, 0, 0, 0, 0, 0, 0, 0, 0), (4, 1, 1, 0, 0, 0, 0, 0, 0, 0), (48, 3, 331, 267, 0, 1804, 2, 10, 0, 0), (22, 3, 24, 0, 1, 0, 0, 0, 0, 0), (6, 1, 0, 0, 0, 0, 0, 0, 0, 0), (0, 1, 0, 0, 0, 0, 0, 0, 2, 0),
  (48, 3, 319, 261, 0, 1780, 2, 10, 0, 0), (27, 1, 0, 0, 0, 0, 0, 0, 0, 0)]
def q285_24 : List XO := [(4, 1, 2, 0, 0, 0, 0, 0, 0, 0), (17, 1, 0, 0, 0, 0, 0, 0, 0, 0), (1, 1, 0, 0, 0, 0, 0, 0, 0, 0), (1, 3, 355, 0, 1, 1843, 0, 0, 0, 9), (48, 3, 92, 221, 1, 1620, 3, 10, 0, 0), (22, 3, 42, 0, 1, 0, 0, 0, 0, 0),
  (6, 1, 0, 0, 0, 0, 0, 0, 0, 0), (0, 1, 0, 0, 0, 0, 0, 0, 5, 0), (48, 3, 319, 261, 0, 1780, 2, 10, 0, 0), (27, 1, 0, 0, 0, 0, 0, 0, 0, 0)]
def q285_42 : List XO := [(6, 1, 0, 0, 0, 0, 0, 0, 0, 0), (44, 3, 35, 10, 20, 1397, 0, 0, 0, 0), (0, 1, 0, 0, 0, 0, 0, 0, 2, 0), (33, 1, 0, 0, 0, 0, 0, 0, 0, 0), (7, 1, 3, 0, 0, 0, 0, 0, 0, 0), (4, 1, 3, 0, 0, 0, 0, 0, 0, 0),
  (0, 2, 0, 0, 1, 0, 0, 0, 15, 0), (23, 3, 62, 0, 1, 0, 0, 0, 0, 0), (6, 1, 0, 0, 0, 0, 0, 0, 0, 0), (0, 2, 0, 0, 1, 0, 0, 0, 7, 0), (48, 3, 319, 261, 0, 1780, 2, 10, 0, 0), (27, 1, 0, 0, 0, 0, 0, 0, 0, 0)]
def q285_62 : List XO := [(6, 1, 0, 0, 0, 0, 0, 0, 0, 0), (0, 1, 0, 0, 0, 0, 0, 0, 0, 0), (4, 1, 1, 0, 0, 0, 0, 0, 0, 0), (48, 3, 238, 229, 0, 1651, 3, 10, 0, 0), (22, 3, 78, 0, 2, 0, 0, 0, 0, 0), (6, 1, 0, 0, 0, 0, 0, 0, 0, 0),
  (0, 2, 0, 0, 1, 0, 0, 0, 9, 0), (48, 3, 319, 261, 0, 1780, 2, 10, 0, 0), (27, 1, 0, 0, 0, 0, 0, 0, 0, 0)]
def q285_78 : List XO := [(6, 1, 0, 0, 0, 0, 0, 0, 0, 0), (0, 1, 0, 0, 0, 0, 0, 0, 0, 0), (4, 1, 1, 0, 0, 0, 0, 0, 0, 0), (4, 1, 2, 0, 0, 0, 0, 0, 0, 0), (48, 3, 241, 231, 0, 1659, 4, 10, 0, 0), (4, 1, 3, 0, 0, 0, 0, 0, 0, 0),
  (27, 1, 0, 0, 0, 0, 0, 0, 0, 0)]
def xt285 : List (Nat × List XO) := [(0, q285_0), (24, q285_24), (42, q285_42), (62, q285_62), (78, q285_78)]
def q286_0 : List XO := [(6, 1, 0, 0, 0, 0, 0, 0, 0, 0), (0, 1, 0, 0, 0, 0, 0, 0, 0, 0), (45, 3, 57, 10, 1, 1378, 0, 0, 0, 0), (6, 1, 0, 0, 0, 0, 0, 0, 0, 0), (0, 1, 0, 0, 0, 0, 0, 0, 0, 0), (45, 3, 60, 10, 0, 1377, 0, 0, 0, 0),
  (6, 1, 0, 0, 0, 0, 0, 0, 0, 0), (4, 1, 1, 0, 0, 0, 0, 0, 0, 0), (48, 3, 331, 267, 0, 1804, 2, 10, 0, 0), (22, 3, 24, 0, 1, 0, 0, 0, 0, 0), (6, 1, 0, 0, 0, 0, 0, 0, 0, 0), (0, 1, 0, 0, 0, 0, 0, 0, 2, 0),
  (48, 3, 319, 261, 0, 1780, 2, 10, 0, 0), (27, 1, 0, 0, 0, 0, 0, 0, 0, 0)]
def q286_24 : List XO := [(4, 1, 2, 0, 0, 0, 0, 0, 0, 0), (17, 1, 0, 0, 0, 0, 0, 0, 0, 0), (1, 1, 0, 0, 0, 0, 0, 0, 0, 1), (6, 1, 0, 0, 0, 0, 0, 0, 0, 0), (44, 3, 35, 10, 20, 1397, 0, 0, 0, 0), (0, 1, 0, 0, 0, 0, 0, 0, 0, 0),
  (33, 1, 0, 0, 0, 0, 0, 0, 0, 0), (4, 1, 1, 0, 0, 0, 0, 0, 0, 0), (6, 1, 0, 0, 0, 0, 0, 0, 0, 0), (44, 3, 35, 10, 20, 1397, 0, 0, 0, 0), (0, 1, 0, 0, 0, 0, 0, 0, 0, 0), (33, 1, 0, 0, 0, 0, 0, 0, 0, 0),
  (12, 1, 0, 0, 1, 0, 0, 0, 0, 0), (11, 1, 0, 0, 1, 0, 0, 0, 0, 0), (17, 1, 0, 0, 0, 0, 0, 0, 0, 0), (48, 3, 92, 221, 1, 1620, 3, 10, 0, 0), (22, 3, 74, 0, 0, 0, 0, 0, 0, 0), (4, 1, 3, 0, 0, 0, 0, 0, 0, 0),
  (17, 1, 0, 0, 0, 0, 0, 0, 0, 0), (1, 1, 0, 0, 0, 0, 0, 0, 0, 1), (6, 1, 0, 0, 0, 0, 0, 0, 0, 0), (44, 3, 35, 10, 20, 1397, 0, 0, 0, 0), (0, 1, 0, 0, 0, 0, 0, 0, 1, 0), (33, 1, 0, 0, 0, 0, 0, 0, 0, 0),
  (4, 1, 1, 0, 0, 0, 0, 0, 0, 0), (6, 1, 0, 0, 0, 0, 0, 0, 0, 0), (44, 3, 35, 10, 20, 1397, 0, 0, 0, 0), (0, 1, 0, 0, 0, 0, 0, 0, 0, 0), (33, 1, 0, 0, 0, 0, 0, 0, 0, 0), (12, 1, 0, 0, 0, 0, 0, 0, 0, 0),
  (11, 1, 0, 0, 1, 0, 0, 0, 0, 0), (17, 1, 0, 0, 0, 0, 0, 0, 0, 0), (48, 3, 92, 221, 1, 1620, 3, 10, 0, 0), (22, 3, 80, 0, 1, 0, 0, 0, 0, 0), (24, 0, 74, 0, 1, 0, 0, 0, 0, 0)]
def q286_74 : List XO := [(6, 1, 0, 0, 0, 0, 0, 0, 0, 0), (0, 1, 0, 0, 0, 0, 0, 0, 5, 0), (48, 3, 319, 261, 0, 1780, 2, 10, 0, 0), (27, 1, 0, 0, 0, 0, 0, 0, 0, 0)]
def q286_80 : List XO := [(6, 1, 0, 0, 0, 0, 0, 0, 0, 0), (44, 3, 35, 10, 20, 1397, 0, 0, 0, 0), (0, 1, 0, 0, 0, 0, 0, 0, 3, 0), (33, 1, 0, 0, 0, 0, 0, 0, 0, 0), (7, 2, 4, 0, 0, 0, 0, 0, 0, 0), (4, 2, 4, 0, 0, 0, 0, 0, 0, 0),
  (0, 2, 0, 0, 1, 0, 0, 0, 6, 0), (23, 3, 102, 0, 1, 0, 0, 0, 0, 0), (6, 1, 0, 0, 0, 0, 0, 0, 0, 0), (0, 2, 0, 0, 1, 0, 0, 0, 7, 0), (48, 3, 319, 261, 0, 1780, 2, 10, 0, 0), (27, 1, 0, 0, 0, 0, 0, 0, 0, 0)]
def q286_102 : List XO := [(6, 1, 0, 0, 0, 0, 0, 0, 0, 0), (44, 3, 41, 10, 22, 1399, 0, 0, 0, 0), (4, 2, 4, 0, 0, 0, 0, 0, 0, 0), (1, 1, 0, 0, 0, 0, 0, 0, 0, 0), (36, 1, 0, 0, 0, 0, 0, 0, 0, 0), (6, 1, 0, 0, 0, 0, 0, 0, 0, 0),
  (0, 1, 0, 0, 0, 0, 0, 0, 0, 0), (4, 1, 1, 0, 0, 0, 0, 0, 0, 0), (4, 1, 2, 0, 0, 0, 0, 0, 0, 0), (4, 1, 3, 0, 0, 0, 0, 0, 0, 0), (48, 3, 255, 246, 0, 1719, 5, 10, 0, 0), (6, 1, 0, 0, 0, 0, 0, 0, 0, 0),
  (44, 3, 35, 10, 20, 1397, 0, 0, 0, 0), (0, 1, 0, 0, 0, 0, 0, 0, 3, 0), (20, 1, 0, 0, 0, 0, 0, 0, 0, 0), (33, 1, 0, 0, 0, 0, 0, 0, 0, 0), (0, 1, 0, 0, 0, 0, 0, 0, 1, 0), (11, 1, 0, 0, 0, 0, 0, 0, 0, 0),
  (34, 1, 0, 0, 0, 0, 0, 0, 0, 0), (4, 2, 4, 0, 0, 0, 0, 0, 0, 0), (27, 1, 0, 0, 0, 0, 0, 0, 0, 0)]
def xt286 : List (Nat × List XO) := [(0, q286_0), (24, q286_24), (74, q286_74), (80, q286_80), (102, q286_102)]
def q287_0 : List XO := [(6, 1, 0, 0, 0, 0, 0, 0, 0, 0), (0, 1, 0, 0, 0, 0, 0, 0, 0, 0), (45, 3, 57, 10, 1, 1378, 0, 0, 0, 0), (6, 1, 0, 0, 0, 0, 0, 0, 0, 0), (0, 1, 0, 0, 0, 0, 0, 0, 0, 0), (45, 3, 60, 10, 0, 1377, 0, 0, 0, 0),
  (4, 1, 1, 0, 0, 0, 0, 0, 0, 0), (17, 1, 0, 0, 0, 0, 0, 0, 0, 0), (1, 1, 0, 0, 0, 0, 0, 0, 0, 0), (1, 3, 372, 0, 1, 1892, 0, 0, 0, 16), (48, 3, 92, 221, 1, 1620, 3, 10, 0, 0), (22, 3, 28, 0, 1, 0, 0, 0, 0, 0),
  (6, 1, 0, 0, 0, 0, 0, 0, 0, 0), (0, 1, 0, 0, 0, 0, 0, 0, 5, 0), (48, 3, 72, 195, 0, 1517, 2, 10, 0, 0), (27, 1, 0, 0, 1, 0, 0, 0, 0, 0)]
def q287_28 : List XO := [(6, 1, 0, 0, 0, 0, 0, 0, 0, 0), (44, 3, 35, 10, 20, 1397, 0, 0, 0, 0), (0, 1, 0, 0, 0, 0, 0, 0, 4, 0), (4, 1, 1, 0, 0, 0, 0, 0, 0, 0), (34, 1, 0, 0, 0, 0, 0, 0, 0, 0), (0, 1, 0, 0, 0, 0, 0, 0, 1, 0),
  (27, 1, 0, 0, 1, 0, 0, 0, 0, 0)]
def xt287 : List (Nat × List XO) := [(0, q287_0), (28, q287_28)]
def q288_0 : List XO := [(6, 1, 0, 0, 0, 0, 0, 0, 0, 0), (0, 1, 0, 0, 0, 0, 0, 0, 0, 0), (45, 3, 57, 10, 1, 1378, 0, 0, 0, 0), (6, 1, 0, 0, 0, 0, 0, 0, 0, 0), (6, 1, 0, 0, 0, 0, 0, 0, 0, 0), (4, 1, 1, 0, 0, 0, 0, 0, 0, 0),
  (4, 1, 2, 0, 0, 0, 0, 0, 0, 0), (4, 1, 3, 0, 0, 0, 0, 0, 0, 0), (4, 2, 4, 0, 0, 0, 0, 0, 0, 0), (48, 3, 406, 289, 0, 1897, 5, 10, 0, 0), (45, 3, 60, 10, 0, 1377, 0, 0, 0, 0), (6, 1, 0, 0, 0, 0, 0, 0, 0, 0),
  (42, 3, 60, 10, 0, 1377, 0, 0, 0, 0), (22, 3, 27, 0, 5, 0, 0, 0, 0, 0), (0, 1, 0, 0, 0, 0, 0, 0, (-1), 0), (27, 1, 0, 0, 0, 0, 0, 0, 0, 0)]
def q288_27 : List XO := [(6, 1, 0, 0, 0, 0, 0, 0, 0, 0), (4, 1, 1, 0, 0, 0, 0, 0, 0, 0), (4, 1, 2, 0, 0, 0, 0, 0, 0, 0), (4, 1, 3, 0, 0, 0, 0, 0, 0, 0), (4, 2, 4, 0, 0, 0, 0, 0, 0, 0), (48, 3, 410, 293, 0, 1914, 5, 10, 0, 0),
  (7, 2, 5, 0, 0, 0, 0, 0, 0, 0), (4, 2, 5, 0, 0, 0, 0, 0, 0, 0), (22, 3, 52, 0, 3, 0, 0, 0, 0, 0), (6, 1, 0, 0, 0, 0, 0, 0, 0, 0), (0, 2, 0, 0, 1, 0, 0, 0, 8, 0), (48, 3, 319, 261, 0, 1780, 2, 10, 0, 0),
  (24, 3, 54, 0, 0, 0, 0, 0, 0, 0)]
def q288_52 : List XO := [(4, 2, 5, 0, 0, 0, 0, 0, 0, 0), (24, 0, 54, 0, 1, 0, 0, 0, 0, 0)]
def q288_54 : List XO := [(27, 1, 0, 0, 0, 0, 0, 0, 0, 0)]
def xt288 : List (Nat × List XO) := [(0, q288_0), (27, q288_27), (52, q288_52), (54, q288_54)]
def q289_0 : List XO := [(6, 1, 0, 0, 0, 0, 0, 0, 0, 0), (4, 1, 1, 0, 0, 0, 0, 0, 0, 0), (4, 1, 2, 0, 0, 0, 0, 0, 0, 0), (4, 1, 3, 0, 0, 0, 0, 0, 0, 0), (48, 3, 394, 290, 0, 1901, 4, 10, 0, 0), (7, 2, 5, 0, 0, 0, 0, 0, 0, 0),
  (4, 2, 5, 0, 0, 0, 0, 0, 0, 0), (22, 3, 31, 0, 1, 0, 0, 0, 0, 0), (4, 2, 4, 0, 0, 0, 0, 0, 0, 0), (17, 1, 0, 0, 0, 0, 0, 0, 0, 0), (1, 1, 0, 0, 0, 0, 0, 0, 0, 1), (1, 3, 398, 0, 1, 1913, 0, 0, 0, 10),
  (48, 3, 92, 221, 1, 1620, 3, 10, 0, 0), (22, 3, 31, 0, 1, 0, 0, 0, 0, 0), (0, 1, 0, 0, 0, 0, 0, 0, 5, 0), (24, 3, 33, 0, 0, 0, 0, 0, 0, 0)]
def q289_31 : List XO := [(4, 2, 5, 0, 0, 0, 0, 0, 0, 0), (24, 0, 33, 0, 1, 0, 0, 0, 0, 0)]
def q289_33 : List XO := [(27, 1, 0, 0, 0, 0, 0, 0, 0, 0)]
def xt289 : List (Nat × List XO) := [(0, q289_0), (31, q289_31), (33, q289_33)]
def q290_0 : List XO := [(6, 1, 0, 0, 0, 0, 0, 0, 0, 0), (4, 1, 2, 0, 0, 0, 0, 0, 0, 0), (48, 3, 331, 267, 0, 1804, 2, 10, 0, 0), (22, 3, 16, 0, 0, 0, 0, 0, 0, 0), (6, 1, 0, 0, 0, 0, 0, 0, 0, 0), (4, 1, 3, 0, 0, 0, 0, 0, 0, 0),
  (48, 3, 331, 267, 0, 1804, 2, 10, 0, 0), (22, 3, 20, 0, 1, 0, 0, 0, 0, 0), (24, 0, 16, 0, 1, 0, 0, 0, 0, 0)]
def q290_16 : List XO := [(0, 1, 0, 0, 0, 0, 0, 0, 2, 0), (24, 3, 33, 0, 0, 0, 0, 0, 0, 0)]
def q290_20 : List XO := [(6, 1, 0, 0, 0, 0, 0, 0, 0, 0), (4, 1, 1, 0, 0, 0, 0, 0, 0, 0), (48, 3, 391, 291, 0, 1905, 2, 10, 0, 0), (22, 3, 32, 0, 0, 0, 0, 0, 0, 0), (0, 1, 0, 0, 0, 0, 0, 0, 0, 0), (24, 3, 33, 0, 0, 0, 0, 0, 0, 0)]
def q290_32 : List XO := [(0, 1, 0, 0, 0, 0, 0, 0, 5, 0), (24, 0, 33, 0, 1, 0, 0, 0, 0, 0)]
def q290_33 : List XO := [(27, 1, 0, 0, 0, 0, 0, 0, 0, 0)]
def xt290 : List (Nat × List XO) := [(0, q290_0), (16, q290_16), (20, q290_20), (32, q290_32), (33, q290_33)]
def q291_0 : List XO := [(4, 1, 1, 0, 0, 0, 0, 0, 0, 0), (17, 1, 0, 0, 0, 0, 0, 0, 0, 0), (1, 1, 0, 0, 0, 0, 0, 0, 0, 0), (6, 1, 0, 0, 0, 0, 0, 0, 0, 0), (48, 3, 314, 292, 0, 1909, 1, 10, 0, 0), (17, 1, 0, 0, 0, 0, 0, 0, 0, 0),
  (48, 3, 92, 221, 1, 1620, 3, 10, 0, 0), (27, 1, 0, 0, 1, 0, 0, 0, 0, 0)]
def xt291 : List (Nat × List XO) := [(0, q291_0)]
def q292_0 : List XO := [(0, 1, 0, 0, 0, 0, 0, 0, 1, 0), (6, 1, 0, 0, 0, 0, 0, 0, 0, 0), (44, 3, 35, 10, 20, 1397, 0, 0, 0, 0), (0, 1, 0, 0, 0, 0, 0, 0, 3, 0), (33, 1, 0, 0, 0, 0, 0, 0, 0, 0), (11, 1, 0, 0, 6, 0, 0, 0, 0, 0),
  (0, 1, 0, 0, 0, 0, 0, 0, 1, 0), (11, 1, 0, 0, 1, 0, 0, 0, 0, 0), (27, 1, 0, 0, 0, 0, 0, 0, 0, 0)]
def xt292 : List (Nat × List XO) := [(0, q292_0)]
def q293_0 : List XO := [(6, 1, 0, 0, 0, 0, 0, 0, 0, 0), (4, 1, 1, 0, 0, 0, 0, 0, 0, 0), (4, 1, 2, 0, 0, 0, 0, 0, 0, 0), (4, 1, 3, 0, 0, 0, 0, 0, 0, 0), (48, 3, 400, 294, 0, 1918, 4, 10, 0, 0), (22, 3, 12, 0, 3, 0, 0, 0, 0, 0),
  (0, 1, 0, 0, 0, 0, 0, 0, (-1), 0), (27, 1, 0, 0, 0, 0, 0, 0, 0, 0)]
def q293_12 : List XO := [(6, 1, 0, 0, 0, 0, 0, 0, 0, 0), (4, 1, 2, 0, 0, 0, 0, 0, 0, 0), (4, 2, 4, 0, 0, 0, 0, 0, 0, 0), (48, 3, 403, 299, 0, 1937, 3, 10, 0, 0), (22, 3, 26, 0, 2, 0, 0, 0, 0, 0), (0, 1, 0, 0, 0, 0, 0, 0, 1, 0),
  (24, 3, 27, 0, 0, 0, 0, 0, 0, 0)]
def q293_26 : List XO := [(0, 1, 0, 0, 0, 0, 0, 0, 0, 0), (24, 0, 27, 0, 1, 0, 0, 0, 0, 0)]
def q293_27 : List XO := [(7, 2, 5, 0, 0, 0, 0, 0, 0, 0), (6, 1, 0, 0, 0, 0, 0, 0, 0, 0), (44, 3, 35, 10, 20, 1397, 0, 0, 0, 0), (4, 2, 5, 0, 0, 0, 0, 0, 0, 0), (22, 3, 42, 0, 0, 0, 0, 0, 0, 0), (0, 1, 0, 0, 0, 0, 0, 0, 5, 0),
  (24, 3, 44, 0, 0, 0, 0, 0, 0, 0)]
def q293_42 : List XO := [(0, 2, 0, 0, 1, 0, 0, 0, 6, 0), (24, 0, 44, 0, 1, 0, 0, 0, 0, 0)]
def q293_44 : List XO := [(20, 1, 0, 0, 0, 0, 0, 0, 0, 0), (33, 1, 0, 0, 0, 0, 0, 0, 0, 0), (0, 1, 0, 0, 0, 0, 0, 0, 1, 0), (11, 1, 0, 0, 0, 0, 0, 0, 0, 0), (34, 1, 0, 0, 0, 0, 0, 0, 0, 0), (4, 2, 5, 0, 0, 0, 0, 0, 0, 0),
  (22, 3, 58, 0, 0, 0, 0, 0, 0, 0), (0, 1, 0, 0, 0, 0, 0, 0, 0, 0), (24, 3, 59, 0, 0, 0, 0, 0, 0, 0)]
def q293_58 : List XO := [(0, 1, 0, 0, 0, 0, 0, 0, 1, 0), (24, 0, 59, 0, 1, 0, 0, 0, 0, 0)]
def q293_59 : List XO := [(27, 1, 0, 0, 0, 0, 0, 0, 0, 0)]
def xt293 : List (Nat × List XO) := [(0, q293_0), (12, q293_12), (26, q293_26), (27, q293_27), (42, q293_42), (44, q293_44), (58, q293_58), (59, q293_59)]
def q294_0 : List XO := [(6, 1, 0, 0, 0, 0, 0, 0, 0, 0), (4, 1, 1, 0, 0, 0, 0, 0, 0, 0), (48, 3, 379, 295, 0, 1922, 2, 10, 0, 0), (7, 2, 4, 0, 0, 0, 0, 0, 0, 0), (0, 1, 0, 0, 0, 0, 0, 0, 0, 0), (7, 2, 5, 0, 0, 0, 0, 0, 0, 0),
  (24, 0, 10, 0, 1, 0, 0, 0, 0, 0)]
def q294_10 : List XO := [(4, 2, 5, 0, 0, 0, 0, 0, 0, 0), (0, 2, 0, 0, 1, 0, 0, 0, 30, 0), (23, 3, 32, 0, 3, 0, 0, 0, 0, 0), (6, 1, 0, 0, 0, 0, 0, 0, 0, 0), (44, 3, 44, 10, 27, 1404, 0, 0, 0, 0), (4, 2, 5, 0, 0, 0, 0, 0, 0, 0),
  (0, 2, 0, 0, 1, 0, 0, 0, 99, 0), (34, 1, 0, 0, 0, 0, 0, 0, 0, 0), (10, 3, 5, 0, 0, 0, 0, 0, 1, 0), (24, 3, 10, 0, 0, 0, 0, 0, 0, 0)]
def q294_32 : List XO := [(4, 2, 4, 0, 0, 0, 0, 0, 0, 0), (4, 1, 2, 0, 0, 0, 0, 0, 0, 0), (48, 3, 96, 250, 1, 1735, 2, 10, 0, 0), (22, 3, 50, 0, 0, 0, 0, 0, 0, 0), (4, 2, 4, 0, 0, 0, 0, 0, 0, 0), (4, 1, 3, 0, 0, 0, 0, 0, 0, 0),
  (48, 3, 96, 250, 1, 1735, 2, 10, 0, 0), (22, 3, 52, 0, 1, 0, 0, 0, 0, 0), (24, 0, 50, 0, 1, 0, 0, 0, 0, 0)]
def q294_50 : List XO := [(0, 1, 0, 0, 0, 0, 0, 0, (-1), 0), (27, 1, 0, 0, 0, 0, 0, 0, 0, 0)]
def q294_52 : List XO := [(6, 1, 0, 0, 0, 0, 0, 0, 0, 0), (44, 3, 44, 10, 27, 1404, 0, 0, 0, 0), (4, 1, 3, 0, 0, 0, 0, 0, 0, 0), (0, 1, 0, 0, 0, 0, 0, 0, 1, 0), (34, 1, 0, 0, 0, 0, 0, 0, 0, 0), (0, 1, 0, 0, 0, 0, 0, 0, 1, 0),
  (7, 2, 5, 0, 0, 0, 0, 0, 0, 0), (24, 0, 62, 0, 1, 0, 0, 0, 0, 0)]
def q294_62 : List XO := [(4, 2, 5, 0, 0, 0, 0, 0, 0, 0), (6, 1, 0, 0, 0, 0, 0, 0, 0, 0), (48, 3, 299, 259, 0, 1771, 1, 10, 0, 0), (23, 3, 169, 0, 3, 0, 0, 0, 0, 0), (0, 1, 0, 0, 0, 0, 0, 0, 0, 0), (7, 2, 6, 0, 0, 0, 0, 0, 0, 0),
  (24, 0, 74, 0, 1, 0, 0, 0, 0, 0)]
def q294_74 : List XO := [(4, 2, 6, 0, 0, 0, 0, 0, 0, 0), (6, 1, 0, 0, 0, 0, 0, 0, 0, 0), (48, 3, 299, 259, 0, 1771, 1, 10, 0, 0), (23, 3, 163, 0, 3, 0, 0, 0, 0, 0), (0, 1, 0, 0, 0, 0, 0, 0, 0, 0), (7, 2, 7, 0, 0, 0, 0, 0, 0, 0),
  (24, 0, 86, 0, 1, 0, 0, 0, 0, 0)]
def q294_86 : List XO := [(4, 2, 7, 0, 0, 0, 0, 0, 0, 0), (6, 1, 0, 0, 0, 0, 0, 0, 0, 0), (48, 3, 299, 259, 0, 1771, 1, 10, 0, 0), (23, 3, 157, 0, 3, 0, 0, 0, 0, 0), (6, 1, 0, 0, 0, 0, 0, 0, 0, 0), (44, 3, 44, 10, 27, 1404, 0, 0, 0, 0),
  (4, 2, 7, 0, 0, 0, 0, 0, 0, 0), (33, 1, 0, 0, 0, 0, 0, 0, 0, 0), (4, 2, 5, 0, 0, 0, 0, 0, 0, 0), (23, 3, 151, 0, 1, 0, 0, 0, 0, 0), (6, 1, 0, 0, 0, 0, 0, 0, 0, 0), (44, 3, 44, 10, 27, 1404, 0, 0, 0, 0),
  (4, 2, 6, 0, 0, 0, 0, 0, 0, 0), (33, 1, 0, 0, 0, 0, 0, 0, 0, 0), (0, 2, 0, 0, 1, 0, 0, 0, 99, 0), (23, 3, 151, 0, 1, 0, 0, 0, 0, 0), (4, 2, 4, 0, 0, 0, 0, 0, 0, 0), (4, 2, 6, 0, 0, 0, 0, 0, 0, 0),
  (48, 3, 96, 250, 1, 1735, 2, 10, 0, 0), (22, 3, 151, 0, 0, 0, 0, 0, 0, 0), (6, 1, 0, 0, 0, 0, 0, 0, 0, 0), (4, 2, 6, 0, 0, 0, 0, 0, 0, 0), (4, 2, 7, 0, 0, 0, 0, 0, 0, 0), (48, 3, 382, 297, 0, 1930, 3, 10, 0, 0),
  (22, 3, 151, 0, 0, 0, 0, 0, 0, 0), (6, 1, 0, 0, 0, 0, 0, 0, 0, 0), (44, 3, 44, 10, 27, 1404, 0, 0, 0, 0), (4, 2, 6, 0, 0, 0, 0, 0, 0, 0), (4, 2, 5, 0, 0, 0, 0, 0, 0, 0), (0, 1, 0, 0, 0, 0, 0, 0, 1, 0),
  (11, 1, 0, 0, 0, 0, 0, 0, 0, 0), (34, 1, 0, 0, 0, 0, 0, 0, 0, 0), (24, 0, 151, 0, 1, 0, 0, 0, 0, 0)]
def q294_151 : List XO := [(10, 3, 7, 0, 0, 0, 0, 0, 1, 0), (24, 3, 86, 0, 0, 0, 0, 0, 0, 0)]
def q294_157 : List XO := [(10, 3, 6, 0, 0, 0, 0, 0, 1, 0), (24, 3, 74, 0, 0, 0, 0, 0, 0, 0)]
def q294_163 : List XO := [(10, 3, 5, 0, 0, 0, 0, 0, 1, 0), (24, 3, 62, 0, 0, 0, 0, 0, 0, 0)]
def q294_169 : List XO := [(6, 1, 0, 0, 0, 0, 0, 0, 0, 0), (44, 3, 44, 10, 27, 1404, 0, 0, 0, 0), (4, 1, 2, 0, 0, 0, 0, 0, 0, 0), (33, 1, 0, 0, 0, 0, 0, 0, 0, 0), (0, 2, 0, 0, 1, 0, 0, 0, 99, 0), (23, 3, 184, 0, 1, 0, 0, 0, 0, 0),
  (0, 1, 0, 0, 0, 0, 0, 0, (-1), 0), (24, 3, 190, 0, 0, 0, 0, 0, 0, 0)]
def q294_184 : List XO := [(6, 1, 0, 0, 0, 0, 0, 0, 0, 0), (44, 3, 44, 10, 27, 1404, 0, 0, 0, 0), (4, 1, 2, 0, 0, 0, 0, 0, 0, 0), (33, 1, 0, 0, 0, 0, 0, 0, 0, 0), (24, 0, 190, 0, 1, 0, 0, 0, 0, 0)]
def q294_190 : List XO := [(27, 1, 0, 0, 0, 0, 0, 0, 0, 0)]
def xt294 : List (Nat × List XO) := [(0, q294_0), (10, q294_10), (32, q294_32), (50, q294_50), (52, q294_52), (62, q294_62), (74, q294_74), (86, q294_86),
  (151, q294_151), (157, q294_157), (163, q294_163), (169, q294_169), (184, q294_184), (190, q294_190)]
def q295_0 : List XO := [(6, 1, 0, 0, 0, 0, 0, 0, 0, 0), (4, 1, 1, 0, 0, 0, 0, 0, 0, 0), (48, 3, 374, 296, 0, 1926, 2, 10, 0, 0), (7, 1, 2, 0, 0, 0, 0, 0, 0, 0), (0, 1, 0, 0, 0, 0, 0, 0, 0, 0), (7, 1, 3, 0, 0, 0, 0, 0, 0, 0),
  (24, 0, 8, 0, 1, 0, 0, 0, 0, 0)]
def q295_8 : List XO := [(4, 1, 3, 0, 0, 0, 0, 0, 0, 0), (6, 1, 0, 0, 0, 0, 0, 0, 0, 0), (44, 3, 35, 10, 20, 1397, 0, 0, 0, 0), (0, 1, 0, 0, 0, 0, 0, 0, 3, 0), (33, 1, 0, 0, 0, 0, 0, 0, 0, 0), (23, 3, 46, 0, 3, 0, 0, 0, 0, 0),
  (4, 1, 2, 0, 0, 0, 0, 0, 0, 0), (4, 1, 1, 0, 0, 0, 0, 0, 0, 0), (4, 1, 3, 0, 0, 0, 0, 0, 0, 0), (48, 3, 96, 250, 1, 1735, 2, 10, 0, 0), (22, 3, 37, 0, 0, 0, 0, 0, 0, 0), (6, 1, 0, 0, 0, 0, 0, 0, 0, 0),
  (4, 1, 3, 0, 0, 0, 0, 0, 0, 0), (48, 3, 342, 272, 0, 1825, 2, 10, 0, 0), (0, 1, 0, 0, 0, 0, 0, 0, (-1), 0), (11, 1, 0, 0, 5, 0, 0, 0, 0, 0), (24, 3, 38, 0, 0, 0, 0, 0, 0, 0)]
def q295_37 : List XO := [(0, 1, 0, 0, 0, 0, 0, 0, (-1), 0), (24, 0, 38, 0, 1, 0, 0, 0, 0, 0)]
def q295_38 : List XO := [(11, 1, 0, 0, 3, 0, 0, 0, 0, 0), (7, 1, 2, 0, 0, 0, 0, 0, 0, 0), (10, 3, 3, 0, 0, 0, 0, 0, 1, 0), (24, 3, 8, 0, 0, 0, 0, 0, 0, 0)]
def q295_46 : List XO := [(4, 1, 2, 0, 0, 0, 0, 0, 0, 0), (27, 1, 0, 0, 0, 0, 0, 0, 0, 0)]
def xt295 : List (Nat × List XO) := [(0, q295_0), (8, q295_8), (37, q295_37), (38, q295_38), (46, q295_46)]
def q296_0 : List XO := [(0, 1, 0, 0, 0, 0, 0, 0, 0, 0), (7, 1, 2, 0, 0, 0, 0, 0, 0, 0), (0, 1, 0, 0, 0, 0, 0, 0, 0, 0), (7, 1, 3, 0, 0, 0, 0, 0, 0, 0), (24, 0, 4, 0, 1, 0, 0, 0, 0, 0)]
def q296_4 : List XO := [(4, 1, 3, 0, 0, 0, 0, 0, 0, 0), (6, 1, 0, 0, 0, 0, 0, 0, 0, 0), (44, 3, 35, 10, 20, 1397, 0, 0, 0, 0), (0, 1, 0, 0, 0, 0, 0, 0, 3, 0), (33, 1, 0, 0, 0, 0, 0, 0, 0, 0), (23, 3, 52, 0, 3, 0, 0, 0, 0, 0),
  (4, 1, 2, 0, 0, 0, 0, 0, 0, 0), (4, 1, 1, 0, 0, 0, 0, 0, 0, 0), (4, 1, 3, 0, 0, 0, 0, 0, 0, 0), (48, 3, 96, 250, 1, 1735, 2, 10, 0, 0), (22, 3, 43, 0, 0, 0, 0, 0, 0, 0), (6, 1, 0, 0, 0, 0, 0, 0, 0, 0),
  (44, 3, 35, 10, 20, 1397, 0, 0, 0, 0), (0, 2, 0, 0, 1, 0, 0, 0, 61, 0), (4, 1, 3, 0, 0, 0, 0, 0, 0, 0), (11, 1, 0, 0, 0, 0, 0, 0, 0, 0), (33, 1, 0, 0, 0, 0, 0, 0, 0, 0), (22, 3, 43, 0, 1, 0, 0, 0, 0, 0),
  (6, 1, 0, 0, 0, 0, 0, 0, 0, 0), (4, 1, 3, 0, 0, 0, 0, 0, 0, 0), (48, 3, 339, 270, 0, 1817, 2, 10, 0, 0), (24, 3, 44, 0, 0, 0, 0, 0, 0, 0)]
def q296_43 : List XO := [(0, 1, 0, 0, 0, 0, 0, 0, 0, 0), (24, 0, 44, 0, 1, 0, 0, 0, 0, 0)]
def q296_44 : List XO := [(11, 1, 0, 0, 4, 0, 0, 0, 0, 0), (7, 1, 2, 0, 0, 0, 0, 0, 0, 0), (10, 3, 3, 0, 0, 0, 0, 0, 1, 0), (24, 3, 4, 0, 0, 0, 0, 0, 0, 0)]
def q296_52 : List XO := [(4, 1, 2, 0, 0, 0, 0, 0, 0, 0), (27, 1, 0, 0, 0, 0, 0, 0, 0, 0)]
def xt296 : List (Nat × List XO) := [(0, q296_0), (4, q296_4), (43, q296_43), (44, q296_44), (52, q296_52)]
def q297_0 : List XO := [(4, 1, 1, 0, 0, 0, 0, 0, 0, 0), (6, 1, 0, 0, 0, 0, 0, 0, 0, 0), (44, 3, 35, 10, 20, 1397, 0, 0, 0, 0), (0, 1, 0, 0, 0, 0, 0, 0, 0, 0), (33, 1, 0, 0, 0, 0, 0, 0, 0, 0), (12, 1, 0, 0, 0, 0, 0, 0, 0, 0),
  (4, 1, 2, 0, 0, 0, 0, 0, 0, 0), (6, 1, 0, 0, 0, 0, 0, 0, 0, 0), (44, 3, 35, 10, 20, 1397, 0, 0, 0, 0), (0, 1, 0, 0, 0, 0, 0, 0, 0, 0), (33, 1, 0, 0, 0, 0, 0, 0, 0, 0), (12, 1, 0, 0, 0, 0, 0, 0, 0, 0),
  (11, 1, 0, 0, 1, 0, 0, 0, 0, 0), (48, 3, 377, 298, 1, 1934, 1, 99, 0, 0), (4, 1, 1, 0, 0, 0, 0, 0, 0, 0), (6, 1, 0, 0, 0, 0, 0, 0, 0, 0), (44, 3, 35, 10, 20, 1397, 0, 0, 0, 0), (0, 1, 0, 0, 0, 0, 0, 0, 0, 0),
  (33, 1, 0, 0, 0, 0, 0, 0, 0, 0), (12, 1, 0, 0, 1, 0, 0, 0, 0, 0), (4, 1, 2, 0, 0, 0, 0, 0, 0, 0), (6, 1, 0, 0, 0, 0, 0, 0, 0, 0), (44, 3, 35, 10, 20, 1397, 0, 0, 0, 0), (0, 1, 0, 0, 0, 0, 0, 0, 0, 0),
  (33, 1, 0, 0, 0, 0, 0, 0, 0, 0), (12, 1, 0, 0, 1, 0, 0, 0, 0, 0), (11, 1, 0, 0, 1, 0, 0, 0, 0, 0), (48, 3, 377, 298, 1, 1934, 1, 99, 0, 0), (11, 1, 0, 0, 0, 0, 0, 0, 0, 0), (0, 1, 0, 0, 0, 0, 0, 0, 1, 0),
  (23, 3, 49, 0, 1, 0, 0, 0, 0, 0), (0, 1, 0, 0, 0, 0, 0, 0, 1, 0), (24, 3, 50, 0, 0, 0, 0, 0, 0, 0)]
def q297_49 : List XO := [(0, 1, 0, 0, 0, 0, 0, 0, 0, 0), (24, 0, 50, 0, 1, 0, 0, 0, 0, 0)]
def q297_50 : List XO := [(27, 1, 0, 0, 1, 0, 0, 0, 0, 0)]
def xt297 : List (Nat × List XO) := [(0, q297_0), (49, q297_49), (50, q297_50)]
def q298_0 : List XO := [(4, 1, 0, 0, 0, 0, 0, 0, 0, 0), (22, 3, 9, 0, 3, 0, 0, 0, 0, 0), (4, 1, 0, 0, 0, 0, 0, 0, 0, 0), (13, 1, 0, 0, 0, 0, 0, 0, 0, 0), (24, 3, 10, 0, 0, 0, 0, 0, 0, 0)]
def q298_9 : List XO := [(4, 1, 0, 0, 0, 0, 0, 0, 0, 0), (24, 0, 10, 0, 1, 0, 0, 0, 0, 0)]
def q298_10 : List XO := [(27, 1, 0, 0, 0, 0, 0, 0, 0, 0)]
def xt298 : List (Nat × List XO) := [(0, q298_0), (9, q298_9), (10, q298_10)]
def q299_0 : List XO := [(4, 1, 1, 0, 0, 0, 0, 0, 0, 0), (7, 1, 3, 0, 0, 0, 0, 0, 0, 0), (24, 0, 2, 0, 1, 0, 0, 0, 0, 0)]
def q299_2 : List XO := [(6, 1, 0, 0, 0, 0, 0, 0, 0, 0), (4, 1, 3, 0, 0, 0, 0, 0, 0, 0), (4, 1, 2, 0, 0, 0, 0, 0, 0, 0), (48, 3, 385, 300, 0, 1941, 3, 10, 0, 0), (22, 3, 30, 0, 1, 0, 0, 0, 0, 0), (6, 1, 0, 0, 0, 0, 0, 0, 0, 0),
  (44, 3, 44, 10, 27, 1404, 0, 0, 0, 0), (4, 1, 3, 0, 0, 0, 0, 0, 0, 0), (33, 1, 0, 0, 0, 0, 0, 0, 0, 0), (0, 1, 0, 0, 0, 0, 0, 0, 1, 0), (23, 3, 30, 0, 5, 0, 0, 0, 0, 0), (6, 1, 0, 0, 0, 0, 0, 0, 0, 0),
  (4, 1, 3, 0, 0, 0, 0, 0, 0, 0), (48, 3, 388, 301, 0, 1945, 2, 10, 0, 0), (7, 1, 3, 0, 0, 0, 0, 0, 0, 0), (24, 3, 2, 0, 0, 0, 0, 0, 0, 0)]
def q299_30 : List XO := [(6, 1, 0, 0, 0, 0, 0, 0, 0, 0), (4, 1, 3, 0, 0, 0, 0, 0, 0, 0), (4, 1, 2, 0, 0, 0, 0, 0, 0, 0), (48, 3, 385, 300, 0, 1941, 3, 10, 0, 0), (22, 3, 43, 0, 0, 0, 0, 0, 0, 0), (4, 1, 3, 0, 0, 0, 0, 0, 0, 0),
  (24, 3, 44, 0, 0, 0, 0, 0, 0, 0)]
def q299_43 : List XO := [(0, 1, 0, 0, 0, 0, 0, 0, (-1), 0), (24, 0, 44, 0, 1, 0, 0, 0, 0, 0)]
def q299_44 : List XO := [(27, 1, 0, 0, 0, 0, 0, 0, 0, 0)]
def xt299 : List (Nat × List XO) := [(0, q299_0), (2, q299_2), (30, q299_30), (43, q299_43), (44, q299_44)]
def q300_0 : List XO := [(6, 1, 0, 0, 0, 0, 0, 0, 0, 0), (0, 1, 0, 0, 0, 0, 0, 0, 0, 0), (4, 1, 1, 0, 0, 0, 0, 0, 0, 0), (48, 3, 238, 229, 0, 1651, 3, 10, 0, 0), (7, 1, 3, 0, 0, 0, 0, 0, 0, 0), (4, 1, 3, 0, 0, 0, 0, 0, 0, 0),
  (22, 3, 28, 0, 2, 0, 0, 0, 0, 0), (6, 1, 0, 0, 0, 0, 0, 0, 0, 0), (44, 3, 35, 10, 20, 1397, 0, 0, 0, 0), (0, 2, 0, 0, 1, 0, 0, 0, 22, 0), (4, 1, 3, 0, 0, 0, 0, 0, 0, 0), (11, 1, 0, 0, 0, 0, 0, 0, 0, 0),
  (33, 1, 0, 0, 0, 0, 0, 0, 0, 0), (4, 1, 2, 0, 0, 0, 0, 0, 0, 0), (23, 3, 28, 0, 3, 0, 0, 0, 0, 0), (0, 1, 0, 0, 0, 0, 0, 0, 1, 0), (24, 3, 29, 0, 0, 0, 0, 0, 0, 0)]
def q300_28 : List XO := [(0, 1, 0, 0, 0, 0, 0, 0, 0, 0), (24, 0, 29, 0, 1, 0, 0, 0, 0, 0)]
def q300_29 : List XO := [(27, 1, 0, 0, 1, 0, 0, 0, 0, 0)]
def xt300 : List (Nat × List XO) := [(0, q300_0), (28, q300_28), (29, q300_29)]
def q301_0 : List XO := [(0, 1, 0, 0, 0, 0, 0, 0, 0, 0), (7, 1, 2, 0, 0, 0, 0, 0, 0, 0), (24, 0, 2, 0, 1, 0, 0, 0, 0, 0)]
def q301_2 : List XO := [(4, 1, 2, 0, 0, 0, 0, 0, 0, 0), (6, 1, 0, 0, 0, 0, 0, 0, 0, 0), (48, 3, 299, 259, 0, 1771, 1, 10, 0, 0), (23, 3, 44, 0, 3, 0, 0, 0, 0, 0), (6, 1, 0, 0, 0, 0, 0, 0, 0, 0), (44, 3, 44, 10, 27, 1404, 0, 0, 0, 0),
  (4, 1, 2, 0, 0, 0, 0, 0, 0, 0), (33, 1, 0, 0, 0, 0, 0, 0, 0, 0), (6, 1, 0, 0, 0, 0, 0, 0, 0, 0), (44, 3, 44, 10, 27, 1404, 0, 0, 0, 0), (4, 1, 1, 0, 0, 0, 0, 0, 0, 0), (33, 1, 0, 0, 0, 0, 0, 0, 0, 0),
  (0, 1, 0, 0, 0, 0, 0, 0, 1, 0), (11, 1, 0, 0, 1, 0, 0, 0, 0, 0), (23, 3, 38, 0, 1, 0, 0, 0, 0, 0), (6, 1, 0, 0, 0, 0, 0, 0, 0, 0), (4, 1, 2, 0, 0, 0, 0, 0, 0, 0), (4, 1, 1, 0, 0, 0, 0, 0, 0, 0),
  (48, 3, 382, 297, 0, 1930, 3, 10, 0, 0), (22, 3, 38, 0, 0, 0, 0, 0, 0, 0), (4, 1, 2, 0, 0, 0, 0, 0, 0, 0), (27, 1, 0, 0, 0, 0, 0, 0, 0, 0)]
def q301_38 : List XO := [(10, 3, 2, 0, 0, 0, 0, 0, 1, 0), (24, 3, 2, 0, 0, 0, 0, 0, 0, 0)]
def q301_44 : List XO := [(0, 1, 0, 0, 0, 0, 0, 0, (-1), 0), (27, 1, 0, 0, 0, 0, 0, 0, 0, 0)]
def xt301 : List (Nat × List XO) := [(0, q301_0), (2, q301_2), (38, q301_38), (44, q301_44)]
def q302_0 : List XO := [(6, 1, 0, 0, 0, 0, 0, 0, 0, 0), (0, 1, 0, 0, 0, 0, 0, 0, 0, 0), (45, 3, 57, 10, 1, 1378, 0, 0, 0, 0), (6, 1, 0, 0, 0, 0, 0, 0, 0, 0), (0, 1, 0, 0, 0, 0, 0, 0, 0, 0), (45, 3, 60, 10, 0, 1377, 0, 0, 0, 0),
  (6, 1, 0, 0, 0, 0, 0, 0, 0, 0), (4, 1, 1, 0, 0, 0, 0, 0, 0, 0), (48, 3, 391, 291, 0, 1905, 2, 10, 0, 0), (22, 3, 26, 0, 0, 0, 0, 0, 0, 0), (6, 1, 0, 0, 0, 0, 0, 0, 0, 0), (4, 1, 1, 0, 0, 0, 0, 0, 0, 0),
  (48, 3, 374, 296, 0, 1926, 2, 10, 0, 0), (24, 3, 31, 0, 0, 0, 0, 0, 0, 0)]
def q302_26 : List XO := [(6, 1, 0, 0, 0, 0, 0, 0, 0, 0), (0, 1, 0, 0, 0, 0, 0, 0, 5, 0), (48, 3, 319, 261, 0, 1780, 2, 10, 0, 0), (24, 0, 31, 0, 1, 0, 0, 0, 0, 0)]
def q302_31 : List XO := [(27, 1, 0, 0, 0, 0, 0, 0, 0, 0)]
def xt302 : List (Nat × List XO) := [(0, q302_0), (26, q302_26), (31, q302_31)]
def q303_0 : List XO := [(6, 1, 0, 0, 0, 0, 0, 0, 0, 0), (0, 1, 0, 0, 0, 0, 0, 0, 0, 0), (45, 3, 57, 10, 1, 1378, 0, 0, 0, 0), (6, 1, 0, 0, 0, 0, 0, 0, 0, 0), (0, 1, 0, 0, 0, 0, 0, 0, 0, 0), (45, 3, 60, 10, 0, 1377, 0, 0, 0, 0),
  (6, 1, 0, 0, 0, 0, 0, 0, 0, 0), (4, 1, 1, 0, 0, 0, 0, 0, 0, 0), (48, 3, 391, 291, 0, 1905, 2, 10, 0, 0), (22, 3, 26, 0, 0, 0, 0, 0, 0, 0), (6, 1, 0, 0, 0, 0, 0, 0, 0, 0), (4, 1, 1, 0, 0, 0, 0, 0, 0, 0),
  (48, 3, 379, 295, 0, 1922, 2, 10, 0, 0), (24, 3, 31, 0, 0, 0, 0, 0, 0, 0)]
def q303_26 : List XO := [(6, 1, 0, 0, 0, 0, 0, 0, 0, 0), (0, 1, 0, 0, 0, 0, 0, 0, 5, 0), (48, 3, 319, 261, 0, 1780, 2, 10, 0, 0), (24, 0, 31, 0, 1, 0, 0, 0, 0, 0)]
def q303_31 : List XO := [(27, 1, 0, 0, 0, 0, 0, 0, 0, 0)]
def xt303 : List (Nat × List XO) := [(0, q303_0), (26, q303_26), (31, q303_31)]
def q304_0 : List XO := [(6, 1, 0, 0, 0, 0, 0, 0, 0, 0), (0, 1, 0, 0, 0, 0, 0, 0, 0, 0), (45, 3, 57, 10, 1, 1378, 0, 0, 0, 0), (6, 1, 0, 0, 0, 0, 0, 0, 0, 0), (6, 1, 0, 0, 0, 0, 0, 0, 0, 0), (4, 1, 1, 0, 0, 0, 0, 0, 0, 0),
  (4, 1, 2, 0, 0, 0, 0, 0, 0, 0), (4, 1, 3, 0, 0, 0, 0, 0, 0, 0), (48, 3, 394, 290, 0, 1901, 4, 10, 0, 0), (45, 3, 60, 10, 0, 1377, 0, 0, 0, 0), (6, 1, 0, 0, 0, 0, 0, 0, 0, 0), (42, 3, 60, 10, 0, 1377, 0, 0, 0, 0),
  (22, 3, 25, 0, 5, 0, 0, 0, 0, 0), (0, 1, 0, 0, 0, 0, 0, 0, (-1), 0), (27, 1, 0, 0, 0, 0, 0, 0, 0, 0)]
def q304_25 : List XO := [(6, 1, 0, 0, 0, 0, 0, 0, 0, 0), (4, 1, 1, 0, 0, 0, 0, 0, 0, 0), (4, 1, 2, 0, 0, 0, 0, 0, 0, 0), (4, 1, 3, 0, 0, 0, 0, 0, 0, 0), (48, 3, 400, 294, 0, 1918, 4, 10, 0, 0), (7, 2, 4, 0, 0, 0, 0, 0, 0, 0),
  (4, 2, 4, 0, 0, 0, 0, 0, 0, 0), (22, 3, 48, 0, 3, 0, 0, 0, 0, 0), (6, 1, 0, 0, 0, 0, 0, 0, 0, 0), (0, 2, 0, 0, 1, 0, 0, 0, 8, 0), (48, 3, 319, 261, 0, 1780, 2, 10, 0, 0), (24, 3, 50, 0, 0, 0, 0, 0, 0, 0)]
def q304_48 : List XO := [(4, 2, 4, 0, 0, 0, 0, 0, 0, 0), (24, 0, 50, 0, 1, 0, 0, 0, 0, 0)]
def q304_50 : List XO := [(27, 1, 0, 0, 0, 0, 0, 0, 0, 0)]
def xt304 : List (Nat × List XO) := [(0, q304_0), (25, q304_25), (48, q304_48), (50, q304_50)]
def q305_0 : List XO := [(6, 1, 0, 0, 0, 0, 0, 0, 0, 0), (0, 1, 0, 0, 0, 0, 0, 0, 0, 0), (45, 3, 57, 10, 1, 1378, 0, 0, 0, 0), (6, 1, 0, 0, 0, 0, 0, 0, 0, 0), (6, 1, 0, 0, 0, 0, 0, 0, 0, 0), (4, 1, 1, 0, 0, 0, 0, 0, 0, 0),
  (4, 1, 2, 0, 0, 0, 0, 0, 0, 0), (4, 1, 3, 0, 0, 0, 0, 0, 0, 0), (48, 3, 394, 290, 0, 1901, 4, 10, 0, 0), (45, 3, 60, 10, 0, 1377, 0, 0, 0, 0), (6, 1, 0, 0, 0, 0, 0, 0, 0, 0), (42, 3, 60, 10, 0, 1377, 0, 0, 0, 0),
  (22, 3, 25, 0, 5, 0, 0, 0, 0, 0), (0, 1, 0, 0, 0, 0, 0, 0, (-1), 0), (27, 1, 0, 0, 0, 0, 0, 0, 0, 0)]
def q305_25 : List XO := [(4, 2, 4, 0, 0, 0, 0, 0, 0, 0), (17, 1, 0, 0, 0, 0, 0, 0, 0, 0), (1, 1, 0, 0, 0, 0, 0, 0, 0, 0), (6, 1, 0, 0, 0, 0, 0, 0, 0, 0), (4, 1, 1, 0, 0, 0, 0, 0, 0, 0), (4, 1, 2, 0, 0, 0, 0, 0, 0, 0),
  (4, 1, 3, 0, 0, 0, 0, 0, 0, 0), (48, 3, 400, 294, 0, 1918, 4, 10, 0, 0), (0, 1, 0, 0, 0, 0, 0, 0, 1, 0), (11, 1, 0, 0, 1, 0, 0, 0, 0, 0), (17, 1, 0, 0, 0, 0, 0, 0, 0, 0), (48, 3, 92, 221, 1, 1620, 3, 10, 0, 0),
  (22, 3, 52, 0, 1, 0, 0, 0, 0, 0), (6, 1, 0, 0, 0, 0, 0, 0, 0, 0), (0, 2, 0, 0, 1, 0, 0, 0, 8, 0), (48, 3, 319, 261, 0, 1780, 2, 10, 0, 0), (27, 1, 0, 0, 0, 0, 0, 0, 0, 0)]
def q305_52 : List XO := [(4, 1, 2, 0, 0, 0, 0, 0, 0, 0), (7, 2, 5, 0, 0, 0, 0, 0, 0, 0), (0, 1, 0, 0, 0, 0, 0, 0, 0, 0), (7, 2, 6, 0, 0, 0, 0, 0, 0, 0), (24, 0, 58, 0, 1, 0, 0, 0, 0, 0)]
def q305_58 : List XO := [(4, 2, 6, 0, 0, 0, 0, 0, 0, 0), (4, 2, 4, 0, 0, 0, 0, 0, 0, 0), (23, 3, 79, 0, 3, 0, 0, 0, 0, 0), (6, 1, 0, 0, 0, 0, 0, 0, 0, 0), (4, 2, 5, 0, 0, 0, 0, 0, 0, 0), (48, 3, 388, 301, 0, 1945, 2, 10, 0, 0),
  (7, 2, 5, 0, 0, 0, 0, 0, 0, 0), (10, 3, 6, 0, 0, 0, 0, 0, 1, 0), (24, 3, 58, 0, 0, 0, 0, 0, 0, 0)]
def q305_79 : List XO := [(4, 2, 5, 0, 0, 0, 0, 0, 0, 0), (27, 1, 0, 0, 0, 0, 0, 0, 0, 0)]
def xt305 : List (Nat × List XO) := [(0, q305_0), (25, q305_25), (52, q305_52), (58, q305_58), (79, q305_79)]
def q306_0 : List XO := [(6, 1, 0, 0, 0, 0, 0, 0, 0, 0), (0, 1, 0, 0, 0, 0, 0, 0, 0, 0), (45, 3, 57, 10, 1, 1378, 0, 0, 0, 0), (6, 1, 0, 0, 0, 0, 0, 0, 0, 0), (6, 1, 0, 0, 0, 0, 0, 0, 0, 0), (4, 1, 1, 0, 0, 0, 0, 0, 0, 0),
  (4, 1, 2, 0, 0, 0, 0, 0, 0, 0), (4, 1, 3, 0, 0, 0, 0, 0, 0, 0), (4, 2, 4, 0, 0, 0, 0, 0, 0, 0), (48, 3, 406, 289, 0, 1897, 5, 10, 0, 0), (45, 3, 60, 10, 0, 1377, 0, 0, 0, 0), (6, 1, 0, 0, 0, 0, 0, 0, 0, 0),
  (42, 3, 60, 10, 0, 1377, 0, 0, 0, 0), (22, 3, 27, 0, 5, 0, 0, 0, 0, 0), (0, 1, 0, 0, 0, 0, 0, 0, (-1), 0), (27, 1, 0, 0, 0, 0, 0, 0, 0, 0)]
def q306_27 : List XO := [(6, 1, 0, 0, 0, 0, 0, 0, 0, 0), (4, 1, 1, 0, 0, 0, 0, 0, 0, 0), (4, 1, 2, 0, 0, 0, 0, 0, 0, 0), (4, 1, 3, 0, 0, 0, 0, 0, 0, 0), (48, 3, 400, 294, 0, 1918, 4, 10, 0, 0), (22, 3, 41, 0, 3, 0, 0, 0, 0, 0),
  (0, 1, 0, 0, 0, 0, 0, 0, (-1), 0), (24, 3, 48, 0, 0, 0, 0, 0, 0, 0)]
def q306_41 : List XO := [(6, 1, 0, 0, 0, 0, 0, 0, 0, 0), (4, 1, 2, 0, 0, 0, 0, 0, 0, 0), (4, 2, 4, 0, 0, 0, 0, 0, 0, 0), (48, 3, 403, 299, 0, 1937, 3, 10, 0, 0), (24, 0, 48, 0, 1, 0, 0, 0, 0, 0)]
def q306_48 : List XO := [(7, 2, 5, 0, 0, 0, 0, 0, 0, 0), (4, 2, 5, 0, 0, 0, 0, 0, 0, 0), (22, 3, 64, 0, 3, 0, 0, 0, 0, 0), (6, 1, 0, 0, 0, 0, 0, 0, 0, 0), (0, 2, 0, 0, 1, 0, 0, 0, 8, 0), (48, 3, 319, 261, 0, 1780, 2, 10, 0, 0),
  (24, 3, 66, 0, 0, 0, 0, 0, 0, 0)]
def q306_64 : List XO := [(4, 2, 5, 0, 0, 0, 0, 0, 0, 0), (24, 0, 66, 0, 1, 0, 0, 0, 0, 0)]
def q306_66 : List XO := [(27, 1, 0, 0, 0, 0, 0, 0, 0, 0)]
def xt306 : List (Nat × List XO) := [(0, q306_0), (27, q306_27), (41, q306_41), (48, q306_48), (64, q306_64), (66, q306_66)]
def q307_0 : List XO := [(6, 1, 0, 0, 0, 0, 0, 0, 0, 0), (0, 1, 0, 0, 0, 0, 0, 0, 0, 0), (45, 3, 57, 10, 1, 1378, 0, 0, 0, 0), (6, 1, 0, 0, 0, 0, 0, 0, 0, 0), (6, 1, 0, 0, 0, 0, 0, 0, 0, 0), (0, 1, 0, 0, 0, 0, 0, 0, 0, 0),
  (4, 1, 1, 0, 0, 0, 0, 0, 0, 0), (4, 1, 2, 0, 0, 0, 0, 0, 0, 0), (4, 1, 3, 0, 0, 0, 0, 0, 0, 0), (48, 3, 406, 289, 0, 1897, 5, 10, 0, 0), (45, 3, 60, 10, 0, 1377, 0, 0, 0, 0), (6, 1, 0, 0, 0, 0, 0, 0, 0, 0),
  (42, 3, 60, 10, 0, 1377, 0, 0, 0, 0), (22, 3, 26, 0, 5, 0, 0, 0, 0, 0), (0, 1, 0, 0, 0, 0, 0, 0, (-1), 0), (27, 1, 0, 0, 0, 0, 0, 0, 0, 0)]
def q307_26 : List XO := [(6, 1, 0, 0, 0, 0, 0, 0, 0, 0), (4, 1, 1, 0, 0, 0, 0, 0, 0, 0), (4, 1, 2, 0, 0, 0, 0, 0, 0, 0), (4, 1, 3, 0, 0, 0, 0, 0, 0, 0), (48, 3, 417, 308, 0, 1973, 4, 10, 0, 0), (7, 2, 4, 0, 0, 0, 0, 0, 0, 0),
  (4, 2, 4, 0, 0, 0, 0, 0, 0, 0), (22, 3, 49, 0, 3, 0, 0, 0, 0, 0), (6, 1, 0, 0, 0, 0, 0, 0, 0, 0), (0, 2, 0, 0, 1, 0, 0, 0, 8, 0), (48, 3, 319, 261, 0, 1780, 2, 10, 0, 0), (24, 3, 54, 0, 0, 0, 0, 0, 0, 0)]
def q307_49 : List XO := [(4, 2, 4, 0, 0, 0, 0, 0, 0, 0), (48, 3, 366, 282, 1, 1869, 1, 10, 0, 0), (24, 0, 54, 0, 1, 0, 0, 0, 0, 0)]
def q307_54 : List XO := [(27, 1, 0, 0, 0, 0, 0, 0, 0, 0)]
def xt307 : List (Nat × List XO) := [(0, q307_0), (26, q307_26), (49, q307_49), (54, q307_54)]
def q308_0 : List XO := [(0, 1, 0, 0, 0, 0, 0, 0, (-1), 0), (7, 2, 4, 0, 0, 0, 0, 0, 0, 0), (0, 1, 0, 0, 0, 0, 0, 0, 0, 0), (7, 2, 5, 0, 0, 0, 0, 0, 0, 0), (24, 0, 6, 0, 1, 0, 0, 0, 0, 0)]
def q308_6 : List XO := [(4, 2, 5, 0, 0, 0, 0, 0, 0, 0), (6, 1, 0, 0, 0, 0, 0, 0, 0, 0), (48, 3, 314, 292, 0, 1909, 1, 10, 0, 0), (23, 3, 55, 0, 4, 0, 0, 0, 0, 0), (4, 2, 4, 0, 0, 0, 0, 0, 0, 0), (22, 3, 33, 0, 2, 0, 0, 0, 0, 0),
  (4, 2, 5, 0, 0, 0, 0, 0, 0, 0), (48, 3, 366, 282, 1, 1869, 1, 10, 0, 0), (4, 2, 4, 0, 0, 0, 0, 0, 0, 0), (48, 3, 366, 282, 1, 1869, 1, 10, 0, 0), (23, 3, 49, 0, 3, 0, 0, 0, 0, 0), (24, 0, 33, 0, 1, 0, 0, 0, 0, 0)]
def q308_33 : List XO := [(6, 1, 0, 0, 0, 0, 0, 0, 0, 0), (4, 2, 5, 0, 0, 0, 0, 0, 0, 0), (4, 1, 1, 0, 0, 0, 0, 0, 0, 0), (4, 1, 2, 0, 0, 0, 0, 0, 0, 0), (4, 1, 3, 0, 0, 0, 0, 0, 0, 0), (48, 3, 413, 309, 0, 1977, 5, 10, 0, 0),
  (22, 3, 49, 0, 0, 0, 0, 0, 0, 0), (4, 2, 5, 0, 0, 0, 0, 0, 0, 0), (7, 2, 4, 0, 0, 0, 0, 0, 0, 0), (24, 0, 49, 0, 1, 0, 0, 0, 0, 0)]
def q308_49 : List XO := [(10, 3, 5, 0, 0, 0, 0, 0, 1, 0), (24, 3, 6, 0, 0, 0, 0, 0, 0, 0)]
def q308_55 : List XO := [(4, 2, 4, 0, 0, 0, 0, 0, 0, 0), (27, 1, 0, 0, 0, 0, 0, 0, 0, 0)]
def xt308 : List (Nat × List XO) := [(0, q308_0), (6, q308_6), (33, q308_33), (49, q308_49), (55, q308_55)]
def q309_0 : List XO := [(6, 1, 0, 0, 0, 0, 0, 0, 0, 0), (4, 1, 1, 0, 0, 0, 0, 0, 0, 0), (4, 1, 2, 0, 0, 0, 0, 0, 0, 0), (4, 1, 3, 0, 0, 0, 0, 0, 0, 0), (48, 3, 400, 294, 0, 1918, 4, 10, 0, 0), (22, 3, 24, 0, 5, 0, 0, 0, 0, 0),
  (6, 1, 0, 0, 0, 0, 0, 0, 0, 0), (4, 1, 2, 0, 0, 0, 0, 0, 0, 0), (4, 2, 4, 0, 0, 0, 0, 0, 0, 0), (48, 3, 403, 299, 0, 1937, 3, 10, 0, 0), (22, 3, 24, 0, 3, 0, 0, 0, 0, 0), (0, 1, 0, 0, 0, 0, 0, 0, 1, 0),
  (24, 3, 25, 0, 0, 0, 0, 0, 0, 0)]
def q309_24 : List XO := [(0, 1, 0, 0, 0, 0, 0, 0, 0, 0), (24, 0, 25, 0, 1, 0, 0, 0, 0, 0)]
def q309_25 : List XO := [(27, 1, 0, 0, 1, 0, 0, 0, 0, 0)]
def xt309 : List (Nat × List XO) := [(0, q309_0), (24, q309_24), (25, q309_25)]
def q310_0 : List XO := [(6, 1, 0, 0, 0, 0, 0, 0, 0, 0), (0, 1, 0, 0, 0, 0, 0, 0, 0, 0), (45, 3, 57, 10, 1, 1378, 0, 0, 0, 0), (6, 1, 0, 0, 0, 0, 0, 0, 0, 0), (6, 1, 0, 0, 0, 0, 0, 0, 0, 0), (0, 1, 0, 0, 0, 0, 0, 0, 0, 0),
  (4, 1, 1, 0, 0, 0, 0, 0, 0, 0), (4, 1, 2, 0, 0, 0, 0, 0, 0, 0), (4, 1, 3, 0, 0, 0, 0, 0, 0, 0), (48, 3, 406, 289, 0, 1897, 5, 10, 0, 0), (45, 3, 60, 10, 0, 1377, 0, 0, 0, 0), (6, 1, 0, 0, 0, 0, 0, 0, 0, 0),
  (42, 3, 60, 10, 0, 1377, 0, 0, 0, 0), (22, 3, 26, 0, 5, 0, 0, 0, 0, 0), (0, 1, 0, 0, 0, 0, 0, 0, (-1), 0), (27, 1, 0, 0, 0, 0, 0, 0, 0, 0)]
def q310_26 : List XO := [(6, 1, 0, 0, 0, 0, 0, 0, 0, 0), (4, 1, 1, 0, 0, 0, 0, 0, 0, 0), (4, 1, 2, 0, 0, 0, 0, 0, 0, 0), (4, 1, 3, 0, 0, 0, 0, 0, 0, 0), (48, 3, 417, 308, 0, 1973, 4, 10, 0, 0), (7, 2, 4, 0, 0, 0, 0, 0, 0, 0),
  (4, 2, 4, 0, 0, 0, 0, 0, 0, 0), (22, 3, 49, 0, 3, 0, 0, 0, 0, 0), (6, 1, 0, 0, 0, 0, 0, 0, 0, 0), (0, 2, 0, 0, 1, 0, 0, 0, 8, 0), (48, 3, 319, 261, 0, 1780, 2, 10, 0, 0), (24, 3, 51, 0, 0, 0, 0, 0, 0, 0)]
def q310_49 : List XO := [(4, 2, 4, 0, 0, 0, 0, 0, 0, 0), (24, 0, 51, 0, 1, 0, 0, 0, 0, 0)]
def q310_51 : List XO := [(27, 1, 0, 0, 0, 0, 0, 0, 0, 0)]
def xt310 : List (Nat × List XO) := [(0, q310_0), (26, q310_26), (49, q310_49), (51, q310_51)]
def q311_0 : List XO := [(6, 1, 0, 0, 0, 0, 0, 0, 0, 0), (0, 1, 0, 0, 0, 0, 0, 0, 0, 0), (45, 3, 57, 10, 1, 1378, 0, 0, 0, 0), (6, 1, 0, 0, 0, 0, 0, 0, 0, 0), (6, 1, 0, 0, 0, 0, 0, 0, 0, 0), (4, 1, 1, 0, 0, 0, 0, 0, 0, 0),
  (4, 1, 2, 0, 0, 0, 0, 0, 0, 0), (4, 1, 3, 0, 0, 0, 0, 0, 0, 0), (48, 3, 394, 290, 0, 1901, 4, 10, 0, 0), (45, 3, 60, 10, 0, 1377, 0, 0, 0, 0), (6, 1, 0, 0, 0, 0, 0, 0, 0, 0), (42, 3, 60, 10, 0, 1377, 0, 0, 0, 0),
  (22, 3, 25, 0, 5, 0, 0, 0, 0, 0), (0, 1, 0, 0, 0, 0, 0, 0, (-1), 0), (27, 1, 0, 0, 0, 0, 0, 0, 0, 0)]
def q311_25 : List XO := [(0, 2, 0, 0, 1, 0, 0, 0, 10, 0), (7, 2, 4, 0, 0, 0, 0, 0, 0, 0), (24, 0, 29, 0, 1, 0, 0, 0, 0, 0)]
def q311_29 : List XO := [(4, 2, 4, 0, 0, 0, 0, 0, 0, 0), (22, 3, 55, 0, 5, 0, 0, 0, 0, 0), (6, 1, 0, 0, 0, 0, 0, 0, 0, 0), (4, 1, 1, 0, 0, 0, 0, 0, 0, 0), (4, 1, 2, 0, 0, 0, 0, 0, 0, 0), (4, 1, 3, 0, 0, 0, 0, 0, 0, 0),
  (4, 2, 4, 0, 0, 0, 0, 0, 0, 0), (48, 3, 413, 309, 0, 1977, 5, 10, 0, 0), (22, 3, 49, 0, 0, 0, 0, 0, 0, 0), (4, 2, 4, 0, 0, 0, 0, 0, 0, 0), (27, 1, 0, 0, 0, 0, 0, 0, 0, 0)]
def q311_49 : List XO := [(10, 3, 4, 0, 0, 0, 0, 0, (-1), 0), (24, 3, 29, 0, 0, 0, 0, 0, 0, 0)]
def q311_55 : List XO := [(6, 1, 0, 0, 0, 0, 0, 0, 0, 0), (0, 2, 0, 0, 1, 0, 0, 0, 8, 0), (48, 3, 319, 261, 0, 1780, 2, 10, 0, 0), (27, 1, 0, 0, 0, 0, 0, 0, 0, 0)]
def xt311 : List (Nat × List XO) := [(0, q311_0), (25, q311_25), (29, q311_29), (49, q311_49), (55, q311_55)]
def q312_0 : List XO := [(6, 1, 0, 0, 0, 0, 0, 0, 0, 0), (0, 1, 0, 0, 0, 0, 0, 0, 0, 0), (45, 3, 57, 10, 1, 1378, 0, 0, 0, 0), (6, 1, 0, 0, 0, 0, 0, 0, 0, 0), (0, 1, 0, 0, 0, 0, 0, 0, 0, 0), (45, 3, 60, 10, 0, 1377, 0, 0, 0, 0),
  (6, 1, 0, 0, 0, 0, 0, 0, 0, 0), (4, 1, 1, 0, 0, 0, 0, 0, 0, 0), (48, 3, 334, 269, 0, 1812, 2, 10, 0, 0), (22, 3, 24, 0, 1, 0, 0, 0, 0, 0), (6, 1, 0, 0, 0, 0, 0, 0, 0, 0), (0, 1, 0, 0, 0, 0, 0, 0, 2, 0),
  (48, 3, 319, 261, 0, 1780, 2, 10, 0, 0), (27, 1, 0, 0, 0, 0, 0, 0, 0, 0)]
def q312_24 : List XO := [(0, 1, 0, 0, 0, 0, 0, 0, 0, 0), (7, 1, 2, 0, 0, 0, 0, 0, 0, 0), (0, 1, 0, 0, 0, 0, 0, 0, 0, 0), (7, 1, 3, 0, 0, 0, 0, 0, 0, 0), (24, 0, 28, 0, 1, 0, 0, 0, 0, 0)]
def q312_28 : List XO := [(4, 1, 3, 0, 0, 0, 0, 0, 0, 0), (6, 1, 0, 0, 0, 0, 0, 0, 0, 0), (44, 3, 35, 10, 20, 1397, 0, 0, 0, 0), (0, 1, 0, 0, 0, 0, 0, 0, 2, 0), (33, 1, 0, 0, 0, 0, 0, 0, 0, 0), (23, 3, 82, 0, 3, 0, 0, 0, 0, 0),
  (6, 1, 0, 0, 0, 0, 0, 0, 0, 0), (0, 1, 0, 0, 0, 0, 0, 0, 0, 0), (4, 1, 1, 0, 0, 0, 0, 0, 0, 0), (6, 1, 0, 0, 0, 0, 0, 0, 0, 0), (44, 3, 35, 10, 20, 1397, 0, 0, 0, 0), (0, 2, 0, 0, 1, 0, 0, 0, 7, 0),
  (4, 1, 3, 0, 0, 0, 0, 0, 0, 0), (11, 1, 0, 0, 0, 0, 0, 0, 0, 0), (33, 1, 0, 0, 0, 0, 0, 0, 0, 0), (48, 3, 245, 249, 0, 1731, 4, 10, 0, 0), (22, 3, 74, 0, 0, 0, 0, 0, 0, 0), (4, 1, 2, 0, 0, 0, 0, 0, 0, 0),
  (6, 1, 0, 0, 0, 0, 0, 0, 0, 0), (44, 3, 35, 10, 20, 1397, 0, 0, 0, 0), (0, 2, 0, 0, 1, 0, 0, 0, 22, 0), (4, 1, 3, 0, 0, 0, 0, 0, 0, 0), (11, 1, 0, 0, 0, 0, 0, 0, 0, 0), (33, 1, 0, 0, 0, 0, 0, 0, 0, 0),
  (0, 1, 0, 0, 0, 0, 0, 0, 1, 0), (11, 1, 0, 0, 0, 0, 0, 0, 0, 0), (48, 3, 293, 35, 1, 1770, 2, 99, 0, 0), (24, 3, 75, 0, 0, 0, 0, 0, 0, 0)]
def q312_74 : List XO := [(4, 1, 2, 0, 0, 0, 0, 0, 0, 0), (24, 0, 75, 0, 1, 0, 0, 0, 0, 0)]
def q312_75 : List XO := [(7, 1, 2, 0, 0, 0, 0, 0, 0, 0), (10, 3, 3, 0, 0, 0, 0, 0, 1, 0), (24, 3, 28, 0, 0, 0, 0, 0, 0, 0)]
def q312_82 : List XO := [(4, 1, 2, 0, 0, 0, 0, 0, 0, 0), (0, 2, 0, 0, 1, 0, 0, 0, 9, 0), (23, 3, 97, 0, 5, 0, 0, 0, 0, 0), (6, 1, 0, 0, 0, 0, 0, 0, 0, 0), (0, 2, 0, 0, 1, 0, 0, 0, 9, 0), (48, 3, 319, 261, 0, 1780, 2, 10, 0, 0),
  (24, 3, 112, 0, 0, 0, 0, 0, 0, 0)]
def q312_97 : List XO := [(0, 1, 0, 0, 0, 0, 0, 0, 0, 0), (4, 1, 2, 0, 0, 0, 0, 0, 0, 0), (6, 1, 0, 0, 0, 0, 0, 0, 0, 0), (44, 3, 35, 10, 20, 1397, 0, 0, 0, 0), (0, 2, 0, 0, 1, 0, 0, 0, 55, 0), (4, 1, 1, 0, 0, 0, 0, 0, 0, 0),
  (11, 1, 0, 0, 0, 0, 0, 0, 0, 0), (33, 1, 0, 0, 0, 0, 0, 0, 0, 0), (11, 1, 0, 0, 1, 0, 0, 0, 0, 0), (48, 3, 293, 35, 1, 1770, 2, 99, 0, 0), (24, 0, 112, 0, 1, 0, 0, 0, 0, 0)]
def q312_112 : List XO := [(27, 1, 0, 0, 0, 0, 0, 0, 0, 0)]
def xt312 : List (Nat × List XO) := [(0, q312_0), (24, q312_24), (28, q312_28), (74, q312_74), (75, q312_75), (82, q312_82), (97, q312_97), (112, q312_112)]
def q313_0 : List XO := [(6, 1, 0, 0, 0, 0, 0, 0, 0, 0), (0, 1, 0, 0, 0, 0, 0, 0, 0, 0), (45, 3, 57, 10, 1, 1378, 0, 0, 0, 0), (6, 1, 0, 0, 0, 0, 0, 0, 0, 0), (0, 1, 0, 0, 0, 0, 0, 0, 0, 0), (45, 3, 60, 10, 0, 1377, 0, 0, 0, 0),
  (6, 1, 0, 0, 0, 0, 0, 0, 0, 0), (4, 1, 1, 0, 0, 0, 0, 0, 0, 0), (48, 3, 334, 269, 0, 1812, 2, 10, 0, 0), (22, 3, 40, 0, 0, 0, 0, 0, 0, 0), (6, 1, 0, 0, 0, 0, 0, 0, 0, 0), (44, 3, 35, 10, 20, 1397, 0, 0, 0, 0),
  (0, 2, 0, 0, 1, 0, 0, 0, 67, 0), (4, 1, 1, 0, 0, 0, 0, 0, 0, 0), (11, 1, 0, 0, 0, 0, 0, 0, 0, 0), (33, 1, 0, 0, 0, 0, 0, 0, 0, 0), (6, 1, 0, 0, 0, 0, 0, 0, 0, 0), (48, 3, 325, 263, 0, 1788, 1, 10, 0, 0),
  (0, 1, 0, 0, 0, 0, 0, 0, (-1), 0), (11, 1, 0, 0, 5, 0, 0, 0, 0, 0), (11, 1, 0, 0, 3, 0, 0, 0, 0, 0), (48, 3, 366, 282, 1, 1869, 1, 10, 0, 0), (24, 3, 45, 0, 0, 0, 0, 0, 0, 0)]
def q313_40 : List XO := [(6, 1, 0, 0, 0, 0, 0, 0, 0, 0), (0, 1, 0, 0, 0, 0, 0, 0, 2, 0), (48, 3, 319, 261, 0, 1780, 2, 10, 0, 0), (24, 0, 45, 0, 1, 0, 0, 0, 0, 0)]
def q313_45 : List XO := [(27, 1, 0, 0, 0, 0, 0, 0, 0, 0)]
def xt313 : List (Nat × List XO) := [(0, q313_0), (40, q313_40), (45, q313_45)]
def q314_0 : List XO := [(6, 1, 0, 0, 0, 0, 0, 0, 0, 0), (0, 1, 0, 0, 0, 0, 0, 0, 0, 0), (45, 3, 57, 10, 1, 1378, 0, 0, 0, 0), (6, 1, 0, 0, 0, 0, 0, 0, 0, 0), (6, 1, 0, 0, 0, 0, 0, 0, 0, 0), (4, 1, 1, 0, 0, 0, 0, 0, 0, 0),
  (4, 1, 2, 0, 0, 0, 0, 0, 0, 0), (48, 3, 420, 315, 0, 2001, 3, 10, 0, 0), (45, 3, 60, 10, 0, 1377, 0, 0, 0, 0), (6, 1, 0, 0, 0, 0, 0, 0, 0, 0), (42, 3, 60, 10, 0, 1377, 0, 0, 0, 0), (22, 3, 26, 0, 5, 0, 0, 0, 0, 0),
  (0, 1, 0, 0, 0, 0, 0, 0, (-1), 0), (24, 3, 49, 0, 0, 0, 0, 0, 0, 0)]
def q314_26 : List XO := [(6, 1, 0, 0, 0, 0, 0, 0, 0, 0), (4, 1, 1, 0, 0, 0, 0, 0, 0, 0), (48, 3, 342, 272, 0, 1825, 2, 10, 0, 0), (6, 1, 0, 0, 0, 0, 0, 0, 0, 0), (4, 1, 2, 0, 0, 0, 0, 0, 0, 0), (48, 3, 342, 272, 0, 1825, 2, 10, 0, 0),
  (11, 1, 0, 0, 5, 0, 0, 0, 0, 0), (6, 1, 0, 0, 0, 0, 0, 0, 0, 0), (4, 1, 1, 0, 0, 0, 0, 0, 0, 0), (48, 3, 339, 270, 0, 1817, 2, 10, 0, 0), (11, 1, 0, 0, 3, 0, 0, 0, 0, 0), (6, 1, 0, 0, 0, 0, 0, 0, 0, 0),
  (4, 1, 2, 0, 0, 0, 0, 0, 0, 0), (48, 3, 339, 270, 0, 1817, 2, 10, 0, 0), (11, 1, 0, 0, 3, 0, 0, 0, 0, 0), (24, 0, 49, 0, 1, 0, 0, 0, 0, 0)]
def q314_49 : List XO := [(27, 1, 0, 0, 0, 0, 0, 0, 0, 0)]
def xt314 : List (Nat × List XO) := [(0, q314_0), (26, q314_26), (49, q314_49)]
def q315_0 : List XO := [(6, 1, 0, 0, 0, 0, 0, 0, 0, 0), (4, 1, 1, 0, 0, 0, 0, 0, 0, 0), (48, 3, 334, 269, 0, 1812, 2, 10, 0, 0), (22, 3, 16, 0, 0, 0, 0, 0, 0, 0), (6, 1, 0, 0, 0, 0, 0, 0, 0, 0), (4, 1, 2, 0, 0, 0, 0, 0, 0, 0),
  (48, 3, 334, 269, 0, 1812, 2, 10, 0, 0), (22, 3, 20, 0, 1, 0, 0, 0, 0, 0), (24, 0, 16, 0, 1, 0, 0, 0, 0, 0)]
def q315_16 : List XO := [(0, 1, 0, 0, 0, 0, 0, 0, 2, 0), (24, 3, 30, 0, 0, 0, 0, 0, 0, 0)]
def q315_20 : List XO := [(4, 1, 1, 0, 0, 0, 0, 0, 0, 0), (4, 1, 2, 0, 0, 0, 0, 0, 0, 0), (23, 3, 29, 0, 1, 0, 0, 0, 0, 0), (0, 1, 0, 0, 0, 0, 0, 0, 5, 0), (24, 3, 30, 0, 0, 0, 0, 0, 0, 0)]
def q315_29 : List XO := [(0, 1, 0, 0, 0, 0, 0, 0, 0, 0), (24, 0, 30, 0, 1, 0, 0, 0, 0, 0)]
def q315_30 : List XO := [(27, 1, 0, 0, 0, 0, 0, 0, 0, 0)]
def xt315 : List (Nat × List XO) := [(0, q315_0), (16, q315_16), (20, q315_20), (29, q315_29), (30, q315_30)]
def q316_0 : List XO := [(6, 1, 0, 0, 0, 0, 0, 0, 0, 0), (0, 1, 0, 0, 0, 0, 0, 0, 0, 0), (45, 3, 57, 10, 1, 1378, 0, 0, 0, 0), (6, 1, 0, 0, 0, 0, 0, 0, 0, 0), (0, 1, 0, 0, 0, 0, 0, 0, 0, 0), (45, 3, 60, 10, 0, 1377, 0, 0, 0, 0),
  (6, 1, 0, 0, 0, 0, 0, 0, 0, 0), (48, 3, 423, 317, 0, 2009, 1, 10, 0, 0), (7, 1, 1, 0, 0, 0, 0, 0, 0, 0), (4, 1, 1, 0, 0, 0, 0, 0, 0, 0), (22, 3, 28, 0, 3, 0, 0, 0, 0, 0), (6, 1, 0, 0, 0, 0, 0, 0, 0, 0),
  (0, 2, 0, 0, 1, 0, 0, 0, 8, 0), (48, 3, 319, 261, 0, 1780, 2, 10, 0, 0), (24, 3, 32, 0, 0, 0, 0, 0, 0, 0)]
def q316_28 : List XO := [(4, 1, 1, 0, 0, 0, 0, 0, 0, 0), (48, 3, 366, 282, 1, 1869, 1, 10, 0, 0), (24, 0, 32, 0, 1, 0, 0, 0, 0, 0)]
def q316_32 : List XO := [(27, 1, 0, 0, 0, 0, 0, 0, 0, 0)]
def xt316 : List (Nat × List XO) := [(0, q316_0), (28, q316_28), (32, q316_32)]
def q317_0 : List XO := [(0, 1, 0, 0, 0, 0, 0, 0, (-1), 0), (7, 1, 1, 0, 0, 0, 0, 0, 0, 0), (0, 1, 0, 0, 0, 0, 0, 0, 0, 0), (7, 1, 2, 0, 0, 0, 0, 0, 0, 0), (24, 0, 4, 0, 1, 0, 0, 0, 0, 0)]
def q317_4 : List XO := [(4, 1, 2, 0, 0, 0, 0, 0, 0, 0), (6, 1, 0, 0, 0, 0, 0, 0, 0, 0), (48, 3, 314, 292, 0, 1909, 1, 10, 0, 0), (23, 3, 93, 0, 4, 0, 0, 0, 0, 0), (4, 1, 1, 0, 0, 0, 0, 0, 0, 0), (22, 3, 30, 0, 2, 0, 0, 0, 0, 0),
  (4, 1, 2, 0, 0, 0, 0, 0, 0, 0), (48, 3, 366, 282, 1, 1869, 1, 10, 0, 0), (4, 1, 1, 0, 0, 0, 0, 0, 0, 0), (48, 3, 366, 282, 1, 1869, 1, 10, 0, 0), (23, 3, 30, 0, 2, 0, 0, 0, 0, 0), (24, 3, 87, 0, 0, 0, 0, 0, 0, 0)]
def q317_30 : List XO := [(0, 1, 0, 0, 0, 0, 0, 0, 0, 0), (7, 1, 3, 0, 0, 0, 0, 0, 0, 0), (0, 1, 0, 0, 0, 0, 0, 0, 0, 0), (7, 2, 4, 0, 0, 0, 0, 0, 0, 0), (24, 0, 35, 0, 1, 0, 0, 0, 0, 0)]
def q317_35 : List XO := [(4, 2, 4, 0, 0, 0, 0, 0, 0, 0), (6, 1, 0, 0, 0, 0, 0, 0, 0, 0), (44, 3, 35, 10, 20, 1397, 0, 0, 0, 0), (0, 1, 0, 0, 0, 0, 0, 0, 3, 0), (33, 1, 0, 0, 0, 0, 0, 0, 0, 0), (23, 3, 74, 0, 3, 0, 0, 0, 0, 0),
  (4, 1, 3, 0, 0, 0, 0, 0, 0, 0), (4, 1, 2, 0, 0, 0, 0, 0, 0, 0), (4, 2, 4, 0, 0, 0, 0, 0, 0, 0), (48, 3, 96, 250, 1, 1735, 2, 10, 0, 0), (22, 3, 65, 0, 0, 0, 0, 0, 0, 0), (6, 1, 0, 0, 0, 0, 0, 0, 0, 0),
  (4, 2, 4, 0, 0, 0, 0, 0, 0, 0), (48, 3, 339, 270, 0, 1817, 2, 10, 0, 0), (24, 3, 66, 0, 0, 0, 0, 0, 0, 0)]
def q317_65 : List XO := [(0, 1, 0, 0, 0, 0, 0, 0, 0, 0), (24, 0, 66, 0, 1, 0, 0, 0, 0, 0)]
def q317_66 : List XO := [(11, 1, 0, 0, 4, 0, 0, 0, 0, 0), (7, 1, 3, 0, 0, 0, 0, 0, 0, 0), (10, 3, 4, 0, 0, 0, 0, 0, 1, 0), (24, 3, 35, 0, 0, 0, 0, 0, 0, 0)]
def q317_74 : List XO := [(6, 1, 0, 0, 0, 0, 0, 0, 0, 0), (48, 3, 325, 263, 0, 1788, 1, 10, 0, 0), (4, 1, 3, 0, 0, 0, 0, 0, 0, 0), (0, 1, 0, 0, 0, 0, 0, 0, (-1), 0), (11, 1, 0, 0, 5, 0, 0, 0, 0, 0), (11, 1, 0, 0, 3, 0, 0, 0, 0, 0),
  (22, 3, 87, 0, 1, 0, 0, 0, 0, 0), (4, 1, 2, 0, 0, 0, 0, 0, 0, 0), (7, 1, 1, 0, 0, 0, 0, 0, 0, 0), (24, 0, 87, 0, 1, 0, 0, 0, 0, 0)]
def q317_87 : List XO := [(10, 3, 2, 0, 0, 0, 0, 0, 1, 0), (24, 3, 4, 0, 0, 0, 0, 0, 0, 0)]
def q317_93 : List XO := [(4, 1, 1, 0, 0, 0, 0, 0, 0, 0), (27, 1, 0, 0, 0, 0, 0, 0, 0, 0)]
def xt317 : List (Nat × List XO) := [(0, q317_0), (4, q317_4), (30, q317_30), (35, q317_35), (65, q317_65), (66, q317_66), (74, q317_74), (87, q317_87),
  (93, q317_93)]
def q318_0 : List XO := [(6, 1, 0, 0, 0, 0, 0, 0, 0, 0), (0, 1, 0, 0, 0, 0, 0, 0, 0, 0), (45, 3, 57, 10, 1, 1378, 0, 0, 0, 0), (6, 1, 0, 0, 0, 0, 0, 0, 0, 0), (0, 1, 0, 0, 0, 0, 0, 0, 0, 0), (45, 3, 60, 10, 0, 1377, 0, 0, 0, 0),
  (6, 1, 0, 0, 0, 0, 0, 0, 0, 0), (48, 3, 423, 317, 0, 2009, 1, 10, 0, 0), (7, 1, 1, 0, 0, 0, 0, 0, 0, 0), (4, 1, 1, 0, 0, 0, 0, 0, 0, 0), (22, 3, 28, 0, 3, 0, 0, 0, 0, 0), (6, 1, 0, 0, 0, 0, 0, 0, 0, 0),
  (0, 2, 0, 0, 1, 0, 0, 0, 8, 0), (48, 3, 319, 261, 0, 1780, 2, 10, 0, 0), (24, 3, 29, 0, 0, 0, 0, 0, 0, 0)]
def q318_28 : List XO := [(4, 1, 1, 0, 0, 0, 0, 0, 0, 0), (24, 0, 29, 0, 1, 0, 0, 0, 0, 0)]
def q318_29 : List XO := [(27, 1, 0, 0, 0, 0, 0, 0, 0, 0)]
def xt318 : List (Nat × List XO) := [(0, q318_0), (28, q318_28), (29, q318_29)]
def q319_0 : List XO := [(6, 1, 0, 0, 0, 0, 0, 0, 0, 0), (0, 1, 0, 0, 0, 0, 0, 0, 0, 0), (45, 3, 57, 10, 1, 1378, 0, 0, 0, 0), (6, 1, 0, 0, 0, 0, 0, 0, 0, 0), (6, 1, 0, 0, 0, 0, 0, 0, 0, 0), (4, 1, 1, 0, 0, 0, 0, 0, 0, 0),
  (4, 1, 2, 0, 0, 0, 0, 0, 0, 0), (4, 1, 3, 0, 0, 0, 0, 0, 0, 0), (4, 2, 4, 0, 0, 0, 0, 0, 0, 0), (48, 3, 443, 320, 0, 2021, 5, 10, 0, 0), (45, 3, 60, 10, 0, 1377, 0, 0, 0, 0), (6, 1, 0, 0, 0, 0, 0, 0, 0, 0),
  (42, 3, 60, 10, 0, 1377, 0, 0, 0, 0), (22, 3, 27, 0, 5, 0, 0, 0, 0, 0), (0, 1, 0, 0, 0, 0, 0, 0, (-1), 0), (27, 1, 0, 0, 0, 0, 0, 0, 0, 0)]
def q319_27 : List XO := [(6, 1, 0, 0, 0, 0, 0, 0, 0, 0), (6, 1, 0, 0, 0, 0, 0, 0, 0, 0), (4, 1, 1, 0, 0, 0, 0, 0, 0, 0), (4, 1, 2, 0, 0, 0, 0, 0, 0, 0), (48, 3, 446, 322, 0, 2031, 3, 10, 0, 0), (4, 1, 3, 0, 0, 0, 0, 0, 0, 0),
  (4, 2, 4, 0, 0, 0, 0, 0, 0, 0), (0, 2, 0, 0, 1, 0, 0, 0, 99, 0), (48, 3, 449, 323, 0, 2035, 5, 10, 0, 0), (21, 1, 0, 0, 0, 0, 0, 0, 0, 0), (6, 1, 0, 0, 0, 0, 0, 0, 0, 0), (42, 3, 440, 10, 28, 1405, 0, 0, 0, 0),
  (27, 1, 0, 0, 0, 0, 0, 0, 0, 0)]
def xt319 : List (Nat × List XO) := [(0, q319_0), (27, q319_27)]
def q320_0 : List XO := [(6, 1, 0, 0, 0, 0, 0, 0, 0, 0), (4, 1, 1, 0, 0, 0, 0, 0, 0, 0), (48, 3, 345, 274, 0, 1833, 2, 10, 0, 0), (22, 3, 10, 0, 1, 0, 0, 0, 0, 0), (0, 1, 0, 0, 0, 0, 0, 0, 1, 0), (27, 1, 0, 0, 0, 0, 0, 0, 0, 0)]
def q320_10 : List XO := [(6, 1, 0, 0, 0, 0, 0, 0, 0, 0), (44, 3, 17, 10, 5, 1382, 0, 0, 0, 0), (4, 1, 1, 0, 0, 0, 0, 0, 0, 0), (33, 1, 0, 0, 0, 0, 0, 0, 0, 0), (22, 3, 21, 0, 3, 0, 0, 0, 0, 0), (0, 1, 0, 0, 0, 0, 0, 0, 3, 0),
  (27, 1, 0, 0, 0, 0, 0, 0, 0, 0)]
def q320_21 : List XO := [(6, 1, 0, 0, 0, 0, 0, 0, 0, 0), (44, 3, 17, 10, 5, 1382, 0, 0, 0, 0), (4, 1, 1, 0, 0, 0, 0, 0, 0, 0), (33, 1, 0, 0, 0, 0, 0, 0, 0, 0), (4, 1, 2, 0, 0, 0, 0, 0, 0, 0), (23, 3, 33, 0, 3, 0, 0, 0, 0, 0),
  (0, 1, 0, 0, 0, 0, 0, 0, 4, 0), (27, 1, 0, 0, 0, 0, 0, 0, 0, 0)]
def q320_33 : List XO := [(4, 1, 2, 0, 0, 0, 0, 0, 0, 0), (17, 1, 0, 0, 0, 0, 0, 0, 0, 0), (1, 1, 0, 0, 0, 0, 0, 0, 0, 0), (1, 3, 426, 0, 1, 2025, 0, 0, 0, 20), (48, 3, 92, 221, 1, 1620, 3, 10, 0, 0), (22, 3, 70, 0, 0, 0, 0, 0, 0, 0),
  (4, 1, 3, 0, 0, 0, 0, 0, 0, 0), (17, 1, 0, 0, 0, 0, 0, 0, 0, 0), (1, 1, 0, 0, 0, 0, 0, 0, 0, 1), (1, 3, 337, 0, 1, 1816, 0, 0, 0, 6), (48, 3, 92, 221, 1, 1620, 3, 10, 0, 0), (22, 3, 70, 0, 0, 0, 0, 0, 0, 0),
  (4, 2, 4, 0, 0, 0, 0, 0, 0, 0), (17, 1, 0, 0, 0, 0, 0, 0, 0, 0), (1, 1, 0, 0, 0, 0, 0, 0, 0, 1), (1, 3, 428, 0, 1, 2026, 0, 0, 0, 5), (48, 3, 92, 221, 1, 1620, 3, 10, 0, 0), (22, 3, 72, 0, 1, 0, 0, 0, 0, 0),
  (24, 0, 70, 0, 1, 0, 0, 0, 0, 0)]
def q320_70 : List XO := [(0, 1, 0, 0, 0, 0, 0, 0, 5, 0), (27, 1, 0, 0, 0, 0, 0, 0, 0, 0)]
def q320_72 : List XO := [(0, 1, 0, 0, 0, 0, 0, 0, 0, 0), (7, 2, 5, 0, 0, 0, 0, 0, 0, 0), (24, 0, 75, 0, 1, 0, 0, 0, 0, 0)]
def q320_75 : List XO := [(4, 2, 5, 0, 0, 0, 0, 0, 0, 0), (4, 1, 2, 0, 0, 0, 0, 0, 0, 0), (23, 3, 110, 0, 3, 0, 0, 0, 0, 0), (6, 1, 0, 0, 0, 0, 0, 0, 0, 0), (4, 1, 1, 0, 0, 0, 0, 0, 0, 0), (4, 2, 5, 0, 0, 0, 0, 0, 0, 0),
  (48, 3, 430, 321, 0, 2027, 3, 10, 0, 0), (1, 1, 0, 0, 0, 0, 0, 0, 0, 0), (4, 1, 3, 0, 0, 0, 0, 0, 0, 0), (4, 2, 4, 0, 0, 0, 0, 0, 0, 0), (11, 1, 0, 0, 2, 0, 0, 0, 0, 0), (0, 1, 0, 0, 0, 0, 0, 0, 1, 0),
  (11, 1, 0, 0, 1, 0, 0, 0, 0, 0), (17, 1, 0, 0, 0, 0, 0, 0, 0, 0), (48, 3, 92, 221, 1, 1620, 3, 10, 0, 0), (22, 3, 104, 0, 1, 0, 0, 0, 0, 0), (0, 1, 0, 0, 0, 0, 0, 0, 5, 0), (27, 1, 0, 0, 0, 0, 0, 0, 0, 0)]
def q320_104 : List XO := [(10, 3, 5, 0, 0, 0, 0, 0, 1, 0), (24, 3, 75, 0, 0, 0, 0, 0, 0, 0)]
def q320_110 : List XO := [(0, 1, 0, 0, 0, 0, 0, 0, 0, 0), (27, 1, 0, 0, 0, 0, 0, 0, 0, 0)]
def xt320 : List (Nat × List XO) := [(0, q320_0), (10, q320_10), (21, q320_21), (33, q320_33), (70, q320_70), (72, q320_72), (75, q320_75), (104, q320_104),
  (110, q320_110)]
def q321_0 : List XO := [(6, 1, 0, 0, 0, 0, 0, 0, 0, 0), (44, 3, 20, 10, 6, 1383, 0, 0, 0, 0), (0, 2, 0, 0, 1, 0, 0, 0, 60, 0), (4, 1, 1, 0, 0, 0, 0, 0, 0, 0), (11, 1, 0, 0, 2, 0, 0, 0, 0, 0), (4, 1, 2, 0, 0, 0, 0, 0, 0, 0),
  (11, 1, 0, 0, 0, 0, 0, 0, 0, 0), (35, 1, 0, 0, 0, 0, 0, 0, 0, 0), (27, 1, 0, 0, 2, 0, 0, 0, 0, 0)]
def xt321 : List (Nat × List XO) := [(0, q321_0)]
def q322_0 : List XO := [(0, 1, 0, 0, 0, 0, 0, 0, 0, 0), (7, 1, 3, 0, 0, 0, 0, 0, 0, 0), (0, 1, 0, 0, 0, 0, 0, 0, 0, 0), (7, 2, 4, 0, 0, 0, 0, 0, 0, 0), (24, 0, 5, 0, 1, 0, 0, 0, 0, 0)]
def q322_5 : List XO := [(4, 2, 4, 0, 0, 0, 0, 0, 0, 0), (4, 1, 2, 0, 0, 0, 0, 0, 0, 0), (23, 3, 30, 0, 3, 0, 0, 0, 0, 0), (4, 1, 3, 0, 0, 0, 0, 0, 0, 0), (0, 1, 0, 0, 0, 0, 0, 0, 1, 0), (6, 1, 0, 0, 0, 0, 0, 0, 0, 0),
  (4, 1, 1, 0, 0, 0, 0, 0, 0, 0), (4, 2, 4, 0, 0, 0, 0, 0, 0, 0), (48, 3, 430, 321, 0, 2027, 3, 10, 0, 0), (17, 1, 0, 0, 1, 0, 0, 0, 0, 0), (11, 1, 0, 0, 6, 0, 0, 0, 0, 0), (11, 1, 0, 0, 4, 0, 0, 0, 0, 0),
  (7, 1, 3, 0, 0, 0, 0, 0, 0, 0), (10, 3, 4, 0, 0, 0, 0, 0, 1, 0), (24, 3, 5, 0, 0, 0, 0, 0, 0, 0)]
def q322_30 : List XO := [(4, 1, 3, 0, 0, 0, 0, 0, 0, 0), (27, 1, 0, 0, 0, 0, 0, 0, 0, 0)]
def xt322 : List (Nat × List XO) := [(0, q322_0), (5, q322_5), (30, q322_30)]
def q323_0 : List XO := [(0, 1, 0, 0, 0, 0, 0, 0, 0, 0), (7, 2, 5, 0, 0, 0, 0, 0, 0, 0), (0, 1, 0, 0, 0, 0, 0, 0, 0, 0), (7, 2, 6, 0, 0, 0, 0, 0, 0, 0), (24, 0, 6, 0, 1, 0, 0, 0, 0, 0)]
def q323_6 : List XO := [(4, 2, 6, 0, 0, 0, 0, 0, 0, 0), (6, 1, 0, 0, 0, 0, 0, 0, 0, 0), (48, 3, 299, 259, 0, 1771, 1, 10, 0, 0), (23, 3, 126, 0, 3, 0, 0, 0, 0, 0), (6, 1, 0, 0, 0, 0, 0, 0, 0, 0), (4, 2, 6, 0, 0, 0, 0, 0, 0, 0),
  (4, 1, 2, 0, 0, 0, 0, 0, 0, 0), (4, 1, 3, 0, 0, 0, 0, 0, 0, 0), (48, 3, 434, 324, 0, 2039, 4, 10, 0, 0), (7, 2, 7, 0, 0, 0, 0, 0, 0, 0), (0, 1, 0, 0, 0, 0, 0, 0, 0, 0), (7, 2, 8, 0, 0, 0, 0, 0, 0, 0),
  (24, 0, 28, 0, 1, 0, 0, 0, 0, 0)]
def q323_28 : List XO := [(4, 2, 8, 0, 0, 0, 0, 0, 0, 0), (4, 1, 2, 0, 0, 0, 0, 0, 0, 0), (4, 1, 3, 0, 0, 0, 0, 0, 0, 0), (11, 1, 0, 0, 2, 0, 0, 0, 0, 0), (23, 3, 90, 0, 3, 0, 0, 0, 0, 0), (4, 2, 7, 0, 0, 0, 0, 0, 0, 0),
  (22, 3, 90, 0, 0, 0, 0, 0, 0, 0), (4, 1, 1, 0, 0, 0, 0, 0, 0, 0), (4, 2, 8, 0, 0, 0, 0, 0, 0, 0), (48, 3, 96, 250, 1, 1735, 2, 10, 0, 0), (6, 1, 0, 0, 0, 0, 0, 0, 0, 0), (0, 1, 0, 0, 0, 0, 0, 0, 0, 0),
  (4, 2, 8, 0, 0, 0, 0, 0, 0, 0), (4, 1, 2, 0, 0, 0, 0, 0, 0, 0), (6, 1, 0, 0, 0, 0, 0, 0, 0, 0), (44, 3, 35, 10, 20, 1397, 0, 0, 0, 0), (0, 1, 0, 0, 0, 0, 0, 0, 0, 0), (33, 1, 0, 0, 0, 0, 0, 0, 0, 0),
  (4, 2, 6, 0, 0, 0, 0, 0, 0, 0), (48, 3, 437, 325, 1, 2043, 4, 10, 0, 0), (48, 3, 238, 229, 0, 1651, 3, 10, 0, 0), (22, 3, 73, 0, 2, 0, 0, 0, 0, 0), (0, 1, 0, 0, 0, 0, 0, 0, 1, 0), (24, 3, 74, 0, 0, 0, 0, 0, 0, 0)]
def q323_73 : List XO := [(0, 1, 0, 0, 0, 0, 0, 0, 0, 0), (24, 0, 74, 0, 1, 0, 0, 0, 0, 0)]
def q323_74 : List XO := [(23, 3, 81, 0, 1, 0, 0, 0, 0, 0), (0, 1, 0, 0, 0, 0, 0, 0, 1, 0), (24, 3, 82, 0, 0, 0, 0, 0, 0, 0)]
def q323_81 : List XO := [(0, 1, 0, 0, 0, 0, 0, 0, 0, 0), (24, 0, 82, 0, 1, 0, 0, 0, 0, 0)]
def q323_82 : List XO := [(7, 2, 7, 0, 0, 0, 0, 0, 0, 0), (10, 3, 8, 0, 0, 0, 0, 0, 1, 0), (24, 3, 28, 0, 0, 0, 0, 0, 0, 0)]
def q323_90 : List XO := [(4, 2, 7, 0, 0, 0, 0, 0, 0, 0), (22, 3, 105, 0, 0, 0, 0, 0, 0, 0), (4, 2, 5, 0, 0, 0, 0, 0, 0, 0), (4, 2, 4, 0, 0, 0, 0, 0, 0, 0), (23, 3, 105, 0, 1, 0, 0, 0, 0, 0), (4, 2, 6, 0, 0, 0, 0, 0, 0, 0),
  (27, 1, 0, 0, 0, 0, 0, 0, 0, 0)]
def q323_105 : List XO := [(4, 2, 5, 0, 0, 0, 0, 0, 0, 0), (4, 2, 7, 0, 0, 0, 0, 0, 0, 0), (22, 3, 116, 0, 0, 0, 0, 0, 0, 0), (0, 1, 0, 0, 0, 0, 0, 0, 1, 0), (24, 3, 117, 0, 0, 0, 0, 0, 0, 0)]
def q323_116 : List XO := [(0, 1, 0, 0, 0, 0, 0, 0, 0, 0), (24, 0, 117, 0, 1, 0, 0, 0, 0, 0)]
def q323_117 : List XO := [(11, 1, 0, 0, 0, 0, 0, 0, 0, 0), (7, 2, 5, 0, 0, 0, 0, 0, 0, 0), (10, 3, 6, 0, 0, 0, 0, 0, 1, 0), (24, 3, 6, 0, 0, 0, 0, 0, 0, 0)]
def q323_126 : List XO := [(6, 1, 0, 0, 0, 0, 0, 0, 0, 0), (4, 2, 5, 0, 0, 0, 0, 0, 0, 0), (45, 3, 440, 10, 28, 1405, 0, 0, 0, 0), (0, 1, 0, 0, 0, 0, 0, 0, (-1), 0), (27, 1, 0, 0, 0, 0, 0, 0, 0, 0)]
def xt323 : List (Nat × List XO) := [(0, q323_0), (6, q323_6), (28, q323_28), (73, q323_73), (74, q323_74), (81, q323_81), (82, q323_82), (90, q323_90),
  (105, q323_105), (116, q323_116), (117, q323_117), (126, q323_126)]
def q324_0 : List XO := [(4, 1, 1, 0, 0, 0, 0, 0, 0, 0), (6, 1, 0, 0, 0, 0, 0, 0, 0, 0), (44, 3, 35, 10, 20, 1397, 0, 0, 0, 0), (0, 1, 0, 0, 0, 0, 0, 0, 0, 0), (33, 1, 0, 0, 0, 0, 0, 0, 0, 0), (12, 1, 0, 0, 1, 0, 0, 0, 0, 0),
  (4, 1, 2, 0, 0, 0, 0, 0, 0, 0), (11, 1, 0, 0, 0, 0, 0, 0, 0, 0), (6, 1, 0, 0, 0, 0, 0, 0, 0, 0), (44, 3, 35, 10, 20, 1397, 0, 0, 0, 0), (0, 1, 0, 0, 0, 0, 0, 0, 0, 0), (33, 1, 0, 0, 0, 0, 0, 0, 0, 0),
  (23, 3, 42, 0, 4, 0, 0, 0, 0, 0), (4, 1, 1, 0, 0, 0, 0, 0, 0, 0), (6, 1, 0, 0, 0, 0, 0, 0, 0, 0), (44, 3, 35, 10, 20, 1397, 0, 0, 0, 0), (0, 1, 0, 0, 0, 0, 0, 0, 0, 0), (33, 1, 0, 0, 0, 0, 0, 0, 0, 0),
  (12, 1, 0, 0, 0, 0, 0, 0, 0, 0), (4, 1, 3, 0, 0, 0, 0, 0, 0, 0), (11, 1, 0, 0, 0, 0, 0, 0, 0, 0), (6, 1, 0, 0, 0, 0, 0, 0, 0, 0), (44, 3, 35, 10, 20, 1397, 0, 0, 0, 0), (0, 1, 0, 0, 0, 0, 0, 0, 1, 0),
  (33, 1, 0, 0, 0, 0, 0, 0, 0, 0), (23, 3, 42, 0, 4, 0, 0, 0, 0, 0), (0, 1, 0, 0, 0, 0, 0, 0, 1, 0), (24, 3, 43, 0, 0, 0, 0, 0, 0, 0)]
def q324_42 : List XO := [(0, 1, 0, 0, 0, 0, 0, 0, 0, 0), (24, 0, 43, 0, 1, 0, 0, 0, 0, 0)]
def q324_43 : List XO := [(27, 1, 0, 0, 1, 0, 0, 0, 0, 0)]
def xt324 : List (Nat × List XO) := [(0, q324_0), (42, q324_42), (43, q324_43)]
def q325_0 : List XO := [(4, 1, 3, 0, 0, 0, 0, 0, 0, 0), (4, 1, 2, 0, 0, 0, 0, 0, 0, 0), (4, 1, 0, 0, 0, 0, 0, 0, 0, 0), (4, 1, 1, 0, 0, 0, 0, 0, 0, 0), (12, 1, 0, 0, 0, 0, 0, 0, 0, 0), (11, 1, 0, 0, 2, 0, 0, 0, 0, 0),
  (11, 1, 0, 0, 0, 0, 0, 0, 0, 0), (4, 1, 0, 0, 0, 0, 0, 0, 0, 0), (4, 1, 1, 0, 0, 0, 0, 0, 0, 0), (12, 1, 0, 0, 1, 0, 0, 0, 0, 0), (11, 1, 0, 0, 0, 0, 0, 0, 0, 0), (27, 1, 0, 0, 0, 0, 0, 0, 0, 0)]
def xt325 : List (Nat × List XO) := [(0, q325_0)]
def q326_0 : List XO := [(6, 1, 0, 0, 0, 0, 0, 0, 0, 0), (0, 1, 0, 0, 0, 0, 0, 0, 0, 0), (45, 3, 57, 10, 1, 1378, 0, 0, 0, 0), (6, 1, 0, 0, 0, 0, 0, 0, 0, 0), (6, 1, 0, 0, 0, 0, 0, 0, 0, 0), (4, 1, 1, 0, 0, 0, 0, 0, 0, 0),
  (4, 1, 2, 0, 0, 0, 0, 0, 0, 0), (4, 1, 3, 0, 0, 0, 0, 0, 0, 0), (4, 2, 4, 0, 0, 0, 0, 0, 0, 0), (48, 3, 443, 320, 0, 2021, 5, 10, 0, 0), (45, 3, 60, 10, 0, 1377, 0, 0, 0, 0), (6, 1, 0, 0, 0, 0, 0, 0, 0, 0),
  (42, 3, 60, 10, 0, 1377, 0, 0, 0, 0), (22, 3, 27, 0, 5, 0, 0, 0, 0, 0), (0, 1, 0, 0, 0, 0, 0, 0, (-1), 0), (27, 1, 0, 0, 0, 0, 0, 0, 0, 0)]
def q326_27 : List XO := [(4, 2, 5, 0, 0, 0, 0, 0, 0, 0), (22, 3, 36, 0, 3, 0, 0, 0, 0, 0), (0, 1, 0, 0, 0, 0, 0, 0, (-1), 0), (24, 3, 51, 0, 0, 0, 0, 0, 0, 0)]
def q326_36 : List XO := [(6, 1, 0, 0, 0, 0, 0, 0, 0, 0), (6, 1, 0, 0, 0, 0, 0, 0, 0, 0), (4, 1, 1, 0, 0, 0, 0, 0, 0, 0), (4, 1, 2, 0, 0, 0, 0, 0, 0, 0), (48, 3, 446, 322, 0, 2031, 3, 10, 0, 0), (4, 1, 3, 0, 0, 0, 0, 0, 0, 0),
  (4, 2, 4, 0, 0, 0, 0, 0, 0, 0), (4, 2, 5, 0, 0, 0, 0, 0, 0, 0), (48, 3, 449, 323, 0, 2035, 5, 10, 0, 0), (24, 0, 51, 0, 1, 0, 0, 0, 0, 0)]
def q326_51 : List XO := [(7, 2, 6, 0, 0, 0, 0, 0, 0, 0), (4, 2, 6, 0, 0, 0, 0, 0, 0, 0), (22, 3, 67, 0, 3, 0, 0, 0, 0, 0), (6, 1, 0, 0, 0, 0, 0, 0, 0, 0), (0, 2, 0, 0, 1, 0, 0, 0, 8, 0), (48, 3, 319, 261, 0, 1780, 2, 10, 0, 0),
  (24, 3, 69, 0, 0, 0, 0, 0, 0, 0)]
def q326_67 : List XO := [(4, 2, 6, 0, 0, 0, 0, 0, 0, 0), (24, 0, 69, 0, 1, 0, 0, 0, 0, 0)]
def q326_69 : List XO := [(27, 1, 0, 0, 0, 0, 0, 0, 0, 0)]
def xt326 : List (Nat × List XO) := [(0, q326_0), (27, q326_27), (36, q326_36), (51, q326_51), (67, q326_67), (69, q326_69)]
def q327_0 : List XO := [(6, 1, 0, 0, 0, 0, 0, 0, 0, 0), (0, 1, 0, 0, 0, 0, 0, 0, 0, 0), (45, 3, 57, 10, 1, 1378, 0, 0, 0, 0), (6, 1, 0, 0, 0, 0, 0, 0, 0, 0), (0, 1, 0, 0, 0, 0, 0, 0, 0, 0), (45, 3, 60, 10, 0, 1377, 0, 0, 0, 0),
  (4, 1, 1, 0, 0, 0, 0, 0, 0, 0), (17, 1, 0, 0, 0, 0, 0, 0, 0, 0), (1, 1, 0, 0, 0, 0, 0, 0, 0, 1), (1, 3, 337, 0, 1, 1816, 0, 0, 0, 6), (48, 3, 92, 221, 1, 1620, 3, 10, 0, 0), (22, 3, 34, 0, 0, 0, 0, 0, 0, 0),
  (4, 1, 2, 0, 0, 0, 0, 0, 0, 0), (17, 1, 0, 0, 0, 0, 0, 0, 0, 0), (1, 1, 0, 0, 0, 0, 0, 0, 0, 1), (1, 3, 428, 0, 1, 2026, 0, 0, 0, 5), (48, 3, 92, 221, 1, 1620, 3, 10, 0, 0), (22, 3, 40, 0, 1, 0, 0, 0, 0, 0),
  (24, 0, 34, 0, 1, 0, 0, 0, 0, 0)]
def q327_34 : List XO := [(6, 1, 0, 0, 0, 0, 0, 0, 0, 0), (0, 1, 0, 0, 0, 0, 0, 0, 5, 0), (48, 3, 319, 261, 0, 1780, 2, 10, 0, 0), (27, 1, 0, 0, 0, 0, 0, 0, 0, 0)]
def q327_40 : List XO := [(0, 1, 0, 0, 0, 0, 0, 0, (-1), 0), (7, 1, 3, 0, 0, 0, 0, 0, 0, 0), (0, 2, 0, 0, 1, 0, 0, 0, 99, 0), (7, 2, 4, 0, 0, 0, 0, 0, 0, 0), (0, 1, 0, 0, 0, 0, 0, 0, 0, 0), (7, 2, 5, 0, 0, 0, 0, 0, 0, 0),
  (0, 1, 0, 0, 0, 0, 0, 0, 0, 0), (7, 2, 6, 0, 0, 0, 0, 0, 0, 0), (24, 0, 52, 0, 1, 0, 0, 0, 0, 0)]
def q327_52 : List XO := [(4, 2, 6, 0, 0, 0, 0, 0, 0, 0), (6, 1, 0, 0, 0, 0, 0, 0, 0, 0), (48, 3, 299, 259, 0, 1771, 1, 10, 0, 0), (23, 3, 88, 0, 3, 0, 0, 0, 0, 0), (4, 2, 5, 0, 0, 0, 0, 0, 0, 0), (6, 1, 0, 0, 0, 0, 0, 0, 0, 0),
  (4, 2, 6, 0, 0, 0, 0, 0, 0, 0), (4, 1, 1, 0, 0, 0, 0, 0, 0, 0), (4, 1, 2, 0, 0, 0, 0, 0, 0, 0), (48, 3, 434, 324, 0, 2039, 4, 10, 0, 0), (22, 3, 78, 0, 0, 0, 0, 0, 0, 0), (0, 1, 0, 0, 0, 0, 0, 0, 1, 0),
  (24, 3, 79, 0, 0, 0, 0, 0, 0, 0)]
def q327_78 : List XO := [(0, 1, 0, 0, 0, 0, 0, 0, 0, 0), (24, 0, 79, 0, 1, 0, 0, 0, 0, 0)]
def q327_79 : List XO := [(11, 1, 0, 0, 0, 0, 0, 0, 0, 0), (7, 2, 5, 0, 0, 0, 0, 0, 0, 0), (10, 3, 6, 0, 0, 0, 0, 0, 1, 0), (24, 3, 52, 0, 0, 0, 0, 0, 0, 0)]
def q327_88 : List XO := [(0, 1, 0, 0, 0, 0, 0, 0, 0, 0), (7, 2, 6, 0, 0, 0, 0, 0, 0, 0), (24, 0, 91, 0, 1, 0, 0, 0, 0, 0)]
def q327_91 : List XO := [(4, 2, 6, 0, 0, 0, 0, 0, 0, 0), (4, 1, 1, 0, 0, 0, 0, 0, 0, 0), (4, 1, 2, 0, 0, 0, 0, 0, 0, 0), (11, 1, 0, 0, 2, 0, 0, 0, 0, 0), (23, 3, 202, 0, 3, 0, 0, 0, 0, 0), (0, 1, 0, 0, 0, 0, 0, 0, 0, 0),
  (7, 2, 7, 0, 0, 0, 0, 0, 0, 0), (0, 1, 0, 0, 0, 0, 0, 0, 0, 0), (7, 2, 8, 0, 0, 0, 0, 0, 0, 0), (24, 0, 105, 0, 1, 0, 0, 0, 0, 0)]
def q327_105 : List XO := [(4, 2, 8, 0, 0, 0, 0, 0, 0, 0), (6, 1, 0, 0, 0, 0, 0, 0, 0, 0), (48, 3, 299, 259, 0, 1771, 1, 10, 0, 0), (23, 3, 163, 0, 3, 0, 0, 0, 0, 0), (4, 2, 7, 0, 0, 0, 0, 0, 0, 0), (6, 1, 0, 0, 0, 0, 0, 0, 0, 0),
  (4, 2, 8, 0, 0, 0, 0, 0, 0, 0), (4, 1, 1, 0, 0, 0, 0, 0, 0, 0), (4, 1, 2, 0, 0, 0, 0, 0, 0, 0), (48, 3, 434, 324, 0, 2039, 4, 10, 0, 0), (22, 3, 153, 0, 0, 0, 0, 0, 0, 0), (6, 1, 0, 0, 0, 0, 0, 0, 0, 0),
  (0, 1, 0, 0, 0, 0, 0, 0, 0, 0), (4, 2, 6, 0, 0, 0, 0, 0, 0, 0), (4, 1, 1, 0, 0, 0, 0, 0, 0, 0), (6, 1, 0, 0, 0, 0, 0, 0, 0, 0), (44, 3, 35, 10, 20, 1397, 0, 0, 0, 0), (0, 1, 0, 0, 0, 0, 0, 0, 0, 0),
  (33, 1, 0, 0, 0, 0, 0, 0, 0, 0), (4, 2, 8, 0, 0, 0, 0, 0, 0, 0), (48, 3, 437, 325, 1, 2043, 4, 10, 0, 0), (48, 3, 238, 229, 0, 1651, 3, 10, 0, 0), (22, 3, 153, 0, 2, 0, 0, 0, 0, 0), (0, 1, 0, 0, 0, 0, 0, 0, 1, 0),
  (24, 3, 154, 0, 0, 0, 0, 0, 0, 0)]
def q327_153 : List XO := [(0, 1, 0, 0, 0, 0, 0, 0, 0, 0), (24, 0, 154, 0, 1, 0, 0, 0, 0, 0)]
def q327_154 : List XO := [(11, 1, 0, 0, 0, 0, 0, 0, 0, 0), (7, 2, 7, 0, 0, 0, 0, 0, 0, 0), (10, 3, 8, 0, 0, 0, 0, 0, 1, 0), (24, 3, 105, 0, 0, 0, 0, 0, 0, 0)]
def q327_163 : List XO := [(4, 2, 7, 0, 0, 0, 0, 0, 0, 0), (4, 2, 5, 0, 0, 0, 0, 0, 0, 0), (4, 2, 7, 0, 0, 0, 0, 0, 0, 0), (11, 1, 0, 0, 1, 0, 0, 0, 0, 0), (48, 3, 293, 35, 1, 1770, 2, 99, 0, 0), (4, 2, 4, 0, 0, 0, 0, 0, 0, 0),
  (23, 3, 181, 0, 2, 0, 0, 0, 0, 0), (24, 3, 196, 0, 0, 0, 0, 0, 0, 0)]
def q327_181 : List XO := [(4, 2, 7, 0, 0, 0, 0, 0, 0, 0), (4, 2, 5, 0, 0, 0, 0, 0, 0, 0), (4, 2, 7, 0, 0, 0, 0, 0, 0, 0), (11, 1, 0, 0, 1, 0, 0, 0, 0, 0), (48, 3, 293, 35, 1, 1770, 2, 99, 0, 0), (7, 2, 4, 0, 0, 0, 0, 0, 0, 0),
  (4, 2, 6, 0, 0, 0, 0, 0, 0, 0), (7, 1, 3, 0, 0, 0, 0, 0, 0, 0), (24, 0, 196, 0, 1, 0, 0, 0, 0, 0)]
def q327_196 : List XO := [(10, 3, 6, 0, 0, 0, 0, 0, 1, 0), (24, 3, 91, 0, 0, 0, 0, 0, 0, 0)]
def q327_202 : List XO := [(4, 2, 5, 0, 0, 0, 0, 0, 0, 0), (0, 1, 0, 0, 0, 0, 0, 0, 2, 0), (23, 3, 217, 0, 3, 0, 0, 0, 0, 0), (6, 1, 0, 0, 0, 0, 0, 0, 0, 0), (0, 2, 0, 0, 1, 0, 0, 0, 8, 0), (48, 3, 319, 261, 0, 1780, 2, 10, 0, 0),
  (24, 3, 218, 0, 0, 0, 0, 0, 0, 0)]
def q327_217 : List XO := [(4, 1, 3, 0, 0, 0, 0, 0, 0, 0), (24, 0, 218, 0, 1, 0, 0, 0, 0, 0)]
def q327_218 : List XO := [(27, 1, 0, 0, 0, 0, 0, 0, 0, 0)]
def xt327 : List (Nat × List XO) := [(0, q327_0), (34, q327_34), (40, q327_40), (52, q327_52), (78, q327_78), (79, q327_79), (88, q327_88), (91, q327_91),
  (105, q327_105), (153, q327_153), (154, q327_154), (163, q327_163), (181, q327_181), (196, q327_196), (202, q327_202), (217, q327_217),
  (218, q327_218)]
def q328_0 : List XO := [(6, 1, 0, 0, 0, 0, 0, 0, 0, 0), (0, 1, 0, 0, 0, 0, 0, 0, 0, 0), (45, 3, 57, 10, 1, 1378, 0, 0, 0, 0), (6, 1, 0, 0, 0, 0, 0, 0, 0, 0), (0, 1, 0, 0, 0, 0, 0, 0, 0, 0), (45, 3, 60, 10, 0, 1377, 0, 0, 0, 0),
  (4, 1, 1, 0, 0, 0, 0, 0, 0, 0), (17, 1, 0, 0, 0, 0, 0, 0, 0, 0), (1, 1, 0, 0, 0, 0, 0, 0, 0, 0), (1, 3, 461, 0, 1, 2058, 0, 0, 0, 4), (48, 3, 92, 221, 1, 1620, 3, 10, 0, 0), (22, 3, 31, 0, 0, 0, 0, 0, 0, 0),
  (6, 1, 0, 0, 0, 0, 0, 0, 0, 0), (0, 1, 0, 0, 0, 0, 0, 0, 0, 0), (4, 1, 1, 0, 0, 0, 0, 0, 0, 0), (48, 3, 455, 329, 0, 2059, 3, 10, 0, 0), (24, 3, 36, 0, 0, 0, 0, 0, 0, 0)]
def q328_31 : List XO := [(6, 1, 0, 0, 0, 0, 0, 0, 0, 0), (0, 1, 0, 0, 0, 0, 0, 0, 5, 0), (48, 3, 319, 261, 0, 1780, 2, 10, 0, 0), (24, 0, 36, 0, 1, 0, 0, 0, 0, 0)]
def q328_36 : List XO := [(27, 1, 0, 0, 0, 0, 0, 0, 0, 0)]
def xt328 : List (Nat × List XO) := [(0, q328_0), (31, q328_31), (36, q328_36)]
def q329_0 : List XO := [(4, 1, 1, 0, 0, 0, 0, 0, 0, 0), (4, 1, 2, 0, 0, 0, 0, 0, 0, 0), (23, 3, 10, 0, 1, 0, 0, 0, 0, 0), (6, 1, 0, 0, 0, 0, 0, 0, 0, 0), (48, 3, 452, 330, 0, 2063, 1, 10, 0, 0), (27, 1, 0, 0, 0, 0, 0, 0, 0, 0)]
def q329_10 : List XO := [(4, 1, 1, 0, 0, 0, 0, 0, 0, 0), (0, 1, 0, 0, 0, 0, 0, 0, 2, 0), (12, 1, 0, 0, 1, 0, 0, 0, 0, 0), (22, 3, 20, 0, 1, 0, 0, 0, 0, 0), (0, 1, 0, 0, 0, 0, 0, 0, 1, 0), (24, 3, 21, 0, 0, 0, 0, 0, 0, 0)]
def q329_20 : List XO := [(0, 1, 0, 0, 0, 0, 0, 0, 0, 0), (24, 0, 21, 0, 1, 0, 0, 0, 0, 0)]
def q329_21 : List XO := [(7, 1, 3, 0, 0, 0, 0, 0, 0, 0), (0, 1, 0, 0, 0, 0, 0, 0, 0, 0), (7, 2, 4, 0, 0, 0, 0, 0, 0, 0), (0, 1, 0, 0, 0, 0, 0, 0, (-1), 0), (7, 2, 5, 0, 0, 0, 0, 0, 0, 0), (0, 1, 0, 0, 0, 0, 0, 0, 0, 0),
  (7, 2, 6, 0, 0, 0, 0, 0, 0, 0), (24, 0, 31, 0, 1, 0, 0, 0, 0, 0)]
def q329_31 : List XO := [(4, 2, 6, 0, 0, 0, 0, 0, 0, 0), (6, 1, 0, 0, 0, 0, 0, 0, 0, 0), (44, 3, 35, 10, 20, 1397, 0, 0, 0, 0), (0, 1, 0, 0, 0, 0, 0, 0, 3, 0), (33, 1, 0, 0, 0, 0, 0, 0, 0, 0), (23, 3, 230, 0, 4, 0, 0, 0, 0, 0),
  (4, 2, 6, 0, 0, 0, 0, 0, 0, 0), (6, 1, 0, 0, 0, 0, 0, 0, 0, 0), (44, 3, 35, 10, 20, 1397, 0, 0, 0, 0), (0, 1, 0, 0, 0, 0, 0, 0, 3, 0), (33, 1, 0, 0, 0, 0, 0, 0, 0, 0), (23, 3, 57, 0, 1, 0, 0, 0, 0, 0),
  (0, 1, 0, 0, 0, 0, 0, 0, 1, 0), (24, 3, 58, 0, 0, 0, 0, 0, 0, 0)]
def q329_57 : List XO := [(0, 1, 0, 0, 0, 0, 0, 0, 0, 0), (24, 0, 58, 0, 1, 0, 0, 0, 0, 0)]
def q329_58 : List XO := [(7, 2, 7, 0, 0, 0, 0, 0, 0, 0), (4, 2, 7, 0, 0, 0, 0, 0, 0, 0), (22, 3, 105, 0, 1, 0, 0, 0, 0, 0), (6, 1, 0, 0, 0, 0, 0, 0, 0, 0), (44, 3, 35, 10, 20, 1397, 0, 0, 0, 0), (0, 2, 0, 0, 1, 0, 0, 0, 61, 0),
  (4, 2, 6, 0, 0, 0, 0, 0, 0, 0), (11, 1, 0, 0, 0, 0, 0, 0, 0, 0), (33, 1, 0, 0, 0, 0, 0, 0, 0, 0), (0, 1, 0, 0, 0, 0, 0, 0, 1, 0), (23, 3, 224, 0, 0, 0, 0, 0, 0, 0), (6, 1, 0, 0, 0, 0, 0, 0, 0, 0),
  (44, 3, 35, 10, 20, 1397, 0, 0, 0, 0), (0, 2, 0, 0, 1, 0, 0, 0, 55, 0), (4, 2, 6, 0, 0, 0, 0, 0, 0, 0), (11, 1, 0, 0, 0, 0, 0, 0, 0, 0), (33, 1, 0, 0, 0, 0, 0, 0, 0, 0), (4, 1, 3, 0, 0, 0, 0, 0, 0, 0),
  (22, 3, 98, 0, 0, 0, 0, 0, 0, 0), (0, 2, 0, 0, 1, 0, 0, 0, 9, 0), (24, 3, 99, 0, 0, 0, 0, 0, 0, 0)]
def q329_98 : List XO := [(0, 1, 0, 0, 0, 0, 0, 0, 0, 0), (24, 0, 99, 0, 1, 0, 0, 0, 0, 0)]
def q329_99 : List XO := [(23, 3, 105, 0, 1, 0, 0, 0, 0, 0), (24, 3, 224, 0, 0, 0, 0, 0, 0, 0)]
def q329_105 : List XO := [(4, 2, 7, 0, 0, 0, 0, 0, 0, 0), (22, 3, 114, 0, 0, 0, 0, 0, 0, 0), (0, 1, 0, 0, 0, 0, 0, 0, 0, 0), (24, 3, 124, 0, 0, 0, 0, 0, 0, 0)]
def q329_114 : List XO := [(6, 1, 0, 0, 0, 0, 0, 0, 0, 0), (44, 3, 35, 10, 20, 1397, 0, 0, 0, 0), (0, 2, 0, 0, 1, 0, 0, 0, 55, 0), (4, 2, 6, 0, 0, 0, 0, 0, 0, 0), (11, 1, 0, 0, 0, 0, 0, 0, 0, 0), (33, 1, 0, 0, 0, 0, 0, 0, 0, 0),
  (24, 0, 124, 0, 1, 0, 0, 0, 0, 0)]
def q329_124 : List XO := [(7, 2, 8, 0, 0, 0, 0, 0, 0, 0), (4, 2, 7, 0, 0, 0, 0, 0, 0, 0), (22, 3, 160, 0, 1, 0, 0, 0, 0, 0), (6, 1, 0, 0, 0, 0, 0, 0, 0, 0), (44, 3, 35, 10, 20, 1397, 0, 0, 0, 0), (0, 2, 0, 0, 1, 0, 0, 0, 55, 0),
  (4, 2, 6, 0, 0, 0, 0, 0, 0, 0), (11, 1, 0, 0, 0, 0, 0, 0, 0, 0), (4, 1, 3, 0, 0, 0, 0, 0, 0, 0), (22, 3, 151, 0, 0, 0, 0, 0, 0, 0), (4, 2, 8, 0, 0, 0, 0, 0, 0, 0), (0, 1, 0, 0, 0, 0, 0, 0, 1, 0),
  (11, 1, 0, 0, 0, 0, 0, 0, 0, 0), (24, 3, 159, 0, 0, 0, 0, 0, 0, 0)]
def q329_151 : List XO := [(0, 1, 0, 0, 0, 0, 0, 0, 0, 0), (4, 2, 8, 0, 0, 0, 0, 0, 0, 0), (0, 1, 0, 0, 0, 0, 0, 0, 2, 0), (11, 1, 0, 0, 1, 0, 0, 0, 0, 0), (48, 3, 293, 35, 1, 1770, 2, 99, 0, 0), (24, 0, 159, 0, 1, 0, 0, 0, 0, 0)]
def q329_159 : List XO := [(34, 1, 0, 0, 0, 0, 0, 0, 0, 0), (24, 0, 160, 0, 1, 0, 0, 0, 0, 0)]
def q329_160 : List XO := [(6, 1, 0, 0, 0, 0, 0, 0, 0, 0), (4, 1, 1, 0, 0, 0, 0, 0, 0, 0), (0, 1, 0, 0, 0, 0, 0, 0, 1, 0), (11, 1, 0, 0, 0, 0, 0, 0, 0, 0), (4, 1, 2, 0, 0, 0, 0, 0, 0, 0), (48, 3, 455, 329, 0, 2059, 3, 10, 0, 0),
  (7, 2, 9, 0, 0, 0, 0, 0, 0, 0), (4, 2, 7, 0, 0, 0, 0, 0, 0, 0), (22, 3, 187, 0, 1, 0, 0, 0, 0, 0), (6, 1, 0, 0, 0, 0, 0, 0, 0, 0), (44, 3, 35, 10, 20, 1397, 0, 0, 0, 0), (0, 2, 0, 0, 1, 0, 0, 0, 55, 0),
  (4, 2, 6, 0, 0, 0, 0, 0, 0, 0), (11, 1, 0, 0, 0, 0, 0, 0, 0, 0), (4, 2, 8, 0, 0, 0, 0, 0, 0, 0), (34, 1, 0, 0, 0, 0, 0, 0, 0, 0), (24, 0, 187, 0, 1, 0, 0, 0, 0, 0)]
def q329_187 : List XO := [(4, 2, 5, 0, 0, 0, 0, 0, 0, 0), (22, 3, 216, 0, 2, 0, 0, 0, 0, 0), (4, 1, 3, 0, 0, 0, 0, 0, 0, 0), (22, 3, 206, 0, 0, 0, 0, 0, 0, 0), (4, 2, 9, 0, 0, 0, 0, 0, 0, 0), (4, 2, 4, 0, 0, 0, 0, 0, 0, 0),
  (23, 3, 216, 0, 4, 0, 0, 0, 0, 0), (24, 3, 224, 0, 0, 0, 0, 0, 0, 0)]
def q329_206 : List XO := [(4, 2, 9, 0, 0, 0, 0, 0, 0, 0), (4, 2, 4, 0, 0, 0, 0, 0, 0, 0), (23, 3, 216, 0, 2, 0, 0, 0, 0, 0), (24, 3, 224, 0, 0, 0, 0, 0, 0, 0)]
def q329_216 : List XO := [(4, 2, 9, 0, 0, 0, 0, 0, 0, 0), (7, 2, 4, 0, 0, 0, 0, 0, 0, 0), (4, 2, 6, 0, 0, 0, 0, 0, 0, 0), (7, 2, 5, 0, 0, 0, 0, 0, 0, 0), (24, 0, 224, 0, 1, 0, 0, 0, 0, 0)]
def q329_224 : List XO := [(10, 3, 6, 0, 0, 0, 0, 0, 1, 0), (24, 3, 31, 0, 0, 0, 0, 0, 0, 0)]
def q329_230 : List XO := [(4, 1, 1, 0, 0, 0, 0, 0, 0, 0), (22, 3, 240, 0, 1, 0, 0, 0, 0, 0), (6, 1, 0, 0, 0, 0, 0, 0, 0, 0), (4, 2, 5, 0, 0, 0, 0, 0, 0, 0), (45, 3, 458, 10, 29, 1406, 0, 0, 0, 0), (24, 0, 240, 0, 1, 0, 0, 0, 0, 0)]
def q329_240 : List XO := [(4, 2, 4, 0, 0, 0, 0, 0, 0, 0), (27, 1, 0, 0, 0, 0, 0, 0, 0, 0)]
def xt329 : List (Nat × List XO) := [(0, q329_0), (10, q329_10), (20, q329_20), (21, q329_21), (31, q329_31), (57, q329_57), (58, q329_58), (98, q329_98),
  (99, q329_99), (105, q329_105), (114, q329_114), (124, q329_124), (151, q329_151), (159, q329_159), (160, q329_160), (187, q329_187),
  (206, q329_206), (216, q329_216), (224, q329_224), (230, q329_230), (240, q329_240)]
def q330_0 : List XO := [(0, 1, 0, 0, 0, 0, 0, 0, 0, 0), (7, 1, 1, 0, 0, 0, 0, 0, 0, 0), (0, 1, 0, 0, 0, 0, 0, 0, 0, 0), (7, 1, 2, 0, 0, 0, 0, 0, 0, 0), (24, 0, 4, 0, 1, 0, 0, 0, 0, 0)]
def q330_4 : List XO := [(4, 1, 2, 0, 0, 0, 0, 0, 0, 0), (6, 1, 0, 0, 0, 0, 0, 0, 0, 0), (44, 3, 35, 10, 20, 1397, 0, 0, 0, 0), (0, 1, 0, 0, 0, 0, 0, 0, 3, 0), (33, 1, 0, 0, 0, 0, 0, 0, 0, 0), (23, 3, 28, 0, 3, 0, 0, 0, 0, 0),
  (4, 1, 1, 0, 0, 0, 0, 0, 0, 0), (6, 1, 0, 0, 0, 0, 0, 0, 0, 0), (4, 1, 2, 0, 0, 0, 0, 0, 0, 0), (48, 3, 342, 272, 0, 1825, 2, 10, 0, 0), (11, 1, 0, 0, 4, 0, 0, 0, 0, 0), (7, 1, 1, 0, 0, 0, 0, 0, 0, 0),
  (10, 3, 2, 0, 0, 0, 0, 0, 1, 0), (24, 3, 4, 0, 0, 0, 0, 0, 0, 0)]
def q330_28 : List XO := [(4, 1, 1, 0, 0, 0, 0, 0, 0, 0), (6, 1, 0, 0, 0, 0, 0, 0, 0, 0), (48, 3, 325, 263, 0, 1788, 1, 10, 0, 0), (11, 1, 0, 0, 3, 0, 0, 0, 0, 0), (48, 3, 366, 282, 1, 1869, 1, 10, 0, 0), (27, 1, 0, 0, 0, 0, 0, 0, 0, 0)]
def xt330 : List (Nat × List XO) := [(0, q330_0), (4, q330_4), (28, q330_28)]
def q331_0 : List XO := [(6, 1, 0, 0, 0, 0, 0, 0, 0, 0), (0, 1, 0, 0, 0, 0, 0, 0, 0, 0), (45, 3, 57, 10, 1, 1378, 0, 0, 0, 0), (6, 1, 0, 0, 0, 0, 0, 0, 0, 0), (0, 1, 0, 0, 0, 0, 0, 0, 0, 0), (45, 3, 60, 10, 0, 1377, 0, 0, 0, 0),
  (4, 1, 1, 0, 0, 0, 0, 0, 0, 0), (17, 1, 0, 0, 0, 0, 0, 0, 0, 0), (1, 1, 0, 0, 0, 0, 0, 0, 0, 1), (1, 3, 461, 0, 1, 2058, 0, 0, 0, 4), (48, 3, 92, 221, 1, 1620, 3, 10, 0, 0), (22, 3, 28, 0, 1, 0, 0, 0, 0, 0),
  (6, 1, 0, 0, 0, 0, 0, 0, 0, 0), (0, 1, 0, 0, 0, 0, 0, 0, 5, 0), (48, 3, 319, 261, 0, 1780, 2, 10, 0, 0), (27, 1, 0, 0, 0, 0, 0, 0, 0, 0)]
def q331_28 : List XO := [(6, 1, 0, 0, 0, 0, 0, 0, 0, 0), (0, 1, 0, 0, 0, 0, 0, 0, 0, 0), (4, 1, 1, 0, 0, 0, 0, 0, 0, 0), (48, 3, 455, 329, 0, 2059, 3, 10, 0, 0), (21, 1, 0, 0, 0, 0, 0, 0, 0, 0), (6, 1, 0, 0, 0, 0, 0, 0, 0, 0),
  (42, 3, 458, 10, 29, 1406, 0, 0, 0, 0), (6, 1, 0, 0, 0, 0, 0, 0, 0, 0), (44, 3, 35, 10, 20, 1397, 0, 0, 0, 0), (0, 1, 0, 0, 0, 0, 0, 0, 3, 0), (33, 1, 0, 0, 0, 0, 0, 0, 0, 0), (23, 3, 57, 0, 1, 0, 0, 0, 0, 0),
  (6, 1, 0, 0, 0, 0, 0, 0, 0, 0), (0, 2, 0, 0, 1, 0, 0, 0, 8, 0), (48, 3, 319, 261, 0, 1780, 2, 10, 0, 0), (24, 3, 61, 0, 0, 0, 0, 0, 0, 0)]
def q331_57 : List XO := [(6, 1, 0, 0, 0, 0, 0, 0, 0, 0), (42, 3, 458, 10, 29, 1406, 0, 0, 0, 0), (24, 0, 61, 0, 1, 0, 0, 0, 0, 0)]
def q331_61 : List XO := [(27, 1, 0, 0, 0, 0, 0, 0, 0, 0)]
def xt331 : List (Nat × List XO) := [(0, q331_0), (28, q331_28), (57, q331_57), (61, q331_61)]
def q332_0 : List XO := [(6, 1, 0, 0, 0, 0, 0, 0, 0, 0), (0, 1, 0, 0, 0, 0, 0, 0, 0, 0), (45, 3, 57, 10, 1, 1378, 0, 0, 0, 0), (6, 1, 0, 0, 0, 0, 0, 0, 0, 0), (6, 1, 0, 0, 0, 0, 0, 0, 0, 0), (4, 1, 1, 0, 0, 0, 0, 0, 0, 0),
  (4, 1, 2, 0, 0, 0, 0, 0, 0, 0), (48, 3, 420, 315, 0, 2001, 3, 10, 0, 0), (45, 3, 60, 10, 0, 1377, 0, 0, 0, 0), (6, 1, 0, 0, 0, 0, 0, 0, 0, 0), (42, 3, 60, 10, 0, 1377, 0, 0, 0, 0), (22, 3, 24, 0, 5, 0, 0, 0, 0, 0),
  (0, 1, 0, 0, 0, 0, 0, 0, 0, 0), (27, 1, 0, 0, 1, 0, 0, 0, 0, 0)]
def q332_24 : List XO := [(4, 1, 3, 0, 0, 0, 0, 0, 0, 0), (17, 1, 0, 0, 0, 0, 0, 0, 0, 0), (1, 1, 0, 0, 0, 0, 0, 0, 0, 0), (1, 3, 467, 0, 1, 2075, 0, 0, 0, 15), (48, 3, 92, 221, 1, 1620, 3, 10, 0, 0), (22, 3, 42, 0, 1, 0, 0, 0, 0, 0),
  (6, 1, 0, 0, 0, 0, 0, 0, 0, 0), (0, 1, 0, 0, 0, 0, 0, 0, 5, 0), (48, 3, 72, 195, 0, 1517, 2, 10, 0, 0), (27, 1, 0, 0, 1, 0, 0, 0, 0, 0)]
def q332_42 : List XO := [(6, 1, 0, 0, 0, 0, 0, 0, 0, 0), (4, 1, 1, 0, 0, 0, 0, 0, 0, 0), (48, 3, 339, 270, 0, 1817, 2, 10, 0, 0), (6, 1, 0, 0, 0, 0, 0, 0, 0, 0), (4, 1, 2, 0, 0, 0, 0, 0, 0, 0), (48, 3, 339, 270, 0, 1817, 2, 10, 0, 0),
  (11, 1, 0, 0, 3, 0, 0, 0, 0, 0), (6, 1, 0, 0, 0, 0, 0, 0, 0, 0), (48, 3, 325, 263, 0, 1788, 1, 10, 0, 0), (11, 1, 0, 0, 3, 0, 0, 0, 0, 0), (48, 3, 366, 282, 1, 1869, 1, 10, 0, 0), (7, 2, 4, 0, 0, 0, 0, 0, 0, 0),
  (6, 1, 0, 0, 0, 0, 0, 0, 0, 0), (4, 1, 1, 0, 0, 0, 0, 0, 0, 0), (48, 3, 339, 270, 0, 1817, 2, 10, 0, 0), (6, 1, 0, 0, 0, 0, 0, 0, 0, 0), (4, 1, 2, 0, 0, 0, 0, 0, 0, 0), (48, 3, 339, 270, 0, 1817, 2, 10, 0, 0),
  (11, 1, 0, 0, 5, 0, 0, 0, 0, 0), (6, 1, 0, 0, 0, 0, 0, 0, 0, 0), (48, 3, 325, 263, 0, 1788, 1, 10, 0, 0), (11, 1, 0, 0, 3, 0, 0, 0, 0, 0), (48, 3, 366, 282, 1, 1869, 1, 10, 0, 0), (7, 2, 5, 0, 0, 0, 0, 0, 0, 0),
  (6, 1, 0, 0, 0, 0, 0, 0, 0, 0), (4, 2, 5, 0, 0, 0, 0, 0, 0, 0), (4, 1, 3, 0, 0, 0, 0, 0, 0, 0), (4, 2, 4, 0, 0, 0, 0, 0, 0, 0), (11, 1, 0, 0, 1, 0, 0, 0, 0, 0), (0, 2, 0, 0, 1, 0, 0, 0, 8, 0),
  (48, 3, 469, 333, 0, 2076, 4, 10, 0, 0), (27, 1, 0, 0, 1, 0, 0, 0, 0, 0)]
def xt332 : List (Nat × List XO) := [(0, q332_0), (24, q332_24), (42, q332_42)]
def q333_0 : List XO := [(1, 1, 0, 0, 0, 0, 0, 0, 0, 1), (8, 2, 4, 0, 0, 0, 0, 0, 0, 0), (0, 1, 0, 0, 0, 0, 0, 0, 0, 0), (7, 2, 6, 0, 0, 0, 0, 0, 0, 0), (24, 0, 6, 0, 1, 0, 0, 0, 0, 0)]
def q333_6 : List XO := [(4, 2, 6, 0, 0, 0, 0, 0, 0, 0), (0, 2, 0, 0, 1, 0, 0, 0, 15, 0), (23, 3, 36, 0, 4, 0, 0, 0, 0, 0), (6, 1, 0, 0, 0, 0, 0, 0, 0, 0), (44, 3, 47, 10, 30, 1407, 0, 0, 0, 0), (4, 2, 6, 0, 0, 0, 0, 0, 0, 0),
  (4, 2, 6, 0, 0, 0, 0, 0, 0, 0), (22, 3, 28, 0, 1, 0, 0, 0, 0, 0), (1, 1, 0, 0, 0, 0, 0, 0, 0, 1), (24, 3, 29, 0, 0, 0, 0, 0, 0, 0)]
def q333_28 : List XO := [(1, 1, 0, 0, 0, 0, 0, 0, 0, 0), (24, 0, 29, 0, 1, 0, 0, 0, 0, 0)]
def q333_29 : List XO := [(36, 1, 0, 0, 0, 0, 0, 0, 0, 0), (10, 3, 6, 0, 0, 0, 0, 0, 1, 0), (24, 3, 6, 0, 0, 0, 0, 0, 0, 0)]
def q333_36 : List XO := [(0, 1, 0, 0, 0, 0, 0, 0, 0, 0), (7, 2, 6, 0, 0, 0, 0, 0, 0, 0), (24, 0, 39, 0, 1, 0, 0, 0, 0, 0)]
def q333_39 : List XO := [(4, 2, 6, 0, 0, 0, 0, 0, 0, 0), (4, 1, 1, 0, 0, 0, 0, 0, 0, 0), (23, 3, 121, 0, 3, 0, 0, 0, 0, 0), (0, 2, 0, 0, 1, 0, 0, 0, 15, 0), (7, 2, 7, 0, 0, 0, 0, 0, 0, 0), (24, 0, 49, 0, 1, 0, 0, 0, 0, 0)]
def q333_49 : List XO := [(4, 2, 7, 0, 0, 0, 0, 0, 0, 0), (22, 3, 93, 0, 5, 0, 0, 0, 0, 0), (6, 1, 0, 0, 0, 0, 0, 0, 0, 0), (44, 3, 47, 10, 30, 1407, 0, 0, 0, 0), (4, 2, 7, 0, 0, 0, 0, 0, 0, 0), (6, 1, 0, 0, 0, 0, 0, 0, 0, 0),
  (44, 3, 47, 10, 30, 1407, 0, 0, 0, 0), (4, 2, 7, 0, 0, 0, 0, 0, 0, 0), (35, 1, 0, 0, 0, 0, 0, 0, 0, 0), (0, 2, 0, 0, 1, 0, 0, 0, 16, 0), (4, 1, 3, 0, 0, 0, 0, 0, 0, 0), (11, 1, 0, 0, 1, 0, 0, 0, 0, 0),
  (17, 1, 0, 0, 0, 0, 0, 0, 0, 0), (14, 1, 0, 0, 2, 0, 0, 0, 0, 0), (6, 1, 0, 0, 0, 0, 0, 0, 0, 0), (44, 3, 47, 10, 30, 1407, 0, 0, 0, 0), (4, 2, 7, 0, 0, 0, 0, 0, 0, 0), (0, 1, 0, 0, 0, 0, 0, 0, 1, 0),
  (11, 1, 0, 0, 1, 0, 0, 0, 0, 0), (35, 1, 0, 0, 0, 0, 0, 0, 0, 0), (4, 1, 3, 0, 0, 0, 0, 0, 0, 0), (17, 1, 0, 0, 0, 0, 0, 0, 0, 0), (14, 1, 0, 0, 2, 0, 0, 0, 0, 0), (14, 1, 0, 0, 0, 0, 0, 0, 0, 0),
  (36, 1, 0, 0, 0, 0, 0, 0, 0, 0), (10, 3, 7, 0, 0, 0, 0, 0, (-1), 0), (24, 3, 49, 0, 0, 0, 0, 0, 0, 0)]
def q333_93 : List XO := [(6, 1, 0, 0, 0, 0, 0, 0, 0, 0), (44, 3, 47, 10, 30, 1407, 0, 0, 0, 0), (0, 1, 0, 0, 0, 0, 0, 0, 0, 0), (20, 1, 0, 0, 0, 0, 0, 0, 0, 0), (35, 1, 0, 0, 0, 0, 0, 0, 0, 0), (0, 2, 0, 0, 1, 0, 0, 0, 16, 0),
  (4, 1, 3, 0, 0, 0, 0, 0, 0, 0), (11, 1, 0, 0, 1, 0, 0, 0, 0, 0), (17, 1, 0, 0, 0, 0, 0, 0, 0, 0), (14, 1, 0, 0, 2, 0, 0, 0, 0, 0), (36, 1, 0, 0, 0, 0, 0, 0, 0, 0), (5, 2, 4, 0, 0, 0, 0, 0, 0, 0),
  (1, 3, 372, 0, 1, 1892, 0, 0, 0, 16), (14, 1, 0, 0, 2, 0, 0, 0, 0, 0), (8, 2, 4, 0, 0, 0, 0, 0, 0, 0), (10, 3, 6, 0, 0, 0, 0, 0, 1, 0), (24, 3, 39, 0, 0, 0, 0, 0, 0, 0)]
def q333_121 : List XO := [(1, 1, 0, 0, 0, 0, 0, 0, 0, 0), (8, 2, 6, 0, 0, 0, 0, 0, 0, 0), (0, 1, 0, 0, 0, 0, 0, 0, 0, 0), (4, 1, 2, 0, 0, 0, 0, 0, 0, 0), (48, 3, 293, 35, 1, 1770, 2, 99, 0, 0), (7, 2, 8, 0, 0, 0, 0, 0, 0, 0),
  (24, 0, 131, 0, 1, 0, 0, 0, 0, 0)]
def q333_131 : List XO := [(4, 2, 8, 0, 0, 0, 0, 0, 0, 0), (0, 2, 0, 0, 1, 0, 0, 0, 15, 0), (23, 3, 156, 0, 4, 0, 0, 0, 0, 0), (5, 2, 6, 0, 0, 0, 0, 0, 0, 0), (6, 1, 0, 0, 0, 0, 0, 0, 0, 0), (44, 3, 47, 10, 30, 1407, 0, 0, 0, 0),
  (4, 2, 8, 0, 0, 0, 0, 0, 0, 0), (35, 1, 0, 0, 0, 0, 0, 0, 0, 0), (14, 1, 0, 0, 0, 0, 0, 0, 0, 0), (8, 2, 6, 0, 0, 0, 0, 0, 0, 0), (10, 3, 8, 0, 0, 0, 0, 0, 1, 0), (24, 3, 131, 0, 0, 0, 0, 0, 0, 0)]
def q333_156 : List XO := [(6, 1, 0, 0, 0, 0, 0, 0, 0, 0), (5, 2, 6, 0, 0, 0, 0, 0, 0, 0), (5, 2, 4, 0, 0, 0, 0, 0, 0, 0), (48, 3, 463, 334, 0, 2080, 3, 10, 0, 0), (27, 1, 0, 0, 1, 0, 0, 0, 0, 0)]
def xt333 : List (Nat × List XO) := [(0, q333_0), (6, q333_6), (28, q333_28), (29, q333_29), (36, q333_36), (39, q333_39), (49, q333_49), (93, q333_93),
  (121, q333_121), (131, q333_131), (156, q333_156)]
def q334_0 : List XO := [(5, 1, 1, 0, 0, 0, 0, 0, 0, 0), (48, 3, 66, 335, 1, 2084, 1, 99, 0, 0), (8, 2, 5, 0, 0, 0, 0, 0, 0, 0), (5, 1, 3, 0, 0, 0, 0, 0, 0, 0), (8, 2, 7, 0, 0, 0, 0, 0, 0, 0), (24, 0, 9, 0, 1, 0, 0, 0, 0, 0)]
def q334_9 : List XO := [(5, 2, 7, 0, 0, 0, 0, 0, 0, 0), (1, 1, 0, 0, 0, 0, 0, 0, 0, 0), (18, 1, 0, 0, 0, 0, 0, 0, 0, 0), (22, 3, 34, 0, 0, 0, 0, 0, 0, 0), (5, 2, 5, 0, 0, 0, 0, 0, 0, 0), (5, 2, 7, 0, 0, 0, 0, 0, 0, 0),
  (15, 1, 0, 0, 1, 0, 0, 0, 0, 0), (8, 2, 9, 0, 0, 0, 0, 0, 0, 0), (5, 2, 7, 0, 0, 0, 0, 0, 0, 0), (8, 2, 5, 0, 0, 0, 0, 0, 0, 0), (5, 2, 9, 0, 0, 0, 0, 0, 0, 0), (8, 2, 7, 0, 0, 0, 0, 0, 0, 0),
  (24, 3, 9, 0, 0, 0, 0, 0, 0, 0)]
def q334_34 : List XO := [(6, 1, 0, 0, 0, 0, 0, 0, 0, 0), (5, 1, 1, 0, 0, 0, 0, 0, 0, 0), (5, 2, 5, 0, 0, 0, 0, 0, 0, 0), (15, 1, 0, 0, 0, 0, 0, 0, 0, 0), (46, 3, 63, 10, 2, 1379, 0, 0, 0, 0), (6, 1, 0, 0, 0, 0, 0, 0, 0, 0),
  (5, 1, 3, 0, 0, 0, 0, 0, 0, 0), (5, 2, 5, 0, 0, 0, 0, 0, 0, 0), (15, 1, 0, 0, 0, 0, 0, 0, 0, 0), (46, 3, 7, 10, 3, 1380, 0, 0, 0, 0), (0, 1, 0, 0, 0, 0, 0, 0, 1, 0), (27, 1, 0, 0, 1, 0, 0, 0, 0, 0)]
def xt334 : List (Nat × List XO) := [(0, q334_0), (9, q334_9), (34, q334_34)]
def q335_0 : List XO := [(5, 1, 0, 0, 0, 0, 0, 0, 0, 0), (1, 1, 0, 0, 0, 0, 0, 0, 0, 0), (18, 1, 0, 0, 0, 0, 0, 0, 0, 0), (22, 3, 11, 0, 3, 0, 0, 0, 0, 0), (5, 1, 0, 0, 0, 0, 0, 0, 0, 0), (17, 1, 0, 0, 5, 0, 0, 0, 0, 0),
  (24, 3, 12, 0, 0, 0, 0, 0, 0, 0)]
def q335_11 : List XO := [(5, 1, 0, 0, 0, 0, 0, 0, 0, 0), (24, 0, 12, 0, 1, 0, 0, 0, 0, 0)]
def q335_12 : List XO := [(27, 1, 0, 0, 2, 0, 0, 0, 0, 0)]
def xt335 : List (Nat × List XO) := [(0, q335_0), (11, q335_11), (12, q335_12)]
def q336_0 : List XO := [(6, 1, 0, 0, 0, 0, 0, 0, 0, 0), (0, 1, 0, 0, 0, 0, 0, 0, 0, 0), (45, 3, 57, 10, 1, 1378, 0, 0, 0, 0), (6, 1, 0, 0, 0, 0, 0, 0, 0, 0), (0, 1, 0, 0, 0, 0, 0, 0, 0, 0), (45, 3, 60, 10, 0, 1377, 0, 0, 0, 0),
  (6, 1, 0, 0, 0, 0, 0, 0, 0, 0), (4, 1, 1, 0, 0, 0, 0, 0, 0, 0), (48, 3, 334, 269, 0, 1812, 2, 10, 0, 0), (22, 3, 24, 0, 1, 0, 0, 0, 0, 0), (6, 1, 0, 0, 0, 0, 0, 0, 0, 0), (0, 1, 0, 0, 0, 0, 0, 0, 2, 0),
  (48, 3, 72, 195, 0, 1517, 2, 10, 0, 0), (27, 1, 0, 0, 1, 0, 0, 0, 0, 0)]
def q336_24 : List XO := [(4, 1, 2, 0, 0, 0, 0, 0, 0, 0), (17, 1, 0, 0, 0, 0, 0, 0, 0, 0), (1, 1, 0, 0, 0, 0, 0, 0, 0, 0), (1, 3, 467, 0, 1, 2075, 0, 0, 0, 15), (48, 3, 92, 221, 1, 1620, 3, 10, 0, 0), (22, 3, 63, 0, 0, 0, 0, 0, 0, 0),
  (6, 1, 0, 0, 0, 0, 0, 0, 0, 0), (6, 1, 0, 0, 0, 0, 0, 0, 0, 0), (4, 1, 1, 0, 0, 0, 0, 0, 0, 0), (48, 3, 342, 272, 0, 1825, 2, 10, 0, 0), (6, 1, 0, 0, 0, 0, 0, 0, 0, 0), (48, 3, 325, 263, 0, 1788, 1, 10, 0, 0),
  (11, 1, 0, 0, 3, 0, 0, 0, 0, 0), (48, 3, 366, 282, 1, 1869, 1, 10, 0, 0), (4, 1, 2, 0, 0, 0, 0, 0, 0, 0), (6, 1, 0, 0, 0, 0, 0, 0, 0, 0), (44, 3, 35, 10, 20, 1397, 0, 0, 0, 0), (0, 1, 0, 0, 0, 0, 0, 0, 4, 0),
  (33, 1, 0, 0, 0, 0, 0, 0, 0, 0), (48, 3, 469, 333, 0, 2076, 4, 10, 0, 0), (24, 3, 68, 0, 0, 0, 0, 0, 0, 0)]
def q336_63 : List XO := [(6, 1, 0, 0, 0, 0, 0, 0, 0, 0), (0, 1, 0, 0, 0, 0, 0, 0, 5, 0), (48, 3, 72, 195, 0, 1517, 2, 10, 0, 0), (24, 0, 68, 0, 1, 0, 0, 0, 0, 0)]
def q336_68 : List XO := [(27, 1, 0, 0, 1, 0, 0, 0, 0, 0)]
def xt336 : List (Nat × List XO) := [(0, q336_0), (24, q336_24), (63, q336_63), (68, q336_68)]
def q337_0 : List XO := [(6, 1, 0, 0, 0, 0, 0, 0, 0, 0), (0, 1, 0, 0, 0, 0, 0, 0, 0, 0), (45, 3, 57, 10, 1, 1378, 0, 0, 0, 0), (6, 1, 0, 0, 0, 0, 0, 0, 0, 0), (0, 1, 0, 0, 0, 0, 0, 0, 0, 0), (45, 3, 60, 10, 0, 1377, 0, 0, 0, 0),
  (6, 1, 0, 0, 0, 0, 0, 0, 0, 0), (4, 1, 1, 0, 0, 0, 0, 0, 0, 0), (48, 3, 334, 269, 0, 1812, 2, 10, 0, 0), (22, 3, 54, 0, 0, 0, 0, 0, 0, 0), (6, 1, 0, 0, 0, 0, 0, 0, 0, 0), (6, 1, 0, 0, 0, 0, 0, 0, 0, 0),
  (4, 1, 1, 0, 0, 0, 0, 0, 0, 0), (48, 3, 342, 272, 0, 1825, 2, 10, 0, 0), (48, 3, 366, 282, 1, 1869, 1, 10, 0, 0), (17, 1, 0, 0, 0, 0, 0, 0, 0, 0), (6, 1, 0, 0, 0, 0, 0, 0, 0, 0), (44, 3, 35, 10, 20, 1397, 0, 0, 0, 0),
  (0, 2, 0, 0, 1, 0, 0, 0, 43, 0), (4, 1, 1, 0, 0, 0, 0, 0, 0, 0), (11, 1, 0, 0, 0, 0, 0, 0, 0, 0), (33, 1, 0, 0, 0, 0, 0, 0, 0, 0), (6, 1, 0, 0, 0, 0, 0, 0, 0, 0), (44, 3, 35, 10, 20, 1397, 0, 0, 0, 0),
  (0, 2, 0, 0, 1, 0, 0, 0, 49, 0), (4, 1, 1, 0, 0, 0, 0, 0, 0, 0), (11, 1, 0, 0, 0, 0, 0, 0, 0, 0), (33, 1, 0, 0, 0, 0, 0, 0, 0, 0), (11, 1, 0, 0, 2, 0, 0, 0, 0, 0), (17, 1, 0, 0, 0, 0, 0, 0, 0, 0),
  (48, 3, 463, 334, 0, 2080, 3, 10, 0, 0), (24, 3, 59, 0, 0, 0, 0, 0, 0, 0)]
def q337_54 : List XO := [(6, 1, 0, 0, 0, 0, 0, 0, 0, 0), (0, 1, 0, 0, 0, 0, 0, 0, 2, 0), (48, 3, 72, 195, 0, 1517, 2, 10, 0, 0), (24, 0, 59, 0, 1, 0, 0, 0, 0, 0)]
def q337_59 : List XO := [(27, 1, 0, 0, 1, 0, 0, 0, 0, 0)]
def xt337 : List (Nat × List XO) := [(0, q337_0), (54, q337_54), (59, q337_59)]
def q338_0 : List XO := [(6, 1, 0, 0, 0, 0, 0, 0, 0, 0), (0, 1, 0, 0, 0, 0, 0, 0, 0, 0), (45, 3, 57, 10, 1, 1378, 0, 0, 0, 0), (6, 1, 0, 0, 0, 0, 0, 0, 0, 0), (0, 1, 0, 0, 0, 0, 0, 0, 0, 0), (45, 3, 60, 10, 0, 1377, 0, 0, 0, 0),
  (4, 1, 1, 0, 0, 0, 0, 0, 0, 0), (17, 1, 0, 0, 0, 0, 0, 0, 0, 0), (1, 1, 0, 0, 0, 0, 0, 0, 0, 0), (1, 3, 518, 0, 1, 2099, 0, 0, 0, 9999), (48, 3, 92, 221, 1, 1620, 3, 10, 0, 0), (22, 3, 28, 0, 1, 0, 0, 0, 0, 0),
  (6, 1, 0, 0, 0, 0, 0, 0, 0, 0), (0, 1, 0, 0, 0, 0, 0, 0, 5, 0), (48, 3, 319, 261, 0, 1780, 2, 10, 0, 0), (27, 1, 0, 0, 0, 0, 0, 0, 0, 0)]
def q338_28 : List XO := [(6, 1, 0, 0, 0, 0, 0, 0, 0, 0), (44, 3, 35, 10, 20, 1397, 0, 0, 0, 0), (0, 2, 0, 0, 1, 0, 0, 0, 73, 0), (33, 1, 0, 0, 0, 0, 0, 0, 0, 0), (22, 3, 45, 0, 1, 0, 0, 0, 0, 0), (6, 1, 0, 0, 0, 0, 0, 0, 0, 0),
  (0, 2, 0, 0, 1, 0, 0, 0, 8, 0), (48, 3, 319, 261, 0, 1780, 2, 10, 0, 0), (27, 1, 0, 0, 0, 0, 0, 0, 0, 0)]
def q338_45 : List XO := [(6, 1, 0, 0, 0, 0, 0, 0, 0, 0), (4, 1, 1, 0, 0, 0, 0, 0, 0, 0), (48, 3, 520, 339, 0, 2100, 2, 10, 0, 0), (6, 1, 0, 0, 0, 0, 0, 0, 0, 0), (44, 3, 50, 10, 31, 1408, 0, 0, 0, 0), (0, 1, 0, 0, 0, 0, 0, 0, 0, 0),
  (6, 1, 0, 0, 0, 0, 0, 0, 0, 0), (42, 3, 497, 10, 36, 1413, 0, 0, 0, 0), (34, 1, 0, 0, 0, 0, 0, 0, 0, 0), (6, 1, 0, 0, 0, 0, 0, 0, 0, 0), (44, 3, 50, 10, 31, 1408, 0, 0, 0, 0), (0, 1, 0, 0, 0, 0, 0, 0, 1, 0),
  (6, 1, 0, 0, 0, 0, 0, 0, 0, 0), (44, 3, 35, 10, 20, 1397, 0, 0, 0, 0), (0, 1, 0, 0, 0, 0, 0, 0, 5, 0), (33, 1, 0, 0, 0, 0, 0, 0, 0, 0), (6, 1, 0, 0, 0, 0, 0, 0, 0, 0), (42, 3, 512, 10, 37, 1414, 0, 0, 0, 0),
  (11, 1, 0, 0, 1, 0, 0, 0, 0, 0), (34, 1, 0, 0, 0, 0, 0, 0, 0, 0), (6, 1, 0, 0, 0, 0, 0, 0, 0, 0), (44, 3, 50, 10, 31, 1408, 0, 0, 0, 0), (0, 1, 0, 0, 0, 0, 0, 0, 2, 0), (6, 1, 0, 0, 0, 0, 0, 0, 0, 0),
  (44, 3, 35, 10, 20, 1397, 0, 0, 0, 0), (0, 2, 0, 0, 1, 0, 0, 0, 6, 0), (33, 1, 0, 0, 0, 0, 0, 0, 0, 0), (6, 1, 0, 0, 0, 0, 0, 0, 0, 0), (42, 3, 515, 10, 38, 1415, 0, 0, 0, 0), (11, 1, 0, 0, 1, 0, 0, 0, 0, 0),
  (34, 1, 0, 0, 0, 0, 0, 0, 0, 0), (6, 1, 0, 0, 0, 0, 0, 0, 0, 0), (44, 3, 50, 10, 31, 1408, 0, 0, 0, 0), (0, 1, 0, 0, 0, 0, 0, 0, 3, 0), (6, 1, 0, 0, 0, 0, 0, 0, 0, 0), (42, 3, 476, 10, 39, 1416, 0, 0, 0, 0),
  (34, 1, 0, 0, 0, 0, 0, 0, 0, 0), (6, 1, 0, 0, 0, 0, 0, 0, 0, 0), (44, 3, 50, 10, 31, 1408, 0, 0, 0, 0), (0, 1, 0, 0, 0, 0, 0, 0, 4, 0), (6, 1, 0, 0, 0, 0, 0, 0, 0, 0), (42, 3, 494, 10, 40, 1417, 0, 0, 0, 0),
  (34, 1, 0, 0, 0, 0, 0, 0, 0, 0), (6, 1, 0, 0, 0, 0, 0, 0, 0, 0), (0, 1, 0, 0, 0, 0, 0, 0, 1, 0), (61, 3, 523, 10, 32, 1409, 0, 0, 0, 0), (6, 1, 0, 0, 0, 0, 0, 0, 0, 0), (42, 3, 488, 10, 35, 1412, 0, 0, 0, 0),
  (27, 1, 0, 0, 0, 0, 0, 0, 0, 0)]
def xt338 : List (Nat × List XO) := [(0, q338_0), (28, q338_28), (45, q338_45)]
def q339_0 : List XO := [(6, 1, 0, 0, 0, 0, 0, 0, 0, 0), (4, 1, 1, 0, 0, 0, 0, 0, 0, 0), (45, 3, 472, 10, 34, 1411, 0, 0, 0, 0), (6, 1, 0, 0, 0, 0, 0, 0, 0, 0), (0, 1, 0, 0, 0, 0, 0, 0, 0, 0), (45, 3, 488, 10, 35, 1412, 0, 0, 0, 0),
  (6, 1, 0, 0, 0, 0, 0, 0, 0, 0), (0, 1, 0, 0, 0, 0, 0, 0, 0, 0), (45, 3, 497, 10, 36, 1413, 0, 0, 0, 0), (6, 1, 0, 0, 0, 0, 0, 0, 0, 0), (6, 1, 0, 0, 0, 0, 0, 0, 0, 0), (44, 3, 35, 10, 20, 1397, 0, 0, 0, 0),
  (0, 1, 0, 0, 0, 0, 0, 0, 5, 0), (33, 1, 0, 0, 0, 0, 0, 0, 0, 0), (45, 3, 512, 10, 37, 1414, 0, 0, 0, 0), (6, 1, 0, 0, 0, 0, 0, 0, 0, 0), (6, 1, 0, 0, 0, 0, 0, 0, 0, 0), (44, 3, 35, 10, 20, 1397, 0, 0, 0, 0),
  (0, 2, 0, 0, 1, 0, 0, 0, 6, 0), (33, 1, 0, 0, 0, 0, 0, 0, 0, 0), (45, 3, 515, 10, 38, 1415, 0, 0, 0, 0), (6, 1, 0, 0, 0, 0, 0, 0, 0, 0), (0, 1, 0, 0, 0, 0, 0, 0, 0, 0), (45, 3, 476, 10, 39, 1416, 0, 0, 0, 0),
  (6, 1, 0, 0, 0, 0, 0, 0, 0, 0), (0, 1, 0, 0, 0, 0, 0, 0, 0, 0), (45, 3, 494, 10, 40, 1417, 0, 0, 0, 0), (6, 1, 0, 0, 0, 0, 0, 0, 0, 0), (0, 1, 0, 0, 0, 0, 0, 0, 0, 0), (61, 3, 491, 10, 33, 1410, 0, 0, 0, 0),
  (6, 1, 0, 0, 0, 0, 0, 0, 0, 0), (0, 1, 0, 0, 0, 0, 0, 0, 0, 0), (6, 1, 0, 0, 0, 0, 0, 0, 0, 0), (44, 3, 35, 10, 20, 1397, 0, 0, 0, 0), (0, 2, 0, 0, 1, 0, 0, 0, 74, 0), (33, 1, 0, 0, 0, 0, 0, 0, 0, 0),
  (48, 3, 506, 340, 0, 2104, 3, 10, 0, 0), (27, 1, 0, 0, 3, 0, 0, 0, 0, 0)]
def xt339 : List (Nat × List XO) := [(0, q339_0)]
def q340_0 : List XO := [(4, 1, 1, 0, 0, 0, 0, 0, 0, 0), (7, 1, 3, 0, 0, 0, 0, 0, 0, 0), (24, 0, 2, 0, 1, 0, 0, 0, 0, 0)]
def q340_2 : List XO := [(4, 1, 3, 0, 0, 0, 0, 0, 0, 0), (4, 1, 2, 0, 0, 0, 0, 0, 0, 0), (23, 3, 38, 0, 3, 0, 0, 0, 0, 0), (6, 1, 0, 0, 0, 0, 0, 0, 0, 0), (42, 3, 491, 10, 33, 1410, 0, 0, 0, 0), (22, 3, 38, 0, 1, 0, 0, 0, 0, 0),
  (6, 1, 0, 0, 0, 0, 0, 0, 0, 0), (4, 1, 3, 0, 0, 0, 0, 0, 0, 0), (48, 3, 509, 341, 0, 2108, 2, 10, 0, 0), (6, 1, 0, 0, 0, 0, 0, 0, 0, 0), (44, 3, 35, 10, 20, 1397, 0, 0, 0, 0), (0, 2, 0, 0, 1, 0, 0, 0, 75, 0),
  (0, 2, 0, 0, 1, 0, 0, 0, 9, 0), (4, 1, 3, 0, 0, 0, 0, 0, 0, 0), (11, 1, 0, 0, 2, 0, 0, 0, 0, 0), (11, 1, 0, 0, 0, 0, 0, 0, 0, 0), (0, 2, 0, 0, 1, 0, 0, 0, 8, 0), (11, 1, 0, 0, 0, 0, 0, 0, 0, 0),
  (33, 1, 0, 0, 0, 0, 0, 0, 0, 0), (7, 1, 3, 0, 0, 0, 0, 0, 0, 0), (24, 3, 2, 0, 0, 0, 0, 0, 0, 0)]
def q340_38 : List XO := [(27, 1, 0, 0, 3, 0, 0, 0, 0, 0)]
def xt340 : List (Nat × List XO) := [(0, q340_0), (2, q340_2), (38, q340_38)]
def q341_0 : List XO := [(6, 1, 0, 0, 0, 0, 0, 0, 0, 0), (42, 3, 488, 10, 35, 1412, 0, 0, 0, 0), (0, 3, 0, 0, 2, 0, 0, 0, 300, 0), (23, 3, 21, 0, 1, 0, 0, 0, 0, 0), (6, 1, 0, 0, 0, 0, 0, 0, 0, 0), (0, 1, 0, 0, 0, 0, 0, 0, 1, 0),
  (61, 3, 491, 10, 33, 1410, 0, 0, 0, 0), (6, 1, 0, 0, 0, 0, 0, 0, 0, 0), (0, 1, 0, 0, 0, 0, 0, 0, 1, 0), (45, 3, 494, 10, 40, 1417, 0, 0, 0, 0), (27, 1, 0, 0, 3, 0, 0, 0, 0, 0)]
def q341_21 : List XO := [(6, 1, 0, 0, 0, 0, 0, 0, 0, 0), (19, 1, 0, 0, 0, 0, 0, 0, 0, 0), (42, 3, 488, 10, 35, 1412, 0, 0, 0, 0), (0, 1, 0, 0, 0, 0, 0, 0, 1, 0), (11, 1, 0, 0, 0, 0, 0, 0, 0, 0), (45, 3, 488, 10, 35, 1412, 0, 0, 0, 0),
  (0, 2, 0, 0, 1, 0, 0, 0, 75, 0), (0, 2, 0, 0, 1, 0, 0, 0, 9, 0), (4, 1, 1, 0, 0, 0, 0, 0, 0, 0), (11, 1, 0, 0, 2, 0, 0, 0, 0, 0), (11, 1, 0, 0, 0, 0, 0, 0, 0, 0), (7, 1, 2, 0, 0, 0, 0, 0, 0, 0),
  (6, 1, 0, 0, 0, 0, 0, 0, 0, 0), (44, 3, 35, 10, 20, 1397, 0, 0, 0, 0), (4, 1, 2, 0, 0, 0, 0, 0, 0, 0), (33, 1, 0, 0, 0, 0, 0, 0, 0, 0), (7, 1, 3, 0, 0, 0, 0, 0, 0, 0), (4, 1, 3, 0, 0, 0, 0, 0, 0, 0),
  (0, 2, 0, 0, 1, 0, 0, 0, 8, 0), (23, 3, 77, 0, 3, 0, 0, 0, 0, 0), (6, 1, 0, 0, 0, 0, 0, 0, 0, 0), (19, 1, 0, 0, 0, 0, 0, 0, 0, 0), (42, 3, 497, 10, 36, 1413, 0, 0, 0, 0), (6, 1, 0, 0, 0, 0, 0, 0, 0, 0),
  (4, 1, 2, 0, 0, 0, 0, 0, 0, 0), (48, 3, 500, 342, 0, 2112, 2, 10, 0, 0), (22, 3, 69, 0, 0, 0, 0, 0, 0, 0), (0, 1, 0, 0, 0, 0, 0, 0, 0, 0), (24, 3, 70, 0, 0, 0, 0, 0, 0, 0)]
def q341_69 : List XO := [(0, 1, 0, 0, 0, 0, 0, 0, 1, 0), (24, 0, 70, 0, 1, 0, 0, 0, 0, 0)]
def q341_70 : List XO := [(11, 1, 0, 0, 0, 0, 0, 0, 0, 0), (45, 3, 497, 10, 36, 1413, 0, 0, 0, 0), (24, 3, 175, 0, 0, 0, 0, 0, 0, 0)]
def q341_77 : List XO := [(4, 1, 3, 0, 0, 0, 0, 0, 0, 0), (0, 2, 0, 0, 1, 0, 0, 0, 8, 0), (23, 3, 110, 0, 1, 0, 0, 0, 0, 0), (6, 1, 0, 0, 0, 0, 0, 0, 0, 0), (4, 1, 2, 0, 0, 0, 0, 0, 0, 0), (48, 3, 503, 346, 0, 2129, 2, 10, 0, 0),
  (22, 3, 110, 0, 0, 0, 0, 0, 0, 0), (6, 1, 0, 0, 0, 0, 0, 0, 0, 0), (4, 1, 1, 0, 0, 0, 0, 0, 0, 0), (0, 1, 0, 0, 0, 0, 0, 0, 1, 0), (11, 1, 0, 0, 0, 0, 0, 0, 0, 0), (6, 1, 0, 0, 0, 0, 0, 0, 0, 0),
  (44, 3, 35, 10, 20, 1397, 0, 0, 0, 0), (4, 1, 2, 0, 0, 0, 0, 0, 0, 0), (0, 2, 0, 0, 1, 0, 0, 0, 8, 0), (11, 1, 0, 0, 0, 0, 0, 0, 0, 0), (33, 1, 0, 0, 0, 0, 0, 0, 0, 0), (48, 3, 506, 340, 0, 2104, 3, 10, 0, 0),
  (24, 3, 175, 0, 0, 0, 0, 0, 0, 0)]
def q341_110 : List XO := [(4, 1, 3, 0, 0, 0, 0, 0, 0, 0), (0, 2, 0, 0, 1, 0, 0, 0, 9, 0), (23, 3, 164, 0, 1, 0, 0, 0, 0, 0), (0, 1, 0, 0, 0, 0, 0, 0, 0, 0), (7, 2, 4, 0, 0, 0, 0, 0, 0, 0), (24, 0, 119, 0, 1, 0, 0, 0, 0, 0)]
def q341_119 : List XO := [(4, 2, 4, 0, 0, 0, 0, 0, 0, 0), (6, 1, 0, 0, 0, 0, 0, 0, 0, 0), (44, 3, 35, 10, 20, 1397, 0, 0, 0, 0), (4, 1, 2, 0, 0, 0, 0, 0, 0, 0), (0, 1, 0, 0, 0, 0, 0, 0, 1, 0), (11, 1, 0, 0, 0, 0, 0, 0, 0, 0),
  (33, 1, 0, 0, 0, 0, 0, 0, 0, 0), (23, 3, 161, 0, 3, 0, 0, 0, 0, 0), (6, 1, 0, 0, 0, 0, 0, 0, 0, 0), (42, 3, 491, 10, 33, 1410, 0, 0, 0, 0), (22, 3, 161, 0, 1, 0, 0, 0, 0, 0), (6, 1, 0, 0, 0, 0, 0, 0, 0, 0),
  (4, 1, 1, 0, 0, 0, 0, 0, 0, 0), (0, 1, 0, 0, 0, 0, 0, 0, 1, 0), (11, 1, 0, 0, 0, 0, 0, 0, 0, 0), (6, 1, 0, 0, 0, 0, 0, 0, 0, 0), (44, 3, 35, 10, 20, 1397, 0, 0, 0, 0), (4, 1, 2, 0, 0, 0, 0, 0, 0, 0),
  (0, 2, 0, 0, 1, 0, 0, 0, 8, 0), (11, 1, 0, 0, 0, 0, 0, 0, 0, 0), (33, 1, 0, 0, 0, 0, 0, 0, 0, 0), (48, 3, 506, 340, 0, 2104, 3, 10, 0, 0), (10, 3, 4, 0, 0, 0, 0, 0, 1, 0), (24, 3, 119, 0, 0, 0, 0, 0, 0, 0)]
def q341_161 : List XO := [(24, 3, 175, 0, 0, 0, 0, 0, 0, 0)]
def q341_164 : List XO := [(4, 1, 3, 0, 0, 0, 0, 0, 0, 0), (0, 2, 0, 0, 1, 0, 0, 0, 9, 0), (23, 3, 175, 0, 5, 0, 0, 0, 0, 0), (6, 1, 0, 0, 0, 0, 0, 0, 0, 0), (0, 1, 0, 0, 0, 0, 0, 0, 1, 0), (61, 3, 491, 10, 33, 1410, 0, 0, 0, 0),
  (24, 0, 175, 0, 1, 0, 0, 0, 0, 0)]
def q341_175 : List XO := [(27, 1, 0, 0, 3, 0, 0, 0, 0, 0)]
def xt341 : List (Nat × List XO) := [(0, q341_0), (21, q341_21), (69, q341_69), (70, q341_70), (77, q341_77), (110, q341_110), (119, q341_119), (161, q341_161),
  (164, q341_164), (175, q341_175)]
def q342_0 : List XO := [(6, 1, 0, 0, 0, 0, 0, 0, 0, 0), (44, 3, 35, 10, 20, 1397, 0, 0, 0, 0), (4, 1, 1, 0, 0, 0, 0, 0, 0, 0), (33, 1, 0, 0, 0, 0, 0, 0, 0, 0), (7, 1, 2, 0, 0, 0, 0, 0, 0, 0), (6, 1, 0, 0, 0, 0, 0, 0, 0, 0),
  (44, 3, 35, 10, 20, 1397, 0, 0, 0, 0), (4, 1, 1, 0, 0, 0, 0, 0, 0, 0), (0, 1, 0, 0, 0, 0, 0, 0, 1, 0), (11, 1, 0, 0, 0, 0, 0, 0, 0, 0), (33, 1, 0, 0, 0, 0, 0, 0, 0, 0), (7, 1, 3, 0, 0, 0, 0, 0, 0, 0),
  (4, 1, 2, 0, 0, 0, 0, 0, 0, 0), (22, 3, 34, 0, 1, 0, 0, 0, 0, 0), (6, 1, 0, 0, 0, 0, 0, 0, 0, 0), (4, 1, 3, 0, 0, 0, 0, 0, 0, 0), (6, 1, 0, 0, 0, 0, 0, 0, 0, 0), (44, 3, 35, 10, 20, 1397, 0, 0, 0, 0),
  (4, 1, 1, 0, 0, 0, 0, 0, 0, 0), (0, 1, 0, 0, 0, 0, 0, 0, 2, 0), (11, 1, 0, 0, 0, 0, 0, 0, 0, 0), (33, 1, 0, 0, 0, 0, 0, 0, 0, 0), (48, 3, 482, 343, 0, 2116, 3, 10, 0, 0), (27, 1, 0, 0, 1, 0, 0, 0, 0, 0)]
def q342_34 : List XO := [(4, 1, 2, 0, 0, 0, 0, 0, 0, 0), (0, 1, 0, 0, 0, 0, 0, 0, 1, 0), (23, 3, 53, 0, 1, 0, 0, 0, 0, 0), (6, 1, 0, 0, 0, 0, 0, 0, 0, 0), (4, 1, 3, 0, 0, 0, 0, 0, 0, 0), (48, 3, 360, 278, 0, 1853, 2, 10, 0, 0),
  (22, 3, 51, 0, 5, 0, 0, 0, 0, 0), (0, 1, 0, 0, 0, 0, 0, 0, 1, 0), (24, 3, 52, 0, 0, 0, 0, 0, 0, 0)]
def q342_51 : List XO := [(0, 1, 0, 0, 0, 0, 0, 0, 0, 0), (24, 0, 52, 0, 1, 0, 0, 0, 0, 0)]
def q342_52 : List XO := [(27, 1, 0, 0, 1, 0, 0, 0, 0, 0)]
def q342_53 : List XO := [(4, 1, 2, 0, 0, 0, 0, 0, 0, 0), (0, 1, 0, 0, 0, 0, 0, 0, 2, 0), (23, 3, 63, 0, 0, 0, 0, 0, 0, 0), (4, 1, 2, 0, 0, 0, 0, 0, 0, 0), (0, 1, 0, 0, 0, 0, 0, 0, 3, 0), (23, 3, 82, 0, 1, 0, 0, 0, 0, 0),
  (24, 0, 63, 0, 1, 0, 0, 0, 0, 0)]
def q342_63 : List XO := [(6, 1, 0, 0, 0, 0, 0, 0, 0, 0), (0, 2, 0, 0, 1, 0, 0, 0, 61, 0), (4, 1, 3, 0, 0, 0, 0, 0, 0, 0), (11, 1, 0, 0, 0, 0, 0, 0, 0, 0), (4, 1, 2, 0, 0, 0, 0, 0, 0, 0), (0, 1, 0, 0, 0, 0, 0, 0, 2, 0),
  (23, 3, 77, 0, 1, 0, 0, 0, 0, 0), (0, 1, 0, 0, 0, 0, 0, 0, 1, 0), (24, 3, 78, 0, 0, 0, 0, 0, 0, 0)]
def q342_77 : List XO := [(0, 1, 0, 0, 0, 0, 0, 0, 0, 0), (24, 0, 78, 0, 1, 0, 0, 0, 0, 0)]
def q342_78 : List XO := [(48, 3, 363, 280, 0, 1861, 3, 10, 0, 0), (27, 1, 0, 0, 1, 0, 0, 0, 0, 0)]
def q342_82 : List XO := [(4, 1, 2, 0, 0, 0, 0, 0, 0, 0), (0, 1, 0, 0, 0, 0, 0, 0, 4, 0), (23, 3, 101, 0, 1, 0, 0, 0, 0, 0), (6, 1, 0, 0, 0, 0, 0, 0, 0, 0), (4, 1, 3, 0, 0, 0, 0, 0, 0, 0), (6, 1, 0, 0, 0, 0, 0, 0, 0, 0),
  (44, 3, 35, 10, 20, 1397, 0, 0, 0, 0), (4, 1, 1, 0, 0, 0, 0, 0, 0, 0), (0, 1, 0, 0, 0, 0, 0, 0, 2, 0), (11, 1, 0, 0, 0, 0, 0, 0, 0, 0), (33, 1, 0, 0, 0, 0, 0, 0, 0, 0), (48, 3, 369, 283, 0, 1872, 3, 10, 0, 0),
  (27, 1, 0, 0, 1, 0, 0, 0, 0, 0)]
def q342_101 : List XO := [(4, 1, 2, 0, 0, 0, 0, 0, 0, 0), (0, 1, 0, 0, 0, 0, 0, 0, 5, 0), (23, 3, 116, 0, 1, 0, 0, 0, 0, 0), (6, 1, 0, 0, 0, 0, 0, 0, 0, 0), (0, 2, 0, 0, 1, 0, 0, 0, 67, 0), (4, 1, 3, 0, 0, 0, 0, 0, 0, 0),
  (11, 1, 0, 0, 0, 0, 0, 0, 0, 0), (0, 1, 0, 0, 0, 0, 0, 0, 0, 0), (48, 3, 363, 280, 0, 1861, 3, 10, 0, 0), (27, 1, 0, 0, 1, 0, 0, 0, 0, 0)]
def q342_116 : List XO := [(4, 1, 2, 0, 0, 0, 0, 0, 0, 0), (0, 2, 0, 0, 1, 0, 0, 0, 6, 0), (23, 3, 164, 0, 1, 0, 0, 0, 0, 0), (6, 1, 0, 0, 0, 0, 0, 0, 0, 0), (0, 1, 0, 0, 0, 0, 0, 0, 1, 0), (4, 1, 3, 0, 0, 0, 0, 0, 0, 0),
  (11, 1, 0, 0, 6, 0, 0, 0, 0, 0), (6, 1, 0, 0, 0, 0, 0, 0, 0, 0), (44, 3, 35, 10, 20, 1397, 0, 0, 0, 0), (4, 1, 1, 0, 0, 0, 0, 0, 0, 0), (0, 1, 0, 0, 0, 0, 0, 0, 2, 0), (11, 1, 0, 0, 0, 0, 0, 0, 0, 0),
  (33, 1, 0, 0, 0, 0, 0, 0, 0, 0), (6, 1, 0, 0, 0, 0, 0, 0, 0, 0), (44, 3, 35, 10, 20, 1397, 0, 0, 0, 0), (4, 1, 1, 0, 0, 0, 0, 0, 0, 0), (0, 1, 0, 0, 0, 0, 0, 0, 3, 0), (11, 1, 0, 0, 0, 0, 0, 0, 0, 0),
  (33, 1, 0, 0, 0, 0, 0, 0, 0, 0), (6, 1, 0, 0, 0, 0, 0, 0, 0, 0), (44, 3, 35, 10, 20, 1397, 0, 0, 0, 0), (4, 1, 1, 0, 0, 0, 0, 0, 0, 0), (0, 1, 0, 0, 0, 0, 0, 0, 4, 0), (11, 1, 0, 0, 0, 0, 0, 0, 0, 0),
  (33, 1, 0, 0, 0, 0, 0, 0, 0, 0), (48, 3, 410, 293, 0, 1914, 5, 10, 0, 0), (22, 3, 160, 0, 2, 0, 0, 0, 0, 0), (0, 1, 0, 0, 0, 0, 0, 0, 1, 0), (24, 3, 168, 0, 0, 0, 0, 0, 0, 0)]
def q342_160 : List XO := [(0, 1, 0, 0, 0, 0, 0, 0, 0, 0), (24, 3, 168, 0, 0, 0, 0, 0, 0, 0)]
def q342_164 : List XO := [(6, 1, 0, 0, 0, 0, 0, 0, 0, 0), (48, 3, 485, 344, 0, 2120, 1, 10, 0, 0), (24, 0, 168, 0, 1, 0, 0, 0, 0, 0)]
def q342_168 : List XO := [(27, 1, 0, 0, 1, 0, 0, 0, 0, 0)]
def xt342 : List (Nat × List XO) := [(0, q342_0), (34, q342_34), (51, q342_51), (52, q342_52), (53, q342_53), (63, q342_63), (77, q342_77), (78, q342_78),
  (82, q342_82), (101, q342_101), (116, q342_116), (160, q342_160), (164, q342_164), (168, q342_168)]
def q343_0 : List XO := [(6, 1, 0, 0, 0, 0, 0, 0, 0, 0), (4, 1, 1, 0, 0, 0, 0, 0, 0, 0), (4, 1, 2, 0, 0, 0, 0, 0, 0, 0), (48, 3, 357, 276, 0, 1844, 3, 10, 0, 0), (22, 3, 11, 0, 1, 0, 0, 0, 0, 0), (0, 1, 0, 0, 0, 0, 0, 0, 0, 0),
  (27, 1, 0, 0, 1, 0, 0, 0, 0, 0)]
def q343_11 : List XO := [(6, 1, 0, 0, 0, 0, 0, 0, 0, 0), (19, 1, 0, 0, 0, 0, 0, 0, 0, 0), (42, 3, 476, 10, 39, 1416, 0, 0, 0, 0), (0, 1, 0, 0, 0, 0, 0, 0, 1, 0), (11, 1, 0, 0, 0, 0, 0, 0, 0, 0), (45, 3, 476, 10, 39, 1416, 0, 0, 0, 0),
  (0, 1, 0, 0, 0, 0, 0, 0, 1, 0), (27, 1, 0, 0, 1, 0, 0, 0, 0, 0)]
def xt343 : List (Nat × List XO) := [(0, q343_0), (11, q343_11)]
def q344_0 : List XO := [(6, 1, 0, 0, 0, 0, 0, 0, 0, 0), (44, 3, 35, 10, 20, 1397, 0, 0, 0, 0), (0, 1, 0, 0, 0, 0, 0, 0, 3, 0), (33, 1, 0, 0, 0, 0, 0, 0, 0, 0), (22, 3, 11, 0, 1, 0, 0, 0, 0, 0), (0, 1, 0, 0, 0, 0, 0, 0, 0, 0),
  (27, 1, 0, 0, 1, 0, 0, 0, 0, 0)]
def q344_11 : List XO := [(6, 1, 0, 0, 0, 0, 0, 0, 0, 0), (6, 1, 0, 0, 0, 0, 0, 0, 0, 0), (44, 3, 35, 10, 20, 1397, 0, 0, 0, 0), (0, 1, 0, 0, 0, 0, 0, 0, 3, 0), (33, 1, 0, 0, 0, 0, 0, 0, 0, 0), (48, 3, 479, 345, 0, 2124, 2, 10, 0, 0),
  (7, 1, 1, 0, 0, 0, 0, 0, 0, 0), (6, 1, 0, 0, 0, 0, 0, 0, 0, 0), (0, 2, 0, 0, 1, 0, 0, 0, 16, 0), (48, 3, 479, 345, 0, 2124, 2, 10, 0, 0), (6, 1, 0, 0, 0, 0, 0, 0, 0, 0), (44, 3, 35, 10, 20, 1397, 0, 0, 0, 0),
  (0, 1, 0, 0, 0, 0, 0, 0, 4, 0), (33, 1, 0, 0, 0, 0, 0, 0, 0, 0), (23, 3, 44, 0, 3, 0, 0, 0, 0, 0), (6, 1, 0, 0, 0, 0, 0, 0, 0, 0), (4, 1, 1, 0, 0, 0, 0, 0, 0, 0), (0, 1, 0, 0, 0, 0, 0, 0, 1, 0),
  (48, 3, 482, 343, 0, 2116, 3, 10, 0, 0), (27, 1, 0, 0, 1, 0, 0, 0, 0, 0)]
def q344_44 : List XO := [(6, 1, 0, 0, 0, 0, 0, 0, 0, 0), (44, 3, 35, 10, 20, 1397, 0, 0, 0, 0), (0, 2, 0, 0, 1, 0, 0, 0, 61, 0), (4, 1, 1, 0, 0, 0, 0, 0, 0, 0), (11, 1, 0, 0, 0, 0, 0, 0, 0, 0), (0, 1, 0, 0, 0, 0, 0, 0, 1, 0),
  (6, 1, 0, 0, 0, 0, 0, 0, 0, 0), (44, 3, 35, 10, 20, 1397, 0, 0, 0, 0), (0, 2, 0, 0, 1, 0, 0, 0, 61, 0), (4, 1, 1, 0, 0, 0, 0, 0, 0, 0), (11, 1, 0, 0, 0, 0, 0, 0, 0, 0), (33, 1, 0, 0, 0, 0, 0, 0, 0, 0),
  (11, 1, 0, 0, 1, 0, 0, 0, 0, 0), (34, 1, 0, 0, 0, 0, 0, 0, 0, 0), (0, 1, 0, 0, 0, 0, 0, 0, 1, 0), (27, 1, 0, 0, 1, 0, 0, 0, 0, 0)]
def xt344 : List (Nat × List XO) := [(0, q344_0), (11, q344_11), (44, q344_44)]
def q345_0 : List XO := [(6, 1, 0, 0, 0, 0, 0, 0, 0, 0), (6, 1, 0, 0, 0, 0, 0, 0, 0, 0), (42, 3, 472, 10, 34, 1411, 0, 0, 0, 0), (0, 3, 0, 0, 2, 0, 0, 0, 2971, 0), (11, 1, 0, 0, 2, 0, 0, 0, 0, 0), (0, 3, 0, 0, 2, 0, 0, 0, 10883, 0),
  (11, 1, 0, 0, 0, 0, 0, 0, 0, 0), (0, 3, 475, 0, 4, 2128, 0, 0, 65536, 0), (12, 1, 0, 0, 1, 0, 0, 0, 0, 0), (45, 3, 472, 10, 34, 1411, 0, 0, 0, 0), (6, 1, 0, 0, 0, 0, 0, 0, 0, 0), (42, 3, 472, 10, 34, 1411, 0, 0, 0, 0),
  (0, 2, 0, 0, 1, 0, 0, 0, 8, 0), (12, 1, 0, 0, 0, 0, 0, 0, 0, 0), (4, 1, 1, 0, 0, 0, 0, 0, 0, 0), (12, 1, 0, 0, 1, 0, 0, 0, 0, 0), (27, 1, 0, 0, 0, 0, 0, 0, 0, 0)]
def xt345 : List (Nat × List XO) := [(0, q345_0)]
def q346_0 : List XO := [(6, 1, 0, 0, 0, 0, 0, 0, 0, 0), (44, 3, 35, 10, 20, 1397, 0, 0, 0, 0), (4, 1, 1, 0, 0, 0, 0, 0, 0, 0), (0, 1, 0, 0, 0, 0, 0, 0, 5, 0), (11, 1, 0, 0, 0, 0, 0, 0, 0, 0), (33, 1, 0, 0, 0, 0, 0, 0, 0, 0),
  (7, 1, 2, 0, 0, 0, 0, 0, 0, 0), (6, 1, 0, 0, 0, 0, 0, 0, 0, 0), (44, 3, 35, 10, 20, 1397, 0, 0, 0, 0), (4, 1, 1, 0, 0, 0, 0, 0, 0, 0), (0, 1, 0, 0, 0, 0, 0, 0, 1, 0), (11, 1, 0, 0, 0, 0, 0, 0, 0, 0),
  (33, 1, 0, 0, 0, 0, 0, 0, 0, 0), (7, 1, 3, 0, 0, 0, 0, 0, 0, 0), (4, 1, 2, 0, 0, 0, 0, 0, 0, 0), (22, 3, 39, 0, 1, 0, 0, 0, 0, 0), (6, 1, 0, 0, 0, 0, 0, 0, 0, 0), (4, 1, 3, 0, 0, 0, 0, 0, 0, 0),
  (48, 3, 342, 272, 0, 1825, 2, 10, 0, 0), (6, 1, 0, 0, 0, 0, 0, 0, 0, 0), (44, 3, 35, 10, 20, 1397, 0, 0, 0, 0), (4, 1, 1, 0, 0, 0, 0, 0, 0, 0), (0, 1, 0, 0, 0, 0, 0, 0, 2, 0), (11, 1, 0, 0, 0, 0, 0, 0, 0, 0),
  (33, 1, 0, 0, 0, 0, 0, 0, 0, 0), (48, 3, 96, 250, 1, 1735, 2, 10, 0, 0), (27, 1, 0, 0, 1, 0, 0, 0, 0, 0)]
def q346_39 : List XO := [(4, 1, 2, 0, 0, 0, 0, 0, 0, 0), (0, 1, 0, 0, 0, 0, 0, 0, 2, 0), (23, 3, 63, 0, 1, 0, 0, 0, 0, 0), (6, 1, 0, 0, 0, 0, 0, 0, 0, 0), (44, 3, 35, 10, 20, 1397, 0, 0, 0, 0), (0, 2, 0, 0, 1, 0, 0, 0, 61, 0),
  (4, 1, 3, 0, 0, 0, 0, 0, 0, 0), (11, 1, 0, 0, 0, 0, 0, 0, 0, 0), (33, 1, 0, 0, 0, 0, 0, 0, 0, 0), (0, 1, 0, 0, 0, 0, 0, 0, 1, 0), (23, 3, 61, 0, 1, 0, 0, 0, 0, 0), (0, 1, 0, 0, 0, 0, 0, 0, 1, 0),
  (24, 3, 62, 0, 0, 0, 0, 0, 0, 0)]
def q346_61 : List XO := [(0, 1, 0, 0, 0, 0, 0, 0, 0, 0), (24, 0, 62, 0, 1, 0, 0, 0, 0, 0)]
def q346_62 : List XO := [(27, 1, 0, 0, 1, 0, 0, 0, 0, 0)]
def q346_63 : List XO := [(6, 1, 0, 0, 0, 0, 0, 0, 0, 0), (44, 3, 35, 10, 20, 1397, 0, 0, 0, 0), (0, 2, 0, 0, 1, 0, 0, 0, 55, 0), (4, 1, 3, 0, 0, 0, 0, 0, 0, 0), (11, 1, 0, 0, 0, 0, 0, 0, 0, 0), (33, 1, 0, 0, 0, 0, 0, 0, 0, 0),
  (7, 2, 4, 0, 0, 0, 0, 0, 0, 0), (6, 1, 0, 0, 0, 0, 0, 0, 0, 0), (44, 3, 35, 10, 20, 1397, 0, 0, 0, 0), (4, 1, 1, 0, 0, 0, 0, 0, 0, 0), (0, 2, 0, 0, 1, 0, 0, 0, 7, 0), (11, 1, 0, 0, 0, 0, 0, 0, 0, 0),
  (33, 1, 0, 0, 0, 0, 0, 0, 0, 0), (0, 2, 0, 0, 1, 0, 0, 0, 60, 0), (23, 3, 110, 0, 1, 0, 0, 0, 0, 0), (4, 2, 4, 0, 0, 0, 0, 0, 0, 0), (6, 1, 0, 0, 0, 0, 0, 0, 0, 0), (44, 3, 35, 10, 20, 1397, 0, 0, 0, 0),
  (4, 1, 1, 0, 0, 0, 0, 0, 0, 0), (0, 2, 0, 0, 1, 0, 0, 0, 6, 0), (11, 1, 0, 0, 0, 0, 0, 0, 0, 0), (33, 1, 0, 0, 0, 0, 0, 0, 0, 0), (23, 3, 106, 0, 3, 0, 0, 0, 0, 0), (0, 1, 0, 0, 0, 0, 0, 0, 1, 0),
  (24, 3, 165, 0, 0, 0, 0, 0, 0, 0)]
def q346_106 : List XO := [(0, 1, 0, 0, 0, 0, 0, 0, 0, 0), (24, 3, 165, 0, 0, 0, 0, 0, 0, 0)]
def q346_110 : List XO := [(6, 1, 0, 0, 0, 0, 0, 0, 0, 0), (44, 3, 35, 10, 20, 1397, 0, 0, 0, 0), (4, 1, 1, 0, 0, 0, 0, 0, 0, 0), (0, 2, 0, 0, 1, 0, 0, 0, 7, 0), (11, 1, 0, 0, 0, 0, 0, 0, 0, 0), (33, 1, 0, 0, 0, 0, 0, 0, 0, 0),
  (0, 2, 0, 0, 1, 0, 0, 0, 62, 0), (23, 3, 146, 0, 1, 0, 0, 0, 0, 0), (4, 2, 4, 0, 0, 0, 0, 0, 0, 0), (6, 1, 0, 0, 0, 0, 0, 0, 0, 0), (44, 3, 35, 10, 20, 1397, 0, 0, 0, 0), (4, 1, 1, 0, 0, 0, 0, 0, 0, 0),
  (0, 2, 0, 0, 1, 0, 0, 0, 6, 0), (11, 1, 0, 0, 0, 0, 0, 0, 0, 0), (33, 1, 0, 0, 0, 0, 0, 0, 0, 0), (23, 3, 142, 0, 5, 0, 0, 0, 0, 0), (0, 1, 0, 0, 0, 0, 0, 0, 1, 0), (24, 3, 165, 0, 0, 0, 0, 0, 0, 0)]
def q346_142 : List XO := [(0, 1, 0, 0, 0, 0, 0, 0, 0, 0), (24, 3, 165, 0, 0, 0, 0, 0, 0, 0)]
def q346_146 : List XO := [(4, 2, 4, 0, 0, 0, 0, 0, 0, 0), (6, 1, 0, 0, 0, 0, 0, 0, 0, 0), (44, 3, 35, 10, 20, 1397, 0, 0, 0, 0), (4, 1, 1, 0, 0, 0, 0, 0, 0, 0), (0, 2, 0, 0, 1, 0, 0, 0, 6, 0), (11, 1, 0, 0, 0, 0, 0, 0, 0, 0),
  (33, 1, 0, 0, 0, 0, 0, 0, 0, 0), (23, 3, 164, 0, 1, 0, 0, 0, 0, 0), (0, 1, 0, 0, 0, 0, 0, 0, 1, 0), (24, 3, 165, 0, 0, 0, 0, 0, 0, 0)]
def q346_164 : List XO := [(0, 1, 0, 0, 0, 0, 0, 0, 0, 0), (24, 0, 165, 0, 1, 0, 0, 0, 0, 0)]
def q346_165 : List XO := [(27, 1, 0, 0, 1, 0, 0, 0, 0, 0)]
def xt346 : List (Nat × List XO) := [(0, q346_0), (39, q346_39), (61, q346_61), (62, q346_62), (63, q346_63), (106, q346_106), (110, q346_110), (142, q346_142),
  (146, q346_146), (164, q346_164), (165, q346_165)]
def q347_0 : List XO := [(6, 1, 0, 0, 0, 0, 0, 0, 0, 0), (0, 1, 0, 0, 0, 0, 0, 0, 0, 0), (45, 3, 57, 10, 1, 1378, 0, 0, 0, 0), (6, 1, 0, 0, 0, 0, 0, 0, 0, 0), (0, 1, 0, 0, 0, 0, 0, 0, 0, 0), (45, 3, 60, 10, 0, 1377, 0, 0, 0, 0),
  (4, 1, 1, 0, 0, 0, 0, 0, 0, 0), (17, 1, 0, 0, 0, 0, 0, 0, 0, 0), (1, 1, 0, 0, 0, 0, 0, 0, 0, 0), (1, 3, 461, 0, 1, 2058, 0, 0, 0, 4), (48, 3, 92, 221, 1, 1620, 3, 10, 0, 0), (22, 3, 28, 0, 1, 0, 0, 0, 0, 0),
  (6, 1, 0, 0, 0, 0, 0, 0, 0, 0), (0, 1, 0, 0, 0, 0, 0, 0, 5, 0), (48, 3, 319, 261, 0, 1780, 2, 10, 0, 0), (27, 1, 0, 0, 0, 0, 0, 0, 0, 0)]
def q347_28 : List XO := [(6, 1, 0, 0, 0, 0, 0, 0, 0, 0), (42, 3, 523, 10, 32, 1409, 0, 0, 0, 0), (22, 3, 44, 0, 0, 0, 0, 0, 0, 0), (6, 1, 0, 0, 0, 0, 0, 0, 0, 0), (44, 3, 50, 10, 31, 1408, 0, 0, 0, 0), (4, 1, 1, 0, 0, 0, 0, 0, 0, 0),
  (33, 1, 0, 0, 0, 0, 0, 0, 0, 0), (24, 3, 50, 0, 0, 0, 0, 0, 0, 0)]
def q347_44 : List XO := [(6, 1, 0, 0, 0, 0, 0, 0, 0, 0), (0, 2, 0, 0, 1, 0, 0, 0, 8, 0), (48, 3, 319, 261, 0, 1780, 2, 10, 0, 0), (24, 0, 50, 0, 1, 0, 0, 0, 0, 0)]
def q347_50 : List XO := [(27, 1, 0, 0, 0, 0, 0, 0, 0, 0)]
def xt347 : List (Nat × List XO) := [(0, q347_0), (28, q347_28), (44, q347_44), (50, q347_50)]
def q348_0 : List XO := [(6, 1, 0, 0, 0, 0, 0, 0, 0, 0), (0, 1, 0, 0, 0, 0, 0, 0, 0, 0), (45, 3, 57, 10, 1, 1378, 0, 0, 0, 0), (6, 1, 0, 0, 0, 0, 0, 0, 0, 0), (0, 1, 0, 0, 0, 0, 0, 0, 0, 0), (45, 3, 60, 10, 0, 1377, 0, 0, 0, 0),
  (4, 1, 2, 0, 0, 0, 0, 0, 0, 0), (17, 1, 0, 0, 0, 0, 0, 0, 0, 0), (1, 1, 0, 0, 0, 0, 0, 0, 0, 1), (1, 3, 426, 0, 1, 2025, 0, 0, 0, 20), (48, 3, 92, 221, 1, 1620, 3, 10, 0, 0), (22, 3, 37, 0, 0, 0, 0, 0, 0, 0),
  (4, 1, 1, 0, 0, 0, 0, 0, 0, 0), (17, 1, 0, 0, 0, 0, 0, 0, 0, 0), (1, 1, 0, 0, 0, 0, 0, 0, 0, 0), (0, 3, 0, 0, 2, 0, 0, 0, 10000, 0), (4, 1, 2, 0, 0, 0, 0, 0, 0, 0), (11, 1, 0, 0, 1, 0, 0, 0, 0, 0),
  (17, 1, 0, 0, 0, 0, 0, 0, 0, 0), (48, 3, 92, 221, 1, 1620, 3, 10, 0, 0), (22, 3, 43, 0, 1, 0, 0, 0, 0, 0), (24, 0, 37, 0, 1, 0, 0, 0, 0, 0)]
def q348_37 : List XO := [(6, 1, 0, 0, 0, 0, 0, 0, 0, 0), (0, 1, 0, 0, 0, 0, 0, 0, 5, 0), (48, 3, 72, 195, 0, 1517, 2, 10, 0, 0), (27, 1, 0, 0, 1, 0, 0, 0, 0, 0)]
def q348_43 : List XO := [(6, 1, 0, 0, 0, 0, 0, 0, 0, 0), (44, 3, 35, 10, 20, 1397, 0, 0, 0, 0), (0, 2, 0, 0, 1, 0, 0, 0, 73, 0), (33, 1, 0, 0, 0, 0, 0, 0, 0, 0), (22, 3, 60, 0, 1, 0, 0, 0, 0, 0), (6, 1, 0, 0, 0, 0, 0, 0, 0, 0),
  (0, 2, 0, 0, 1, 0, 0, 0, 8, 0), (48, 3, 72, 195, 0, 1517, 2, 10, 0, 0), (27, 1, 0, 0, 1, 0, 0, 0, 0, 0)]
def q348_60 : List XO := [(0, 1, 0, 0, 0, 0, 0, 0, 0, 0), (7, 1, 3, 0, 0, 0, 0, 0, 0, 0), (24, 0, 62, 0, 1, 0, 0, 0, 0, 0)]
def q348_62 : List XO := [(4, 1, 3, 0, 0, 0, 0, 0, 0, 0), (0, 2, 0, 0, 1, 0, 0, 0, 73, 0), (23, 3, 86, 0, 3, 0, 0, 0, 0, 0), (6, 1, 0, 0, 0, 0, 0, 0, 0, 0), (44, 3, 38, 10, 21, 1398, 0, 0, 0, 0), (4, 1, 3, 0, 0, 0, 0, 0, 0, 0),
  (6, 1, 0, 0, 0, 0, 0, 0, 0, 0), (44, 3, 35, 10, 20, 1397, 0, 0, 0, 0), (4, 1, 3, 0, 0, 0, 0, 0, 0, 0), (33, 1, 0, 0, 0, 0, 0, 0, 0, 0), (34, 1, 0, 0, 0, 0, 0, 0, 0, 0), (10, 3, 3, 0, 0, 0, 0, 0, 1, 0),
  (24, 3, 62, 0, 0, 0, 0, 0, 0, 0)]
def q348_86 : List XO := [(1, 1, 0, 0, 0, 0, 0, 0, 0, 0), (8, 1, 3, 0, 0, 0, 0, 0, 0, 0), (0, 1, 0, 0, 0, 0, 0, 0, 0, 0), (7, 2, 5, 0, 0, 0, 0, 0, 0, 0), (24, 0, 91, 0, 1, 0, 0, 0, 0, 0)]
def q348_91 : List XO := [(4, 2, 5, 0, 0, 0, 0, 0, 0, 0), (4, 1, 2, 0, 0, 0, 0, 0, 0, 0), (23, 3, 175, 0, 3, 0, 0, 0, 0, 0), (6, 1, 0, 0, 0, 0, 0, 0, 0, 0), (4, 1, 1, 0, 0, 0, 0, 0, 0, 0), (4, 2, 5, 0, 0, 0, 0, 0, 0, 0),
  (11, 1, 0, 0, 0, 0, 0, 0, 0, 0), (48, 3, 520, 339, 0, 2100, 2, 10, 0, 0), (0, 1, 0, 0, 0, 0, 0, 0, 0, 0), (7, 2, 6, 0, 0, 0, 0, 0, 0, 0), (24, 0, 108, 0, 1, 0, 0, 0, 0, 0)]
def q348_108 : List XO := [(4, 2, 6, 0, 0, 0, 0, 0, 0, 0), (6, 1, 0, 0, 0, 0, 0, 0, 0, 0), (44, 3, 35, 10, 20, 1397, 0, 0, 0, 0), (0, 1, 0, 0, 0, 0, 0, 0, 3, 0), (33, 1, 0, 0, 0, 0, 0, 0, 0, 0), (23, 3, 139, 0, 3, 0, 0, 0, 0, 0),
  (5, 1, 3, 0, 0, 0, 0, 0, 0, 0), (6, 1, 0, 0, 0, 0, 0, 0, 0, 0), (44, 3, 35, 10, 20, 1397, 0, 0, 0, 0), (0, 2, 0, 0, 1, 0, 0, 0, 55, 0), (4, 2, 6, 0, 0, 0, 0, 0, 0, 0), (11, 1, 0, 0, 0, 0, 0, 0, 0, 0),
  (33, 1, 0, 0, 0, 0, 0, 0, 0, 0), (17, 1, 0, 0, 0, 0, 0, 0, 0, 0), (14, 1, 0, 0, 0, 0, 0, 0, 0, 0), (8, 1, 3, 0, 0, 0, 0, 0, 0, 0), (10, 3, 6, 0, 0, 0, 0, 0, 1, 0), (24, 3, 108, 0, 0, 0, 0, 0, 0, 0)]
def q348_139 : List XO := [(0, 1, 0, 0, 0, 0, 0, 0, 0, 0), (7, 2, 6, 0, 0, 0, 0, 0, 0, 0), (24, 0, 142, 0, 1, 0, 0, 0, 0, 0)]
def q348_142 : List XO := [(4, 2, 6, 0, 0, 0, 0, 0, 0, 0), (0, 2, 0, 0, 1, 0, 0, 0, 73, 0), (23, 3, 169, 0, 3, 0, 0, 0, 0, 0), (6, 1, 0, 0, 0, 0, 0, 0, 0, 0), (44, 3, 35, 10, 20, 1397, 0, 0, 0, 0), (4, 2, 6, 0, 0, 0, 0, 0, 0, 0),
  (6, 1, 0, 0, 0, 0, 0, 0, 0, 0), (44, 3, 38, 10, 21, 1398, 0, 0, 0, 0), (4, 2, 6, 0, 0, 0, 0, 0, 0, 0), (33, 1, 0, 0, 0, 0, 0, 0, 0, 0), (34, 1, 0, 0, 0, 0, 0, 0, 0, 0), (10, 3, 6, 0, 0, 0, 0, 0, 1, 0),
  (24, 3, 142, 0, 0, 0, 0, 0, 0, 0)]
def q348_169 : List XO := [(10, 3, 5, 0, 0, 0, 0, 0, 1, 0), (24, 3, 91, 0, 0, 0, 0, 0, 0, 0)]
def q348_175 : List XO := [(6, 1, 0, 0, 0, 0, 0, 0, 0, 0), (5, 1, 3, 0, 0, 0, 0, 0, 0, 0), (4, 1, 2, 0, 0, 0, 0, 0, 0, 0), (17, 1, 0, 0, 0, 0, 0, 0, 0, 0), (48, 3, 463, 334, 0, 2080, 3, 10, 0, 0), (27, 1, 0, 0, 1, 0, 0, 0, 0, 0)]
def xt348 : List (Nat × List XO) := [(0, q348_0), (37, q348_37), (43, q348_43), (60, q348_60), (62, q348_62), (86, q348_86), (91, q348_91), (108, q348_108),
  (139, q348_139), (142, q348_142), (169, q348_169), (175, q348_175)]
def q349_0 : List XO := [(6, 1, 0, 0, 0, 0, 0, 0, 0, 0), (0, 1, 0, 0, 0, 0, 0, 0, 0, 0), (45, 3, 57, 10, 1, 1378, 0, 0, 0, 0), (6, 1, 0, 0, 0, 0, 0, 0, 0, 0), (0, 1, 0, 0, 0, 0, 0, 0, 0, 0), (45, 3, 60, 10, 0, 1377, 0, 0, 0, 0),
  (6, 1, 0, 0, 0, 0, 0, 0, 0, 0), (42, 3, 526, 10, 23, 1400, 0, 0, 0, 0), (0, 1, 0, 0, 0, 0, 0, 0, 3, 0), (23, 3, 25, 0, 1, 0, 0, 0, 0, 0), (6, 1, 0, 0, 0, 0, 0, 0, 0, 0), (0, 2, 0, 0, 1, 0, 0, 0, 7, 0),
  (48, 3, 319, 261, 0, 1780, 2, 10, 0, 0), (27, 1, 0, 0, 0, 0, 0, 0, 0, 0)]
def q349_25 : List XO := [(6, 1, 0, 0, 0, 0, 0, 0, 0, 0), (19, 1, 0, 0, 0, 0, 0, 0, 0, 0), (42, 3, 526, 10, 23, 1400, 0, 0, 0, 0), (0, 1, 0, 0, 0, 0, 0, 0, 1, 0), (11, 1, 0, 0, 0, 0, 0, 0, 0, 0), (45, 3, 526, 10, 23, 1400, 0, 0, 0, 0),
  (6, 1, 0, 0, 0, 0, 0, 0, 0, 0), (0, 1, 0, 0, 0, 0, 0, 0, 0, 0), (6, 1, 0, 0, 0, 0, 0, 0, 0, 0), (42, 3, 526, 10, 23, 1400, 0, 0, 0, 0), (48, 3, 290, 253, 0, 1746, 3, 10, 0, 0), (6, 1, 0, 0, 0, 0, 0, 0, 0, 0),
  (42, 3, 526, 10, 23, 1400, 0, 0, 0, 0), (27, 1, 0, 0, 0, 0, 0, 0, 0, 0)]
def xt349 : List (Nat × List XO) := [(0, q349_0), (25, q349_25)]
def q350_0 : List XO := [(6, 1, 0, 0, 0, 0, 0, 0, 0, 0), (0, 1, 0, 0, 0, 0, 0, 0, 0, 0), (45, 3, 57, 10, 1, 1378, 0, 0, 0, 0), (6, 1, 0, 0, 0, 0, 0, 0, 0, 0), (0, 1, 0, 0, 0, 0, 0, 0, 0, 0), (45, 3, 60, 10, 0, 1377, 0, 0, 0, 0),
  (6, 1, 0, 0, 0, 0, 0, 0, 0, 0), (42, 3, 526, 10, 23, 1400, 0, 0, 0, 0), (22, 3, 24, 0, 1, 0, 0, 0, 0, 0), (6, 1, 0, 0, 0, 0, 0, 0, 0, 0), (0, 2, 0, 0, 1, 0, 0, 0, 8, 0), (48, 3, 319, 261, 0, 1780, 2, 10, 0, 0),
  (27, 1, 0, 0, 0, 0, 0, 0, 0, 0)]
def q350_24 : List XO := [(6, 1, 0, 0, 0, 0, 0, 0, 0, 0), (6, 1, 0, 0, 0, 0, 0, 0, 0, 0), (42, 3, 526, 10, 23, 1400, 0, 0, 0, 0), (0, 1, 0, 0, 0, 0, 0, 0, 0, 0), (48, 3, 290, 253, 0, 1746, 3, 10, 0, 0), (6, 1, 0, 0, 0, 0, 0, 0, 0, 0),
  (19, 1, 0, 0, 0, 0, 0, 0, 0, 0), (42, 3, 526, 10, 23, 1400, 0, 0, 0, 0), (0, 1, 0, 0, 0, 0, 0, 0, 1, 0), (11, 1, 0, 0, 1, 0, 0, 0, 0, 0), (45, 3, 526, 10, 23, 1400, 0, 0, 0, 0), (6, 1, 0, 0, 0, 0, 0, 0, 0, 0),
  (42, 3, 526, 10, 23, 1400, 0, 0, 0, 0), (27, 1, 0, 0, 0, 0, 0, 0, 0, 0)]
def xt350 : List (Nat × List XO) := [(0, q350_0), (24, q350_24)]
def q351_0 : List XO := [(28, 3, 7, 9, 0, 159, 0, 0, 0, 0), (19, 1, 0, 0, 0, 0, 0, 0, 0, 0), (55, 3, 9, 0, 2, 161, 1, 9, 0, 0), (9, 1, 1, 0, 0, 0, 0, 0, 0, 0), (28, 3, 10, 10, 0, 1367, 0, 0, 0, 0), (19, 1, 0, 0, 0, 0, 0, 0, 0, 0),
  (55, 3, 12, 189, 2, 1369, 1, 10, 0, 0), (9, 1, 2, 0, 0, 0, 0, 0, 0, 0), (0, 1, 0, 0, 0, 0, 0, 0, 0, 0), (7, 1, 3, 0, 0, 0, 0, 0, 0, 0), (24, 0, 18, 0, 1, 0, 0, 0, 0, 0)]
def q351_18 : List XO := [(4, 1, 3, 0, 0, 0, 0, 0, 0, 0), (6, 1, 0, 0, 0, 0, 0, 0, 0, 0), (53, 1, 0, 0, 0, 0, 0, 0, 0, 0), (0, 2, 0, 0, 1, 0, 0, 0, 6, 0), (11, 1, 0, 0, 1, 0, 0, 0, 0, 0), (23, 3, 1947, 0, 4, 0, 0, 0, 0, 0),
  (6, 1, 0, 0, 0, 0, 0, 0, 0, 0), (4, 1, 3, 0, 0, 0, 0, 0, 0, 0), (54, 1, 0, 0, 0, 0, 0, 0, 0, 0), (0, 2, 0, 0, 1, 0, 0, 0, 63, 0), (11, 1, 0, 0, 3, 0, 0, 0, 0, 0), (26, 223, 0, 7, 0, 0, 0, 0, 0, 0)]
def q351_256 : List XO := [(6, 1, 1, 0, 0, 0, 0, 0, 0, 0), (48, 3, 13, 13, 0, 568, 1, 9, 0, 0), (6, 1, 2, 0, 0, 0, 0, 0, 0, 0), (48, 3, 17, 191, 0, 1501, 1, 10, 0, 0), (23, 3, 1941, 0, 0, 0, 0, 0, 0, 0), (0, 1, 0, 0, 0, 0, 0, 0, 0, 0),
  (27, 1, 0, 0, 1, 0, 0, 0, 0, 0)]
def q351_269 : List XO := [(6, 1, 1, 0, 0, 0, 0, 0, 0, 0), (48, 3, 18, 14, 0, 572, 1, 9, 0, 0), (6, 1, 2, 0, 0, 0, 0, 0, 0, 0), (48, 3, 22, 192, 0, 1505, 1, 10, 0, 0), (18, 1, 0, 0, 0, 0, 0, 0, 0, 0), (22, 3, 1941, 0, 0, 0, 0, 0, 0, 0),
  (0, 1, 0, 0, 0, 0, 0, 0, 0, 0), (27, 1, 0, 0, 1, 0, 0, 0, 0, 0)]
def q351_283 : List XO := [(6, 1, 1, 0, 0, 0, 0, 0, 0, 0), (48, 3, 23, 15, 0, 576, 1, 9, 0, 0), (6, 1, 2, 0, 0, 0, 0, 0, 0, 0), (48, 3, 26, 193, 0, 1509, 1, 10, 0, 0), (18, 1, 0, 0, 0, 0, 0, 0, 0, 0), (22, 3, 1941, 0, 0, 0, 0, 0, 0, 0),
  (0, 1, 0, 0, 0, 0, 0, 0, 0, 0), (27, 1, 0, 0, 1, 0, 0, 0, 0, 0)]
def q351_297 : List XO := [(6, 1, 1, 0, 0, 0, 0, 0, 0, 0), (6, 1, 0, 0, 0, 0, 0, 0, 0, 0), (4, 1, 3, 0, 0, 0, 0, 0, 0, 0), (0, 1, 0, 0, 0, 0, 0, 0, 1, 0), (11, 1, 0, 0, 0, 0, 0, 0, 0, 0), (54, 1, 0, 0, 0, 0, 0, 0, 0, 0),
  (6, 1, 0, 0, 0, 0, 0, 0, 0, 0), (4, 1, 3, 0, 0, 0, 0, 0, 0, 0), (0, 1, 0, 0, 0, 0, 0, 0, 2, 0), (11, 1, 0, 0, 0, 0, 0, 0, 0, 0), (54, 1, 0, 0, 0, 0, 0, 0, 0, 0), (6, 1, 0, 0, 0, 0, 0, 0, 0, 0),
  (4, 1, 3, 0, 0, 0, 0, 0, 0, 0), (0, 1, 0, 0, 0, 0, 0, 0, 3, 0), (11, 1, 0, 0, 0, 0, 0, 0, 0, 0), (54, 1, 0, 0, 0, 0, 0, 0, 0, 0), (48, 3, 27, 16, 0, 580, 4, 9, 0, 0), (6, 1, 2, 0, 0, 0, 0, 0, 0, 0),
  (6, 1, 0, 0, 0, 0, 0, 0, 0, 0), (4, 1, 3, 0, 0, 0, 0, 0, 0, 0), (0, 1, 0, 0, 0, 0, 0, 0, 1, 0), (11, 1, 0, 0, 0, 0, 0, 0, 0, 0), (54, 1, 0, 0, 0, 0, 0, 0, 0, 0), (6, 1, 0, 0, 0, 0, 0, 0, 0, 0),
  (4, 1, 3, 0, 0, 0, 0, 0, 0, 0), (0, 1, 0, 0, 0, 0, 0, 0, 2, 0), (11, 1, 0, 0, 0, 0, 0, 0, 0, 0), (54, 1, 0, 0, 0, 0, 0, 0, 0, 0), (6, 1, 0, 0, 0, 0, 0, 0, 0, 0), (4, 1, 3, 0, 0, 0, 0, 0, 0, 0),
  (0, 1, 0, 0, 0, 0, 0, 0, 3, 0), (11, 1, 0, 0, 0, 0, 0, 0, 0, 0), (54, 1, 0, 0, 0, 0, 0, 0, 0, 0), (48, 3, 31, 194, 0, 1513, 4, 10, 0, 0), (23, 3, 1941, 0, 0, 0, 0, 0, 0, 0), (0, 1, 0, 0, 0, 0, 0, 0, 0, 0),
  (27, 1, 0, 0, 1, 0, 0, 0, 0, 0)]
def q351_340 : List XO := [(6, 1, 1, 0, 0, 0, 0, 0, 0, 0), (6, 1, 0, 0, 0, 0, 0, 0, 0, 0), (4, 1, 3, 0, 0, 0, 0, 0, 0, 0), (0, 1, 0, 0, 0, 0, 0, 0, 1, 0), (11, 1, 0, 0, 0, 0, 0, 0, 0, 0), (54, 1, 0, 0, 0, 0, 0, 0, 0, 0),
  (6, 1, 0, 0, 0, 0, 0, 0, 0, 0), (4, 1, 3, 0, 0, 0, 0, 0, 0, 0), (0, 1, 0, 0, 0, 0, 0, 0, 2, 0), (11, 1, 0, 0, 0, 0, 0, 0, 0, 0), (54, 1, 0, 0, 0, 0, 0, 0, 0, 0), (6, 1, 0, 0, 0, 0, 0, 0, 0, 0),
  (4, 1, 3, 0, 0, 0, 0, 0, 0, 0), (0, 1, 0, 0, 0, 0, 0, 0, 3, 0), (11, 1, 0, 0, 0, 0, 0, 0, 0, 0), (54, 1, 0, 0, 0, 0, 0, 0, 0, 0), (17, 1, 0, 0, 0, 0, 0, 0, 0, 0), (0, 2, 0, 0, 1, 0, 0, 0, 32, 0),
  (16, 1, 0, 0, 0, 0, 0, 0, 0, 0), (6, 1, 0, 0, 0, 0, 0, 0, 0, 0), (4, 1, 3, 0, 0, 0, 0, 0, 0, 0), (0, 1, 0, 0, 0, 0, 0, 0, 4, 0), (11, 1, 0, 0, 0, 0, 0, 0, 0, 0), (54, 1, 0, 0, 0, 0, 0, 0, 0, 0),
  (17, 1, 0, 0, 0, 0, 0, 0, 0, 0), (1, 3, 32, 0, 1, 2149, 0, 0, 0, 4294967295), (14, 1, 0, 0, 3, 0, 0, 0, 0, 0), (14, 1, 0, 0, 4, 0, 0, 0, 0, 0), (48, 3, 34, 20, 0, 595, 4, 9, 0, 0), (6, 1, 2, 0, 0, 0, 0, 0, 0, 0),
  (6, 1, 0, 0, 0, 0, 0, 0, 0, 0), (4, 1, 3, 0, 0, 0, 0, 0, 0, 0), (0, 1, 0, 0, 0, 0, 0, 0, 1, 0), (11, 1, 0, 0, 0, 0, 0, 0, 0, 0), (54, 1, 0, 0, 0, 0, 0, 0, 0, 0), (6, 1, 0, 0, 0, 0, 0, 0, 0, 0),
  (4, 1, 3, 0, 0, 0, 0, 0, 0, 0), (0, 1, 0, 0, 0, 0, 0, 0, 2, 0), (11, 1, 0, 0, 0, 0, 0, 0, 0, 0), (54, 1, 0, 0, 0, 0, 0, 0, 0, 0), (6, 1, 0, 0, 0, 0, 0, 0, 0, 0), (4, 1, 3, 0, 0, 0, 0, 0, 0, 0),
  (0, 1, 0, 0, 0, 0, 0, 0, 3, 0), (11, 1, 0, 0, 0, 0, 0, 0, 0, 0), (54, 1, 0, 0, 0, 0, 0, 0, 0, 0), (17, 1, 0, 0, 0, 0, 0, 0, 0, 0), (0, 2, 0, 0, 1, 0, 0, 0, 32, 0), (16, 1, 0, 0, 0, 0, 0, 0, 0, 0),
  (6, 1, 0, 0, 0, 0, 0, 0, 0, 0), (4, 1, 3, 0, 0, 0, 0, 0, 0, 0), (0, 1, 0, 0, 0, 0, 0, 0, 4, 0), (11, 1, 0, 0, 0, 0, 0, 0, 0, 0), (54, 1, 0, 0, 0, 0, 0, 0, 0, 0), (17, 1, 0, 0, 0, 0, 0, 0, 0, 0),
  (1, 3, 32, 0, 1, 2149, 0, 0, 0, 4294967295), (14, 1, 0, 0, 3, 0, 0, 0, 0, 0), (14, 1, 0, 0, 4, 0, 0, 0, 0, 0), (48, 3, 38, 196, 0, 1521, 4, 10, 0, 0), (23, 3, 1941, 0, 0, 0, 0, 0, 0, 0), (0, 1, 0, 0, 0, 0, 0, 0, 0, 0),
  (27, 1, 0, 0, 1, 0, 0, 0, 0, 0)]
def q351_413 : List XO := [(6, 1, 1, 0, 0, 0, 0, 0, 0, 0), (6, 1, 0, 0, 0, 0, 0, 0, 0, 0), (4, 1, 3, 0, 0, 0, 0, 0, 0, 0), (0, 1, 0, 0, 0, 0, 0, 0, 1, 0), (11, 1, 0, 0, 0, 0, 0, 0, 0, 0), (54, 1, 0, 0, 0, 0, 0, 0, 0, 0),
  (6, 1, 0, 0, 0, 0, 0, 0, 0, 0), (4, 1, 3, 0, 0, 0, 0, 0, 0, 0), (0, 1, 0, 0, 0, 0, 0, 0, 2, 0), (11, 1, 0, 0, 0, 0, 0, 0, 0, 0), (54, 1, 0, 0, 0, 0, 0, 0, 0, 0), (48, 3, 39, 25, 0, 614, 3, 9, 0, 0),
  (6, 1, 2, 0, 0, 0, 0, 0, 0, 0), (6, 1, 0, 0, 0, 0, 0, 0, 0, 0), (4, 1, 3, 0, 0, 0, 0, 0, 0, 0), (0, 1, 0, 0, 0, 0, 0, 0, 1, 0), (11, 1, 0, 0, 0, 0, 0, 0, 0, 0), (54, 1, 0, 0, 0, 0, 0, 0, 0, 0),
  (6, 1, 0, 0, 0, 0, 0, 0, 0, 0), (4, 1, 3, 0, 0, 0, 0, 0, 0, 0), (0, 1, 0, 0, 0, 0, 0, 0, 2, 0), (11, 1, 0, 0, 0, 0, 0, 0, 0, 0), (54, 1, 0, 0, 0, 0, 0, 0, 0, 0), (48, 3, 43, 200, 0, 1536, 3, 10, 0, 0),
  (18, 1, 0, 0, 0, 0, 0, 0, 0, 0), (22, 3, 1941, 0, 0, 0, 0, 0, 0, 0), (0, 1, 0, 0, 0, 0, 0, 0, 0, 0), (27, 1, 0, 0, 1, 0, 0, 0, 0, 0)]
def q351_447 : List XO := [(6, 1, 1, 0, 0, 0, 0, 0, 0, 0), (6, 1, 0, 0, 0, 0, 0, 0, 0, 0), (4, 1, 3, 0, 0, 0, 0, 0, 0, 0), (0, 1, 0, 0, 0, 0, 0, 0, 1, 0), (11, 1, 0, 0, 0, 0, 0, 0, 0, 0), (54, 1, 0, 0, 0, 0, 0, 0, 0, 0),
  (6, 1, 0, 0, 0, 0, 0, 0, 0, 0), (4, 1, 3, 0, 0, 0, 0, 0, 0, 0), (0, 1, 0, 0, 0, 0, 0, 0, 2, 0), (11, 1, 0, 0, 0, 0, 0, 0, 0, 0), (54, 1, 0, 0, 0, 0, 0, 0, 0, 0), (6, 1, 0, 0, 0, 0, 0, 0, 0, 0),
  (4, 1, 3, 0, 0, 0, 0, 0, 0, 0), (0, 1, 0, 0, 0, 0, 0, 0, 3, 0), (11, 1, 0, 0, 0, 0, 0, 0, 0, 0), (54, 1, 0, 0, 0, 0, 0, 0, 0, 0), (6, 1, 0, 0, 0, 0, 0, 0, 0, 0), (4, 1, 3, 0, 0, 0, 0, 0, 0, 0),
  (0, 1, 0, 0, 0, 0, 0, 0, 4, 0), (11, 1, 0, 0, 0, 0, 0, 0, 0, 0), (54, 1, 0, 0, 0, 0, 0, 0, 0, 0), (6, 1, 0, 0, 0, 0, 0, 0, 0, 0), (4, 1, 3, 0, 0, 0, 0, 0, 0, 0), (0, 1, 0, 0, 0, 0, 0, 0, 5, 0),
  (11, 1, 0, 0, 0, 0, 0, 0, 0, 0), (54, 1, 0, 0, 0, 0, 0, 0, 0, 0), (48, 3, 44, 26, 0, 620, 6, 9, 0, 0), (6, 1, 2, 0, 0, 0, 0, 0, 0, 0), (6, 1, 0, 0, 0, 0, 0, 0, 0, 0), (4, 1, 3, 0, 0, 0, 0, 0, 0, 0),
  (0, 1, 0, 0, 0, 0, 0, 0, 1, 0), (11, 1, 0, 0, 0, 0, 0, 0, 0, 0), (54, 1, 0, 0, 0, 0, 0, 0, 0, 0), (6, 1, 0, 0, 0, 0, 0, 0, 0, 0), (4, 1, 3, 0, 0, 0, 0, 0, 0, 0), (0, 1, 0, 0, 0, 0, 0, 0, 2, 0),
  (11, 1, 0, 0, 0, 0, 0, 0, 0, 0), (54, 1, 0, 0, 0, 0, 0, 0, 0, 0), (6, 1, 0, 0, 0, 0, 0, 0, 0, 0), (4, 1, 3, 0, 0, 0, 0, 0, 0, 0), (0, 1, 0, 0, 0, 0, 0, 0, 3, 0), (11, 1, 0, 0, 0, 0, 0, 0, 0, 0),
  (54, 1, 0, 0, 0, 0, 0, 0, 0, 0), (6, 1, 0, 0, 0, 0, 0, 0, 0, 0), (4, 1, 3, 0, 0, 0, 0, 0, 0, 0), (0, 1, 0, 0, 0, 0, 0, 0, 4, 0), (11, 1, 0, 0, 0, 0, 0, 0, 0, 0), (54, 1, 0, 0, 0, 0, 0, 0, 0, 0),
  (6, 1, 0, 0, 0, 0, 0, 0, 0, 0), (4, 1, 3, 0, 0, 0, 0, 0, 0, 0), (0, 1, 0, 0, 0, 0, 0, 0, 5, 0), (11, 1, 0, 0, 0, 0, 0, 0, 0, 0), (54, 1, 0, 0, 0, 0, 0, 0, 0, 0), (48, 3, 48, 201, 0, 1541, 6, 10, 0, 0),
  (23, 3, 1941, 0, 0, 0, 0, 0, 0, 0), (0, 1, 0, 0, 0, 0, 0, 0, 0, 0), (27, 1, 0, 0, 1, 0, 0, 0, 0, 0)]
def q351_510 : List XO := [(6, 1, 1, 0, 0, 0, 0, 0, 0, 0), (6, 1, 0, 0, 0, 0, 0, 0, 0, 0), (4, 1, 3, 0, 0, 0, 0, 0, 0, 0), (0, 1, 0, 0, 0, 0, 0, 0, 1, 0), (11, 1, 0, 0, 0, 0, 0, 0, 0, 0), (54, 1, 0, 0, 0, 0, 0, 0, 0, 0),
  (6, 1, 0, 0, 0, 0, 0, 0, 0, 0), (4, 1, 3, 0, 0, 0, 0, 0, 0, 0), (0, 1, 0, 0, 0, 0, 0, 0, 2, 0), (11, 1, 0, 0, 0, 0, 0, 0, 0, 0), (54, 1, 0, 0, 0, 0, 0, 0, 0, 0), (6, 1, 0, 0, 0, 0, 0, 0, 0, 0),
  (4, 1, 3, 0, 0, 0, 0, 0, 0, 0), (0, 1, 0, 0, 0, 0, 0, 0, 3, 0), (11, 1, 0, 0, 0, 0, 0, 0, 0, 0), (54, 1, 0, 0, 0, 0, 0, 0, 0, 0), (6, 1, 0, 0, 0, 0, 0, 0, 0, 0), (4, 1, 3, 0, 0, 0, 0, 0, 0, 0),
  (0, 1, 0, 0, 0, 0, 0, 0, 4, 0), (11, 1, 0, 0, 0, 0, 0, 0, 0, 0), (54, 1, 0, 0, 0, 0, 0, 0, 0, 0), (6, 1, 0, 0, 0, 0, 0, 0, 0, 0), (4, 1, 3, 0, 0, 0, 0, 0, 0, 0), (0, 1, 0, 0, 0, 0, 0, 0, 5, 0),
  (11, 1, 0, 0, 0, 0, 0, 0, 0, 0), (54, 1, 0, 0, 0, 0, 0, 0, 0, 0), (48, 3, 49, 28, 0, 631, 6, 9, 0, 0), (6, 1, 2, 0, 0, 0, 0, 0, 0, 0), (6, 1, 0, 0, 0, 0, 0, 0, 0, 0), (4, 1, 3, 0, 0, 0, 0, 0, 0, 0),
  (0, 1, 0, 0, 0, 0, 0, 0, 1, 0), (11, 1, 0, 0, 0, 0, 0, 0, 0, 0), (54, 1, 0, 0, 0, 0, 0, 0, 0, 0), (6, 1, 0, 0, 0, 0, 0, 0, 0, 0), (4, 1, 3, 0, 0, 0, 0, 0, 0, 0), (0, 1, 0, 0, 0, 0, 0, 0, 2, 0),
  (11, 1, 0, 0, 0, 0, 0, 0, 0, 0), (54, 1, 0, 0, 0, 0, 0, 0, 0, 0), (6, 1, 0, 0, 0, 0, 0, 0, 0, 0), (4, 1, 3, 0, 0, 0, 0, 0, 0, 0), (0, 1, 0, 0, 0, 0, 0, 0, 3, 0), (11, 1, 0, 0, 0, 0, 0, 0, 0, 0),
  (54, 1, 0, 0, 0, 0, 0, 0, 0, 0), (6, 1, 0, 0, 0, 0, 0, 0, 0, 0), (4, 1, 3, 0, 0, 0, 0, 0, 0, 0), (0, 1, 0, 0, 0, 0, 0, 0, 4, 0), (11, 1, 0, 0, 0, 0, 0, 0, 0, 0), (54, 1, 0, 0, 0, 0, 0, 0, 0, 0),
  (6, 1, 0, 0, 0, 0, 0, 0, 0, 0), (4, 1, 3, 0, 0, 0, 0, 0, 0, 0), (0, 1, 0, 0, 0, 0, 0, 0, 5, 0), (11, 1, 0, 0, 0, 0, 0, 0, 0, 0), (54, 1, 0, 0, 0, 0, 0, 0, 0, 0), (48, 3, 53, 202, 0, 1545, 6, 10, 0, 0),
  (23, 3, 1941, 0, 0, 0, 0, 0, 0, 0), (0, 1, 0, 0, 0, 0, 0, 0, 0, 0), (27, 1, 0, 0, 1, 0, 0, 0, 0, 0)]
def q351_573 : List XO := [(6, 1, 1, 0, 0, 0, 0, 0, 0, 0), (6, 1, 0, 0, 0, 0, 0, 0, 0, 0), (4, 1, 3, 0, 0, 0, 0, 0, 0, 0), (0, 1, 0, 0, 0, 0, 0, 0, 1, 0), (11, 1, 0, 0, 0, 0, 0, 0, 0, 0), (54, 1, 0, 0, 0, 0, 0, 0, 0, 0),
  (48, 3, 54, 30, 0, 639, 2, 9, 0, 0), (6, 1, 2, 0, 0, 0, 0, 0, 0, 0), (6, 1, 0, 0, 0, 0, 0, 0, 0, 0), (4, 1, 3, 0, 0, 0, 0, 0, 0, 0), (0, 1, 0, 0, 0, 0, 0, 0, 1, 0), (11, 1, 0, 0, 0, 0, 0, 0, 0, 0),
  (54, 1, 0, 0, 0, 0, 0, 0, 0, 0), (48, 3, 58, 205, 0, 1557, 2, 10, 0, 0), (23, 3, 1941, 0, 0, 0, 0, 0, 0, 0), (0, 1, 0, 0, 0, 0, 0, 0, 0, 0), (27, 1, 0, 0, 1, 0, 0, 0, 0, 0)]
def q351_596 : List XO := [(6, 1, 1, 0, 0, 0, 0, 0, 0, 0), (6, 1, 0, 0, 0, 0, 0, 0, 0, 0), (4, 1, 3, 0, 0, 0, 0, 0, 0, 0), (0, 1, 0, 0, 0, 0, 0, 0, 1, 0), (11, 1, 0, 0, 0, 0, 0, 0, 0, 0), (54, 1, 0, 0, 0, 0, 0, 0, 0, 0),
  (48, 3, 59, 84, 0, 882, 2, 9, 0, 0), (6, 1, 2, 0, 0, 0, 0, 0, 0, 0), (6, 1, 0, 0, 0, 0, 0, 0, 0, 0), (4, 1, 3, 0, 0, 0, 0, 0, 0, 0), (0, 1, 0, 0, 0, 0, 0, 0, 1, 0), (11, 1, 0, 0, 0, 0, 0, 0, 0, 0),
  (54, 1, 0, 0, 0, 0, 0, 0, 0, 0), (48, 3, 62, 254, 0, 1750, 2, 10, 0, 0), (23, 3, 1941, 0, 0, 0, 0, 0, 0, 0), (0, 1, 0, 0, 0, 0, 0, 0, 0, 0), (27, 1, 0, 0, 1, 0, 0, 0, 0, 0)]
def q351_619 : List XO := [(6, 1, 1, 0, 0, 0, 0, 0, 0, 0), (6, 1, 0, 0, 0, 0, 0, 0, 0, 0), (4, 1, 3, 0, 0, 0, 0, 0, 0, 0), (0, 1, 0, 0, 0, 0, 0, 0, 1, 0), (11, 1, 0, 0, 0, 0, 0, 0, 0, 0), (54, 1, 0, 0, 0, 0, 0, 0, 0, 0),
  (48, 3, 63, 97, 0, 961, 2, 9, 0, 0), (6, 1, 2, 0, 0, 0, 0, 0, 0, 0), (6, 1, 0, 0, 0, 0, 0, 0, 0, 0), (4, 1, 3, 0, 0, 0, 0, 0, 0, 0), (0, 1, 0, 0, 0, 0, 0, 0, 1, 0), (11, 1, 0, 0, 0, 0, 0, 0, 0, 0),
  (54, 1, 0, 0, 0, 0, 0, 0, 0, 0), (48, 3, 66, 204, 0, 1553, 2, 10, 0, 0), (23, 3, 1941, 0, 0, 0, 0, 0, 0, 0), (0, 1, 0, 0, 0, 0, 0, 0, 0, 0), (27, 1, 0, 0, 1, 0, 0, 0, 0, 0)]
def q351_642 : List XO := [(6, 1, 1, 0, 0, 0, 0, 0, 0, 0), (6, 1, 0, 0, 0, 0, 0, 0, 0, 0), (4, 1, 3, 0, 0, 0, 0, 0, 0, 0), (0, 1, 0, 0, 0, 0, 0, 0, 1, 0), (11, 1, 0, 0, 0, 0, 0, 0, 0, 0), (54, 1, 0, 0, 0, 0, 0, 0, 0, 0),
  (48, 3, 67, 98, 0, 965, 2, 9, 0, 0), (6, 1, 2, 0, 0, 0, 0, 0, 0, 0), (6, 1, 0, 0, 0, 0, 0, 0, 0, 0), (4, 1, 3, 0, 0, 0, 0, 0, 0, 0), (0, 1, 0, 0, 0, 0, 0, 0, 1, 0), (11, 1, 0, 0, 0, 0, 0, 0, 0, 0),
  (54, 1, 0, 0, 0, 0, 0, 0, 0, 0), (48, 3, 70, 260, 0, 1775, 2, 10, 0, 0), (23, 3, 1941, 0, 0, 0, 0, 0, 0, 0), (0, 1, 0, 0, 0, 0, 0, 0, 0, 0), (27, 1, 0, 0, 1, 0, 0, 0, 0, 0)]
def q351_665 : List XO := [(6, 1, 1, 0, 0, 0, 0, 0, 0, 0), (6, 1, 0, 0, 0, 0, 0, 0, 0, 0), (4, 1, 3, 0, 0, 0, 0, 0, 0, 0), (0, 1, 0, 0, 0, 0, 0, 0, 1, 0), (11, 1, 0, 0, 0, 0, 0, 0, 0, 0), (54, 1, 0, 0, 0, 0, 0, 0, 0, 0),
  (6, 1, 0, 0, 0, 0, 0, 0, 0, 0), (4, 1, 3, 0, 0, 0, 0, 0, 0, 0), (0, 1, 0, 0, 0, 0, 0, 0, 2, 0), (11, 1, 0, 0, 0, 0, 0, 0, 0, 0), (54, 1, 0, 0, 0, 0, 0, 0, 0, 0), (48, 3, 71, 100, 0, 973, 3, 9, 0, 0),
  (6, 1, 2, 0, 0, 0, 0, 0, 0, 0), (6, 1, 0, 0, 0, 0, 0, 0, 0, 0), (4, 1, 3, 0, 0, 0, 0, 0, 0, 0), (0, 1, 0, 0, 0, 0, 0, 0, 1, 0), (11, 1, 0, 0, 0, 0, 0, 0, 0, 0), (54, 1, 0, 0, 0, 0, 0, 0, 0, 0),
  (6, 1, 0, 0, 0, 0, 0, 0, 0, 0), (4, 1, 3, 0, 0, 0, 0, 0, 0, 0), (0, 1, 0, 0, 0, 0, 0, 0, 2, 0), (11, 1, 0, 0, 0, 0, 0, 0, 0, 0), (54, 1, 0, 0, 0, 0, 0, 0, 0, 0), (48, 3, 75, 264, 0, 1792, 3, 10, 0, 0),
  (23, 3, 1941, 0, 0, 0, 0, 0, 0, 0), (0, 1, 0, 0, 0, 0, 0, 0, 0, 0), (27, 1, 0, 0, 1, 0, 0, 0, 0, 0)]
def q351_698 : List XO := [(6, 1, 1, 0, 0, 0, 0, 0, 0, 0), (6, 1, 0, 0, 0, 0, 0, 0, 0, 0), (4, 1, 3, 0, 0, 0, 0, 0, 0, 0), (0, 1, 0, 0, 0, 0, 0, 0, 1, 0), (11, 1, 0, 0, 0, 0, 0, 0, 0, 0), (54, 1, 0, 0, 0, 0, 0, 0, 0, 0),
  (48, 3, 76, 102, 0, 980, 2, 9, 0, 0), (6, 1, 2, 0, 0, 0, 0, 0, 0, 0), (6, 1, 0, 0, 0, 0, 0, 0, 0, 0), (4, 1, 3, 0, 0, 0, 0, 0, 0, 0), (0, 1, 0, 0, 0, 0, 0, 0, 1, 0), (11, 1, 0, 0, 0, 0, 0, 0, 0, 0),
  (54, 1, 0, 0, 0, 0, 0, 0, 0, 0), (48, 3, 79, 266, 0, 1800, 2, 10, 0, 0), (23, 3, 1941, 0, 0, 0, 0, 0, 0, 0), (0, 1, 0, 0, 0, 0, 0, 0, 0, 0), (27, 1, 0, 0, 1, 0, 0, 0, 0, 0)]
def q351_721 : List XO := [(6, 1, 1, 0, 0, 0, 0, 0, 0, 0), (6, 1, 0, 0, 0, 0, 0, 0, 0, 0), (4, 1, 3, 0, 0, 0, 0, 0, 0, 0), (0, 1, 0, 0, 0, 0, 0, 0, 1, 0), (11, 1, 0, 0, 0, 0, 0, 0, 0, 0), (54, 1, 0, 0, 0, 0, 0, 0, 0, 0),
  (6, 1, 0, 0, 0, 0, 0, 0, 0, 0), (4, 1, 3, 0, 0, 0, 0, 0, 0, 0), (0, 1, 0, 0, 0, 0, 0, 0, 2, 0), (11, 1, 0, 0, 0, 0, 0, 0, 0, 0), (54, 1, 0, 0, 0, 0, 0, 0, 0, 0), (48, 3, 80, 103, 0, 986, 3, 9, 0, 0),
  (6, 1, 2, 0, 0, 0, 0, 0, 0, 0), (6, 1, 0, 0, 0, 0, 0, 0, 0, 0), (4, 1, 3, 0, 0, 0, 0, 0, 0, 0), (0, 1, 0, 0, 0, 0, 0, 0, 1, 0), (11, 1, 0, 0, 0, 0, 0, 0, 0, 0), (54, 1, 0, 0, 0, 0, 0, 0, 0, 0),
  (6, 1, 0, 0, 0, 0, 0, 0, 0, 0), (4, 1, 3, 0, 0, 0, 0, 0, 0, 0), (0, 1, 0, 0, 0, 0, 0, 0, 2, 0), (11, 1, 0, 0, 0, 0, 0, 0, 0, 0), (54, 1, 0, 0, 0, 0, 0, 0, 0, 0), (48, 3, 83, 268, 0, 1808, 3, 10, 0, 0),
  (23, 3, 1941, 0, 0, 0, 0, 0, 0, 0), (0, 1, 0, 0, 0, 0, 0, 0, 0, 0), (27, 1, 0, 0, 1, 0, 0, 0, 0, 0)]
def q351_754 : List XO := [(6, 1, 1, 0, 0, 0, 0, 0, 0, 0), (6, 1, 0, 0, 0, 0, 0, 0, 0, 0), (4, 1, 3, 0, 0, 0, 0, 0, 0, 0), (0, 1, 0, 0, 0, 0, 0, 0, 1, 0), (11, 1, 0, 0, 0, 0, 0, 0, 0, 0), (54, 1, 0, 0, 0, 0, 0, 0, 0, 0),
  (48, 3, 84, 104, 0, 992, 2, 9, 0, 0), (6, 1, 2, 0, 0, 0, 0, 0, 0, 0), (6, 1, 0, 0, 0, 0, 0, 0, 0, 0), (4, 1, 3, 0, 0, 0, 0, 0, 0, 0), (0, 1, 0, 0, 0, 0, 0, 0, 1, 0), (11, 1, 0, 0, 0, 0, 0, 0, 0, 0),
  (54, 1, 0, 0, 0, 0, 0, 0, 0, 0), (48, 3, 87, 271, 0, 1821, 2, 10, 0, 0), (23, 3, 1941, 0, 0, 0, 0, 0, 0, 0), (0, 1, 0, 0, 0, 0, 0, 0, 0, 0), (27, 1, 0, 0, 1, 0, 0, 0, 0, 0)]
def q351_777 : List XO := [(6, 1, 1, 0, 0, 0, 0, 0, 0, 0), (6, 1, 0, 0, 0, 0, 0, 0, 0, 0), (4, 1, 3, 0, 0, 0, 0, 0, 0, 0), (0, 1, 0, 0, 0, 0, 0, 0, 1, 0), (11, 1, 0, 0, 0, 0, 0, 0, 0, 0), (54, 1, 0, 0, 0, 0, 0, 0, 0, 0),
  (48, 3, 88, 107, 0, 1004, 2, 9, 0, 0), (6, 1, 2, 0, 0, 0, 0, 0, 0, 0), (6, 1, 0, 0, 0, 0, 0, 0, 0, 0), (4, 1, 3, 0, 0, 0, 0, 0, 0, 0), (0, 1, 0, 0, 0, 0, 0, 0, 1, 0), (11, 1, 0, 0, 0, 0, 0, 0, 0, 0),
  (54, 1, 0, 0, 0, 0, 0, 0, 0, 0), (48, 3, 91, 273, 0, 1829, 2, 10, 0, 0), (23, 3, 1941, 0, 0, 0, 0, 0, 0, 0), (0, 1, 0, 0, 0, 0, 0, 0, 0, 0), (27, 1, 0, 0, 1, 0, 0, 0, 0, 0)]
def q351_800 : List XO := [(6, 1, 1, 0, 0, 0, 0, 0, 0, 0), (6, 1, 0, 0, 0, 0, 0, 0, 0, 0), (4, 1, 3, 0, 0, 0, 0, 0, 0, 0), (0, 1, 0, 0, 0, 0, 0, 0, 1, 0), (11, 1, 0, 0, 0, 0, 0, 0, 0, 0), (54, 1, 0, 0, 0, 0, 0, 0, 0, 0),
  (6, 1, 0, 0, 0, 0, 0, 0, 0, 0), (4, 1, 3, 0, 0, 0, 0, 0, 0, 0), (0, 1, 0, 0, 0, 0, 0, 0, 2, 0), (11, 1, 0, 0, 0, 0, 0, 0, 0, 0), (54, 1, 0, 0, 0, 0, 0, 0, 0, 0), (48, 3, 92, 108, 0, 1009, 3, 9, 0, 0),
  (6, 1, 2, 0, 0, 0, 0, 0, 0, 0), (6, 1, 0, 0, 0, 0, 0, 0, 0, 0), (4, 1, 3, 0, 0, 0, 0, 0, 0, 0), (0, 1, 0, 0, 0, 0, 0, 0, 1, 0), (11, 1, 0, 0, 0, 0, 0, 0, 0, 0), (54, 1, 0, 0, 0, 0, 0, 0, 0, 0),
  (6, 1, 0, 0, 0, 0, 0, 0, 0, 0), (4, 1, 3, 0, 0, 0, 0, 0, 0, 0), (0, 1, 0, 0, 0, 0, 0, 0, 2, 0), (11, 1, 0, 0, 0, 0, 0, 0, 0, 0), (54, 1, 0, 0, 0, 0, 0, 0, 0, 0), (48, 3, 95, 275, 0, 1839, 3, 10, 0, 0),
  (23, 3, 1941, 0, 0, 0, 0, 0, 0, 0), (0, 1, 0, 0, 0, 0, 0, 0, 0, 0), (27, 1, 0, 0, 1, 0, 0, 0, 0, 0)]
def q351_833 : List XO := [(6, 1, 1, 0, 0, 0, 0, 0, 0, 0), (6, 1, 0, 0, 0, 0, 0, 0, 0, 0), (4, 1, 3, 0, 0, 0, 0, 0, 0, 0), (0, 1, 0, 0, 0, 0, 0, 0, 1, 0), (11, 1, 0, 0, 0, 0, 0, 0, 0, 0), (54, 1, 0, 0, 0, 0, 0, 0, 0, 0),
  (48, 3, 96, 110, 0, 1017, 2, 9, 0, 0), (6, 1, 2, 0, 0, 0, 0, 0, 0, 0), (6, 1, 0, 0, 0, 0, 0, 0, 0, 0), (4, 1, 3, 0, 0, 0, 0, 0, 0, 0), (0, 1, 0, 0, 0, 0, 0, 0, 1, 0), (11, 1, 0, 0, 0, 0, 0, 0, 0, 0),
  (54, 1, 0, 0, 0, 0, 0, 0, 0, 0), (48, 3, 99, 277, 0, 1849, 2, 10, 0, 0), (23, 3, 1941, 0, 0, 0, 0, 0, 0, 0), (0, 1, 0, 0, 0, 0, 0, 0, 0, 0), (27, 1, 0, 0, 1, 0, 0, 0, 0, 0)]
def q351_856 : List XO := [(6, 1, 1, 0, 0, 0, 0, 0, 0, 0), (6, 1, 0, 0, 0, 0, 0, 0, 0, 0), (4, 1, 3, 0, 0, 0, 0, 0, 0, 0), (0, 1, 0, 0, 0, 0, 0, 0, 1, 0), (11, 1, 0, 0, 0, 0, 0, 0, 0, 0), (54, 1, 0, 0, 0, 0, 0, 0, 0, 0),
  (6, 1, 0, 0, 0, 0, 0, 0, 0, 0), (4, 1, 3, 0, 0, 0, 0, 0, 0, 0), (0, 1, 0, 0, 0, 0, 0, 0, 2, 0), (11, 1, 0, 0, 0, 0, 0, 0, 0, 0), (54, 1, 0, 0, 0, 0, 0, 0, 0, 0), (22, 3, 874, 0, 0, 0, 0, 0, 0, 0),
  (0, 1, 0, 0, 0, 0, 0, 0, 1, 0), (24, 3, 875, 0, 0, 0, 0, 0, 0, 0)]
def q351_874 : List XO := [(0, 1, 0, 0, 0, 0, 0, 0, 0, 0), (24, 0, 875, 0, 1, 0, 0, 0, 0, 0)]
def q351_875 : List XO := [(48, 3, 100, 112, 0, 1026, 3, 9, 0, 0), (6, 1, 2, 0, 0, 0, 0, 0, 0, 0), (6, 1, 0, 0, 0, 0, 0, 0, 0, 0), (4, 1, 3, 0, 0, 0, 0, 0, 0, 0), (0, 1, 0, 0, 0, 0, 0, 0, 1, 0), (11, 1, 0, 0, 0, 0, 0, 0, 0, 0),
  (54, 1, 0, 0, 0, 0, 0, 0, 0, 0), (6, 1, 0, 0, 0, 0, 0, 0, 0, 0), (4, 1, 3, 0, 0, 0, 0, 0, 0, 0), (0, 1, 0, 0, 0, 0, 0, 0, 2, 0), (11, 1, 0, 0, 0, 0, 0, 0, 0, 0), (54, 1, 0, 0, 0, 0, 0, 0, 0, 0),
  (22, 3, 896, 0, 0, 0, 0, 0, 0, 0), (0, 1, 0, 0, 0, 0, 0, 0, 1, 0), (24, 3, 897, 0, 0, 0, 0, 0, 0, 0)]
def q351_896 : List XO := [(0, 1, 0, 0, 0, 0, 0, 0, 0, 0), (24, 0, 897, 0, 1, 0, 0, 0, 0, 0)]
def q351_897 : List XO := [(48, 3, 104, 279, 0, 1857, 3, 10, 0, 0), (23, 3, 1941, 0, 0, 0, 0, 0, 0, 0), (0, 1, 0, 0, 0, 0, 0, 0, 0, 0), (27, 1, 0, 0, 1, 0, 0, 0, 0, 0)]
def q351_905 : List XO := [(6, 1, 1, 0, 0, 0, 0, 0, 0, 0), (6, 1, 0, 0, 0, 0, 0, 0, 0, 0), (4, 1, 3, 0, 0, 0, 0, 0, 0, 0), (0, 1, 0, 0, 0, 0, 0, 0, 1, 0), (11, 1, 0, 0, 0, 0, 0, 0, 0, 0), (54, 1, 0, 0, 0, 0, 0, 0, 0, 0),
  (6, 1, 0, 0, 0, 0, 0, 0, 0, 0), (4, 1, 3, 0, 0, 0, 0, 0, 0, 0), (0, 1, 0, 0, 0, 0, 0, 0, 2, 0), (11, 1, 0, 0, 0, 0, 0, 0, 0, 0), (54, 1, 0, 0, 0, 0, 0, 0, 0, 0), (48, 3, 105, 113, 0, 1031, 3, 9, 0, 0),
  (6, 1, 2, 0, 0, 0, 0, 0, 0, 0), (6, 1, 0, 0, 0, 0, 0, 0, 0, 0), (4, 1, 3, 0, 0, 0, 0, 0, 0, 0), (0, 1, 0, 0, 0, 0, 0, 0, 1, 0), (11, 1, 0, 0, 0, 0, 0, 0, 0, 0), (54, 1, 0, 0, 0, 0, 0, 0, 0, 0),
  (6, 1, 0, 0, 0, 0, 0, 0, 0, 0), (4, 1, 3, 0, 0, 0, 0, 0, 0, 0), (0, 1, 0, 0, 0, 0, 0, 0, 2, 0), (11, 1, 0, 0, 0, 0, 0, 0, 0, 0), (54, 1, 0, 0, 0, 0, 0, 0, 0, 0), (48, 3, 108, 281, 0, 1865, 3, 10, 0, 0),
  (23, 3, 1941, 0, 0, 0, 0, 0, 0, 0), (0, 1, 0, 0, 0, 0, 0, 0, 0, 0), (27, 1, 0, 0, 1, 0, 0, 0, 0, 0)]
def q351_938 : List XO := [(6, 1, 1, 0, 0, 0, 0, 0, 0, 0), (6, 1, 0, 0, 0, 0, 0, 0, 0, 0), (4, 1, 3, 0, 0, 0, 0, 0, 0, 0), (0, 1, 0, 0, 0, 0, 0, 0, 1, 0), (11, 1, 0, 0, 0, 0, 0, 0, 0, 0), (54, 1, 0, 0, 0, 0, 0, 0, 0, 0),
  (48, 3, 109, 114, 0, 1037, 2, 9, 0, 0), (6, 1, 2, 0, 0, 0, 0, 0, 0, 0), (6, 1, 0, 0, 0, 0, 0, 0, 0, 0), (4, 1, 3, 0, 0, 0, 0, 0, 0, 0), (0, 1, 0, 0, 0, 0, 0, 0, 1, 0), (11, 1, 0, 0, 0, 0, 0, 0, 0, 0),
  (54, 1, 0, 0, 0, 0, 0, 0, 0, 0), (48, 3, 112, 284, 0, 1876, 2, 10, 0, 0), (23, 3, 1941, 0, 0, 0, 0, 0, 0, 0), (0, 1, 0, 0, 0, 0, 0, 0, 0, 0), (27, 1, 0, 0, 1, 0, 0, 0, 0, 0)]
def q351_961 : List XO := [(6, 1, 1, 0, 0, 0, 0, 0, 0, 0), (6, 1, 0, 0, 0, 0, 0, 0, 0, 0), (4, 1, 3, 0, 0, 0, 0, 0, 0, 0), (0, 1, 0, 0, 0, 0, 0, 0, 1, 0), (11, 1, 0, 0, 0, 0, 0, 0, 0, 0), (54, 1, 0, 0, 0, 0, 0, 0, 0, 0),
  (6, 1, 0, 0, 0, 0, 0, 0, 0, 0), (4, 1, 3, 0, 0, 0, 0, 0, 0, 0), (0, 1, 0, 0, 0, 0, 0, 0, 2, 0), (11, 1, 0, 0, 0, 0, 0, 0, 0, 0), (54, 1, 0, 0, 0, 0, 0, 0, 0, 0), (48, 3, 113, 116, 0, 1045, 3, 9, 0, 0),
  (6, 1, 2, 0, 0, 0, 0, 0, 0, 0), (6, 1, 0, 0, 0, 0, 0, 0, 0, 0), (4, 1, 3, 0, 0, 0, 0, 0, 0, 0), (0, 1, 0, 0, 0, 0, 0, 0, 1, 0), (11, 1, 0, 0, 0, 0, 0, 0, 0, 0), (54, 1, 0, 0, 0, 0, 0, 0, 0, 0),
  (6, 1, 0, 0, 0, 0, 0, 0, 0, 0), (4, 1, 3, 0, 0, 0, 0, 0, 0, 0), (0, 1, 0, 0, 0, 0, 0, 0, 2, 0), (11, 1, 0, 0, 0, 0, 0, 0, 0, 0), (54, 1, 0, 0, 0, 0, 0, 0, 0, 0), (48, 3, 116, 285, 0, 1880, 3, 10, 0, 0),
  (23, 3, 1941, 0, 0, 0, 0, 0, 0, 0), (0, 1, 0, 0, 0, 0, 0, 0, 0, 0), (27, 1, 0, 0, 1, 0, 0, 0, 0, 0)]
def q351_994 : List XO := [(6, 1, 1, 0, 0, 0, 0, 0, 0, 0), (6, 1, 0, 0, 0, 0, 0, 0, 0, 0), (4, 1, 3, 0, 0, 0, 0, 0, 0, 0), (0, 1, 0, 0, 0, 0, 0, 0, 1, 0), (11, 1, 0, 0, 0, 0, 0, 0, 0, 0), (54, 1, 0, 0, 0, 0, 0, 0, 0, 0),
  (6, 1, 0, 0, 0, 0, 0, 0, 0, 0), (4, 1, 3, 0, 0, 0, 0, 0, 0, 0), (0, 1, 0, 0, 0, 0, 0, 0, 2, 0), (11, 1, 0, 0, 0, 0, 0, 0, 0, 0), (54, 1, 0, 0, 0, 0, 0, 0, 0, 0), (6, 1, 0, 0, 0, 0, 0, 0, 0, 0),
  (4, 1, 3, 0, 0, 0, 0, 0, 0, 0), (0, 1, 0, 0, 0, 0, 0, 0, 3, 0), (11, 1, 0, 0, 0, 0, 0, 0, 0, 0), (54, 1, 0, 0, 0, 0, 0, 0, 0, 0), (6, 1, 0, 0, 0, 0, 0, 0, 0, 0), (4, 1, 3, 0, 0, 0, 0, 0, 0, 0),
  (0, 1, 0, 0, 0, 0, 0, 0, 4, 0), (11, 1, 0, 0, 0, 0, 0, 0, 0, 0), (54, 1, 0, 0, 0, 0, 0, 0, 0, 0), (48, 3, 117, 117, 0, 1050, 5, 9, 0, 0), (6, 1, 2, 0, 0, 0, 0, 0, 0, 0), (6, 1, 0, 0, 0, 0, 0, 0, 0, 0),
  (4, 1, 3, 0, 0, 0, 0, 0, 0, 0), (0, 1, 0, 0, 0, 0, 0, 0, 1, 0), (11, 1, 0, 0, 0, 0, 0, 0, 0, 0), (54, 1, 0, 0, 0, 0, 0, 0, 0, 0), (6, 1, 0, 0, 0, 0, 0, 0, 0, 0), (4, 1, 3, 0, 0, 0, 0, 0, 0, 0),
  (0, 1, 0, 0, 0, 0, 0, 0, 2, 0), (11, 1, 0, 0, 0, 0, 0, 0, 0, 0), (54, 1, 0, 0, 0, 0, 0, 0, 0, 0), (6, 1, 0, 0, 0, 0, 0, 0, 0, 0), (4, 1, 3, 0, 0, 0, 0, 0, 0, 0), (0, 1, 0, 0, 0, 0, 0, 0, 3, 0),
  (11, 1, 0, 0, 0, 0, 0, 0, 0, 0), (54, 1, 0, 0, 0, 0, 0, 0, 0, 0), (6, 1, 0, 0, 0, 0, 0, 0, 0, 0), (4, 1, 3, 0, 0, 0, 0, 0, 0, 0), (0, 1, 0, 0, 0, 0, 0, 0, 4, 0), (11, 1, 0, 0, 0, 0, 0, 0, 0, 0),
  (54, 1, 0, 0, 0, 0, 0, 0, 0, 0), (48, 3, 121, 288, 0, 1893, 5, 10, 0, 0), (23, 3, 1941, 0, 0, 0, 0, 0, 0, 0), (0, 1, 0, 0, 0, 0, 0, 0, 0, 0), (27, 1, 0, 0, 1, 0, 0, 0, 0, 0)]
def q351_1047 : List XO := [(6, 1, 1, 0, 0, 0, 0, 0, 0, 0), (6, 1, 0, 0, 0, 0, 0, 0, 0, 0), (4, 1, 3, 0, 0, 0, 0, 0, 0, 0), (0, 1, 0, 0, 0, 0, 0, 0, 1, 0), (11, 1, 0, 0, 0, 0, 0, 0, 0, 0), (54, 1, 0, 0, 0, 0, 0, 0, 0, 0),
  (6, 1, 0, 0, 0, 0, 0, 0, 0, 0), (4, 1, 3, 0, 0, 0, 0, 0, 0, 0), (0, 1, 0, 0, 0, 0, 0, 0, 2, 0), (11, 1, 0, 0, 0, 0, 0, 0, 0, 0), (54, 1, 0, 0, 0, 0, 0, 0, 0, 0), (6, 1, 0, 0, 0, 0, 0, 0, 0, 0),
  (4, 1, 3, 0, 0, 0, 0, 0, 0, 0), (0, 1, 0, 0, 0, 0, 0, 0, 3, 0), (11, 1, 0, 0, 0, 0, 0, 0, 0, 0), (54, 1, 0, 0, 0, 0, 0, 0, 0, 0), (48, 3, 122, 133, 0, 1117, 4, 9, 0, 0), (6, 1, 2, 0, 0, 0, 0, 0, 0, 0),
  (6, 1, 0, 0, 0, 0, 0, 0, 0, 0), (4, 1, 3, 0, 0, 0, 0, 0, 0, 0), (0, 1, 0, 0, 0, 0, 0, 0, 1, 0), (11, 1, 0, 0, 0, 0, 0, 0, 0, 0), (54, 1, 0, 0, 0, 0, 0, 0, 0, 0), (6, 1, 0, 0, 0, 0, 0, 0, 0, 0),
  (4, 1, 3, 0, 0, 0, 0, 0, 0, 0), (0, 1, 0, 0, 0, 0, 0, 0, 2, 0), (11, 1, 0, 0, 0, 0, 0, 0, 0, 0), (54, 1, 0, 0, 0, 0, 0, 0, 0, 0), (6, 1, 0, 0, 0, 0, 0, 0, 0, 0), (4, 1, 3, 0, 0, 0, 0, 0, 0, 0),
  (0, 1, 0, 0, 0, 0, 0, 0, 3, 0), (11, 1, 0, 0, 0, 0, 0, 0, 0, 0), (54, 1, 0, 0, 0, 0, 0, 0, 0, 0), (48, 3, 126, 286, 0, 1884, 4, 10, 0, 0), (23, 3, 1941, 0, 0, 0, 0, 0, 0, 0), (0, 1, 0, 0, 0, 0, 0, 0, 0, 0),
  (27, 1, 0, 0, 1, 0, 0, 0, 0, 0)]
def q351_1090 : List XO := [(6, 1, 1, 0, 0, 0, 0, 0, 0, 0), (6, 1, 0, 0, 0, 0, 0, 0, 0, 0), (4, 1, 3, 0, 0, 0, 0, 0, 0, 0), (0, 1, 0, 0, 0, 0, 0, 0, 1, 0), (11, 1, 0, 0, 0, 0, 0, 0, 0, 0), (54, 1, 0, 0, 0, 0, 0, 0, 0, 0),
  (48, 3, 127, 135, 0, 1128, 2, 9, 0, 0), (6, 1, 2, 0, 0, 0, 0, 0, 0, 0), (6, 1, 0, 0, 0, 0, 0, 0, 0, 0), (4, 1, 3, 0, 0, 0, 0, 0, 0, 0), (0, 1, 0, 0, 0, 0, 0, 0, 1, 0), (11, 1, 0, 0, 0, 0, 0, 0, 0, 0),
  (54, 1, 0, 0, 0, 0, 0, 0, 0, 0), (48, 3, 131, 287, 0, 1888, 2, 10, 0, 0), (23, 3, 1941, 0, 0, 0, 0, 0, 0, 0), (0, 1, 0, 0, 0, 0, 0, 0, 0, 0), (27, 1, 0, 0, 1, 0, 0, 0, 0, 0)]
def q351_1113 : List XO := [(6, 1, 1, 0, 0, 0, 0, 0, 0, 0), (6, 1, 0, 0, 0, 0, 0, 0, 0, 0), (4, 1, 3, 0, 0, 0, 0, 0, 0, 0), (0, 1, 0, 0, 0, 0, 0, 0, 1, 0), (11, 1, 0, 0, 0, 0, 0, 0, 0, 0), (54, 1, 0, 0, 0, 0, 0, 0, 0, 0),
  (48, 3, 132, 136, 0, 1132, 2, 9, 0, 0), (6, 1, 2, 0, 0, 0, 0, 0, 0, 0), (6, 1, 0, 0, 0, 0, 0, 0, 0, 0), (4, 1, 3, 0, 0, 0, 0, 0, 0, 0), (0, 1, 0, 0, 0, 0, 0, 0, 1, 0), (11, 1, 0, 0, 0, 0, 0, 0, 0, 0),
  (54, 1, 0, 0, 0, 0, 0, 0, 0, 0), (48, 3, 135, 302, 0, 1949, 2, 10, 0, 0), (23, 3, 1941, 0, 0, 0, 0, 0, 0, 0), (0, 1, 0, 0, 0, 0, 0, 0, 0, 0), (27, 1, 0, 0, 1, 0, 0, 0, 0, 0)]
def q351_1136 : List XO := [(6, 1, 1, 0, 0, 0, 0, 0, 0, 0), (6, 1, 0, 0, 0, 0, 0, 0, 0, 0), (4, 1, 3, 0, 0, 0, 0, 0, 0, 0), (0, 1, 0, 0, 0, 0, 0, 0, 1, 0), (11, 1, 0, 0, 0, 0, 0, 0, 0, 0), (54, 1, 0, 0, 0, 0, 0, 0, 0, 0),
  (48, 3, 136, 137, 0, 1137, 2, 9, 0, 0), (6, 1, 2, 0, 0, 0, 0, 0, 0, 0), (6, 1, 0, 0, 0, 0, 0, 0, 0, 0), (4, 1, 3, 0, 0, 0, 0, 0, 0, 0), (0, 1, 0, 0, 0, 0, 0, 0, 1, 0), (11, 1, 0, 0, 0, 0, 0, 0, 0, 0),
  (54, 1, 0, 0, 0, 0, 0, 0, 0, 0), (48, 3, 139, 303, 0, 1953, 2, 10, 0, 0), (23, 3, 1941, 0, 0, 0, 0, 0, 0, 0), (0, 1, 0, 0, 0, 0, 0, 0, 0, 0), (27, 1, 0, 0, 1, 0, 0, 0, 0, 0)]
def q351_1159 : List XO := [(6, 1, 1, 0, 0, 0, 0, 0, 0, 0), (6, 1, 0, 0, 0, 0, 0, 0, 0, 0), (4, 1, 3, 0, 0, 0, 0, 0, 0, 0), (0, 1, 0, 0, 0, 0, 0, 0, 1, 0), (11, 1, 0, 0, 0, 0, 0, 0, 0, 0), (54, 1, 0, 0, 0, 0, 0, 0, 0, 0),
  (6, 1, 0, 0, 0, 0, 0, 0, 0, 0), (4, 1, 3, 0, 0, 0, 0, 0, 0, 0), (0, 1, 0, 0, 0, 0, 0, 0, 2, 0), (11, 1, 0, 0, 0, 0, 0, 0, 0, 0), (54, 1, 0, 0, 0, 0, 0, 0, 0, 0), (6, 1, 0, 0, 0, 0, 0, 0, 0, 0),
  (4, 1, 3, 0, 0, 0, 0, 0, 0, 0), (0, 1, 0, 0, 0, 0, 0, 0, 3, 0), (11, 1, 0, 0, 0, 0, 0, 0, 0, 0), (54, 1, 0, 0, 0, 0, 0, 0, 0, 0), (48, 3, 140, 138, 0, 1141, 4, 9, 0, 0), (6, 1, 2, 0, 0, 0, 0, 0, 0, 0),
  (6, 1, 0, 0, 0, 0, 0, 0, 0, 0), (4, 1, 3, 0, 0, 0, 0, 0, 0, 0), (0, 1, 0, 0, 0, 0, 0, 0, 1, 0), (11, 1, 0, 0, 0, 0, 0, 0, 0, 0), (54, 1, 0, 0, 0, 0, 0, 0, 0, 0), (6, 1, 0, 0, 0, 0, 0, 0, 0, 0),
  (4, 1, 3, 0, 0, 0, 0, 0, 0, 0), (0, 1, 0, 0, 0, 0, 0, 0, 2, 0), (11, 1, 0, 0, 0, 0, 0, 0, 0, 0), (54, 1, 0, 0, 0, 0, 0, 0, 0, 0), (6, 1, 0, 0, 0, 0, 0, 0, 0, 0), (4, 1, 3, 0, 0, 0, 0, 0, 0, 0),
  (0, 1, 0, 0, 0, 0, 0, 0, 3, 0), (11, 1, 0, 0, 0, 0, 0, 0, 0, 0), (54, 1, 0, 0, 0, 0, 0, 0, 0, 0), (48, 3, 143, 304, 0, 1957, 4, 10, 0, 0), (23, 3, 1941, 0, 0, 0, 0, 0, 0, 0), (0, 1, 0, 0, 0, 0, 0, 0, 0, 0),
  (27, 1, 0, 0, 1, 0, 0, 0, 0, 0)]
def q351_1202 : List XO := [(6, 1, 1, 0, 0, 0, 0, 0, 0, 0), (6, 1, 0, 0, 0, 0, 0, 0, 0, 0), (4, 1, 3, 0, 0, 0, 0, 0, 0, 0), (0, 1, 0, 0, 0, 0, 0, 0, 1, 0), (11, 1, 0, 0, 0, 0, 0, 0, 0, 0), (54, 1, 0, 0, 0, 0, 0, 0, 0, 0),
  (6, 1, 0, 0, 0, 0, 0, 0, 0, 0), (4, 1, 3, 0, 0, 0, 0, 0, 0, 0), (0, 1, 0, 0, 0, 0, 0, 0, 2, 0), (11, 1, 0, 0, 0, 0, 0, 0, 0, 0), (54, 1, 0, 0, 0, 0, 0, 0, 0, 0), (6, 1, 0, 0, 0, 0, 0, 0, 0, 0),
  (4, 1, 3, 0, 0, 0, 0, 0, 0, 0), (0, 1, 0, 0, 0, 0, 0, 0, 3, 0), (11, 1, 0, 0, 0, 0, 0, 0, 0, 0), (54, 1, 0, 0, 0, 0, 0, 0, 0, 0), (6, 1, 0, 0, 0, 0, 0, 0, 0, 0), (4, 1, 3, 0, 0, 0, 0, 0, 0, 0),
  (0, 1, 0, 0, 0, 0, 0, 0, 4, 0), (11, 1, 0, 0, 0, 0, 0, 0, 0, 0), (54, 1, 0, 0, 0, 0, 0, 0, 0, 0), (48, 3, 144, 139, 0, 1145, 5, 9, 0, 0), (6, 1, 2, 0, 0, 0, 0, 0, 0, 0), (6, 1, 0, 0, 0, 0, 0, 0, 0, 0),
  (4, 1, 3, 0, 0, 0, 0, 0, 0, 0), (0, 1, 0, 0, 0, 0, 0, 0, 1, 0), (11, 1, 0, 0, 0, 0, 0, 0, 0, 0), (54, 1, 0, 0, 0, 0, 0, 0, 0, 0), (6, 1, 0, 0, 0, 0, 0, 0, 0, 0), (4, 1, 3, 0, 0, 0, 0, 0, 0, 0),
  (0, 1, 0, 0, 0, 0, 0, 0, 2, 0), (11, 1, 0, 0, 0, 0, 0, 0, 0, 0), (54, 1, 0, 0, 0, 0, 0, 0, 0, 0), (6, 1, 0, 0, 0, 0, 0, 0, 0, 0), (4, 1, 3, 0, 0, 0, 0, 0, 0, 0), (0, 1, 0, 0, 0, 0, 0, 0, 3, 0),
  (11, 1, 0, 0, 0, 0, 0, 0, 0, 0), (54, 1, 0, 0, 0, 0, 0, 0, 0, 0), (6, 1, 0, 0, 0, 0, 0, 0, 0, 0), (4, 1, 3, 0, 0, 0, 0, 0, 0, 0), (0, 1, 0, 0, 0, 0, 0, 0, 4, 0), (11, 1, 0, 0, 0, 0, 0, 0, 0, 0),
  (54, 1, 0, 0, 0, 0, 0, 0, 0, 0), (48, 3, 147, 305, 0, 1961, 5, 10, 0, 0), (23, 3, 1941, 0, 0, 0, 0, 0, 0, 0), (0, 1, 0, 0, 0, 0, 0, 0, 0, 0), (27, 1, 0, 0, 1, 0, 0, 0, 0, 0)]
def q351_1255 : List XO := [(6, 1, 1, 0, 0, 0, 0, 0, 0, 0), (6, 1, 0, 0, 0, 0, 0, 0, 0, 0), (4, 1, 3, 0, 0, 0, 0, 0, 0, 0), (0, 1, 0, 0, 0, 0, 0, 0, 1, 0), (11, 1, 0, 0, 0, 0, 0, 0, 0, 0), (54, 1, 0, 0, 0, 0, 0, 0, 0, 0),
  (6, 1, 0, 0, 0, 0, 0, 0, 0, 0), (4, 1, 3, 0, 0, 0, 0, 0, 0, 0), (0, 1, 0, 0, 0, 0, 0, 0, 2, 0), (11, 1, 0, 0, 0, 0, 0, 0, 0, 0), (54, 1, 0, 0, 0, 0, 0, 0, 0, 0), (6, 1, 0, 0, 0, 0, 0, 0, 0, 0),
  (4, 1, 3, 0, 0, 0, 0, 0, 0, 0), (0, 1, 0, 0, 0, 0, 0, 0, 3, 0), (11, 1, 0, 0, 0, 0, 0, 0, 0, 0), (54, 1, 0, 0, 0, 0, 0, 0, 0, 0), (6, 1, 0, 0, 0, 0, 0, 0, 0, 0), (4, 1, 3, 0, 0, 0, 0, 0, 0, 0),
  (0, 1, 0, 0, 0, 0, 0, 0, 4, 0), (11, 1, 0, 0, 0, 0, 0, 0, 0, 0), (54, 1, 0, 0, 0, 0, 0, 0, 0, 0), (48, 3, 148, 140, 0, 1149, 5, 9, 0, 0), (6, 1, 2, 0, 0, 0, 0, 0, 0, 0), (6, 1, 0, 0, 0, 0, 0, 0, 0, 0),
  (4, 1, 3, 0, 0, 0, 0, 0, 0, 0), (0, 1, 0, 0, 0, 0, 0, 0, 1, 0), (11, 1, 0, 0, 0, 0, 0, 0, 0, 0), (54, 1, 0, 0, 0, 0, 0, 0, 0, 0), (6, 1, 0, 0, 0, 0, 0, 0, 0, 0), (4, 1, 3, 0, 0, 0, 0, 0, 0, 0),
  (0, 1, 0, 0, 0, 0, 0, 0, 2, 0), (11, 1, 0, 0, 0, 0, 0, 0, 0, 0), (54, 1, 0, 0, 0, 0, 0, 0, 0, 0), (6, 1, 0, 0, 0, 0, 0, 0, 0, 0), (4, 1, 3, 0, 0, 0, 0, 0, 0, 0), (0, 1, 0, 0, 0, 0, 0, 0, 3, 0),
  (11, 1, 0, 0, 0, 0, 0, 0, 0, 0), (54, 1, 0, 0, 0, 0, 0, 0, 0, 0), (6, 1, 0, 0, 0, 0, 0, 0, 0, 0), (4, 1, 3, 0, 0, 0, 0, 0, 0, 0), (0, 1, 0, 0, 0, 0, 0, 0, 4, 0), (11, 1, 0, 0, 0, 0, 0, 0, 0, 0),
  (54, 1, 0, 0, 0, 0, 0, 0, 0, 0), (48, 3, 151, 306, 0, 1965, 5, 10, 0, 0), (23, 3, 1941, 0, 0, 0, 0, 0, 0, 0), (0, 1, 0, 0, 0, 0, 0, 0, 0, 0), (27, 1, 0, 0, 1, 0, 0, 0, 0, 0)]
def q351_1308 : List XO := [(6, 1, 1, 0, 0, 0, 0, 0, 0, 0), (6, 1, 0, 0, 0, 0, 0, 0, 0, 0), (4, 1, 3, 0, 0, 0, 0, 0, 0, 0), (0, 1, 0, 0, 0, 0, 0, 0, 1, 0), (11, 1, 0, 0, 0, 0, 0, 0, 0, 0), (54, 1, 0, 0, 0, 0, 0, 0, 0, 0),
  (6, 1, 0, 0, 0, 0, 0, 0, 0, 0), (4, 1, 3, 0, 0, 0, 0, 0, 0, 0), (0, 1, 0, 0, 0, 0, 0, 0, 2, 0), (11, 1, 0, 0, 0, 0, 0, 0, 0, 0), (54, 1, 0, 0, 0, 0, 0, 0, 0, 0), (6, 1, 0, 0, 0, 0, 0, 0, 0, 0),
  (4, 1, 3, 0, 0, 0, 0, 0, 0, 0), (0, 1, 0, 0, 0, 0, 0, 0, 3, 0), (11, 1, 0, 0, 0, 0, 0, 0, 0, 0), (54, 1, 0, 0, 0, 0, 0, 0, 0, 0), (48, 3, 152, 141, 0, 1154, 4, 9, 0, 0), (6, 1, 2, 0, 0, 0, 0, 0, 0, 0),
  (6, 1, 0, 0, 0, 0, 0, 0, 0, 0), (4, 1, 3, 0, 0, 0, 0, 0, 0, 0), (0, 1, 0, 0, 0, 0, 0, 0, 1, 0), (11, 1, 0, 0, 0, 0, 0, 0, 0, 0), (54, 1, 0, 0, 0, 0, 0, 0, 0, 0), (6, 1, 0, 0, 0, 0, 0, 0, 0, 0),
  (4, 1, 3, 0, 0, 0, 0, 0, 0, 0), (0, 1, 0, 0, 0, 0, 0, 0, 2, 0), (11, 1, 0, 0, 0, 0, 0, 0, 0, 0), (54, 1, 0, 0, 0, 0, 0, 0, 0, 0), (6, 1, 0, 0, 0, 0, 0, 0, 0, 0), (4, 1, 3, 0, 0, 0, 0, 0, 0, 0),
  (0, 1, 0, 0, 0, 0, 0, 0, 3, 0), (11, 1, 0, 0, 0, 0, 0, 0, 0, 0), (54, 1, 0, 0, 0, 0, 0, 0, 0, 0), (48, 3, 155, 307, 0, 1969, 4, 10, 0, 0), (23, 3, 1941, 0, 0, 0, 0, 0, 0, 0), (0, 1, 0, 0, 0, 0, 0, 0, 0, 0),
  (27, 1, 0, 0, 1, 0, 0, 0, 0, 0)]
def q351_1351 : List XO := [(6, 1, 1, 0, 0, 0, 0, 0, 0, 0), (6, 1, 0, 0, 0, 0, 0, 0, 0, 0), (4, 1, 3, 0, 0, 0, 0, 0, 0, 0), (0, 1, 0, 0, 0, 0, 0, 0, 1, 0), (11, 1, 0, 0, 0, 0, 0, 0, 0, 0), (54, 1, 0, 0, 0, 0, 0, 0, 0, 0),
  (6, 1, 0, 0, 0, 0, 0, 0, 0, 0), (4, 1, 3, 0, 0, 0, 0, 0, 0, 0), (0, 1, 0, 0, 0, 0, 0, 0, 2, 0), (11, 1, 0, 0, 0, 0, 0, 0, 0, 0), (54, 1, 0, 0, 0, 0, 0, 0, 0, 0), (6, 1, 0, 0, 0, 0, 0, 0, 0, 0),
  (4, 1, 3, 0, 0, 0, 0, 0, 0, 0), (0, 1, 0, 0, 0, 0, 0, 0, 3, 0), (11, 1, 0, 0, 0, 0, 0, 0, 0, 0), (54, 1, 0, 0, 0, 0, 0, 0, 0, 0), (48, 3, 156, 144, 0, 1169, 4, 9, 0, 0), (6, 1, 2, 0, 0, 0, 0, 0, 0, 0),
  (6, 1, 0, 0, 0, 0, 0, 0, 0, 0), (4, 1, 3, 0, 0, 0, 0, 0, 0, 0), (0, 1, 0, 0, 0, 0, 0, 0, 1, 0), (11, 1, 0, 0, 0, 0, 0, 0, 0, 0), (54, 1, 0, 0, 0, 0, 0, 0, 0, 0), (6, 1, 0, 0, 0, 0, 0, 0, 0, 0),
  (4, 1, 3, 0, 0, 0, 0, 0, 0, 0), (0, 1, 0, 0, 0, 0, 0, 0, 2, 0), (11, 1, 0, 0, 0, 0, 0, 0, 0, 0), (54, 1, 0, 0, 0, 0, 0, 0, 0, 0), (6, 1, 0, 0, 0, 0, 0, 0, 0, 0), (4, 1, 3, 0, 0, 0, 0, 0, 0, 0),
  (0, 1, 0, 0, 0, 0, 0, 0, 3, 0), (11, 1, 0, 0, 0, 0, 0, 0, 0, 0), (54, 1, 0, 0, 0, 0, 0, 0, 0, 0), (48, 3, 159, 310, 0, 1981, 4, 10, 0, 0), (23, 3, 1941, 0, 0, 0, 0, 0, 0, 0), (0, 1, 0, 0, 0, 0, 0, 0, 0, 0),
  (27, 1, 0, 0, 1, 0, 0, 0, 0, 0)]
def q351_1394 : List XO := [(6, 1, 1, 0, 0, 0, 0, 0, 0, 0), (6, 1, 0, 0, 0, 0, 0, 0, 0, 0), (4, 1, 3, 0, 0, 0, 0, 0, 0, 0), (0, 1, 0, 0, 0, 0, 0, 0, 1, 0), (11, 1, 0, 0, 0, 0, 0, 0, 0, 0), (54, 1, 0, 0, 0, 0, 0, 0, 0, 0),
  (6, 1, 0, 0, 0, 0, 0, 0, 0, 0), (4, 1, 3, 0, 0, 0, 0, 0, 0, 0), (0, 1, 0, 0, 0, 0, 0, 0, 2, 0), (11, 1, 0, 0, 0, 0, 0, 0, 0, 0), (54, 1, 0, 0, 0, 0, 0, 0, 0, 0), (6, 1, 0, 0, 0, 0, 0, 0, 0, 0),
  (4, 1, 3, 0, 0, 0, 0, 0, 0, 0), (0, 1, 0, 0, 0, 0, 0, 0, 3, 0), (11, 1, 0, 0, 0, 0, 0, 0, 0, 0), (54, 1, 0, 0, 0, 0, 0, 0, 0, 0), (48, 3, 160, 145, 0, 1173, 4, 9, 0, 0), (6, 1, 2, 0, 0, 0, 0, 0, 0, 0),
  (6, 1, 0, 0, 0, 0, 0, 0, 0, 0), (4, 1, 3, 0, 0, 0, 0, 0, 0, 0), (0, 1, 0, 0, 0, 0, 0, 0, 1, 0), (11, 1, 0, 0, 0, 0, 0, 0, 0, 0), (54, 1, 0, 0, 0, 0, 0, 0, 0, 0), (6, 1, 0, 0, 0, 0, 0, 0, 0, 0),
  (4, 1, 3, 0, 0, 0, 0, 0, 0, 0), (0, 1, 0, 0, 0, 0, 0, 0, 2, 0), (11, 1, 0, 0, 0, 0, 0, 0, 0, 0), (54, 1, 0, 0, 0, 0, 0, 0, 0, 0), (6, 1, 0, 0, 0, 0, 0, 0, 0, 0), (4, 1, 3, 0, 0, 0, 0, 0, 0, 0),
  (0, 1, 0, 0, 0, 0, 0, 0, 3, 0), (11, 1, 0, 0, 0, 0, 0, 0, 0, 0), (54, 1, 0, 0, 0, 0, 0, 0, 0, 0), (48, 3, 163, 311, 0, 1985, 4, 10, 0, 0), (23, 3, 1941, 0, 0, 0, 0, 0, 0, 0), (0, 1, 0, 0, 0, 0, 0, 0, 0, 0),
  (27, 1, 0, 0, 1, 0, 0, 0, 0, 0)]
def q351_1437 : List XO := [(6, 1, 1, 0, 0, 0, 0, 0, 0, 0), (6, 1, 0, 0, 0, 0, 0, 0, 0, 0), (4, 1, 3, 0, 0, 0, 0, 0, 0, 0), (0, 1, 0, 0, 0, 0, 0, 0, 1, 0), (11, 1, 0, 0, 0, 0, 0, 0, 0, 0), (54, 1, 0, 0, 0, 0, 0, 0, 0, 0),
  (48, 3, 164, 146, 0, 1177, 2, 9, 0, 0), (6, 1, 2, 0, 0, 0, 0, 0, 0, 0), (6, 1, 0, 0, 0, 0, 0, 0, 0, 0), (4, 1, 3, 0, 0, 0, 0, 0, 0, 0), (0, 1, 0, 0, 0, 0, 0, 0, 1, 0), (11, 1, 0, 0, 0, 0, 0, 0, 0, 0),
  (54, 1, 0, 0, 0, 0, 0, 0, 0, 0), (48, 3, 167, 312, 0, 1989, 2, 10, 0, 0), (23, 3, 1941, 0, 0, 0, 0, 0, 0, 0), (0, 1, 0, 0, 0, 0, 0, 0, 0, 0), (27, 1, 0, 0, 1, 0, 0, 0, 0, 0)]
def q351_1460 : List XO := [(6, 1, 1, 0, 0, 0, 0, 0, 0, 0), (6, 1, 0, 0, 0, 0, 0, 0, 0, 0), (4, 1, 3, 0, 0, 0, 0, 0, 0, 0), (0, 1, 0, 0, 0, 0, 0, 0, 1, 0), (11, 1, 0, 0, 0, 0, 0, 0, 0, 0), (54, 1, 0, 0, 0, 0, 0, 0, 0, 0),
  (48, 3, 168, 147, 0, 1182, 2, 9, 0, 0), (6, 1, 2, 0, 0, 0, 0, 0, 0, 0), (6, 1, 0, 0, 0, 0, 0, 0, 0, 0), (4, 1, 3, 0, 0, 0, 0, 0, 0, 0), (0, 1, 0, 0, 0, 0, 0, 0, 1, 0), (11, 1, 0, 0, 0, 0, 0, 0, 0, 0),
  (54, 1, 0, 0, 0, 0, 0, 0, 0, 0), (48, 3, 171, 313, 0, 1993, 2, 10, 0, 0), (23, 3, 1941, 0, 0, 0, 0, 0, 0, 0), (0, 1, 0, 0, 0, 0, 0, 0, 0, 0), (27, 1, 0, 0, 1, 0, 0, 0, 0, 0)]
def q351_1483 : List XO := [(6, 1, 1, 0, 0, 0, 0, 0, 0, 0), (6, 1, 0, 0, 0, 0, 0, 0, 0, 0), (4, 1, 3, 0, 0, 0, 0, 0, 0, 0), (0, 1, 0, 0, 0, 0, 0, 0, 1, 0), (11, 1, 0, 0, 0, 0, 0, 0, 0, 0), (54, 1, 0, 0, 0, 0, 0, 0, 0, 0),
  (6, 1, 0, 0, 0, 0, 0, 0, 0, 0), (4, 1, 3, 0, 0, 0, 0, 0, 0, 0), (0, 1, 0, 0, 0, 0, 0, 0, 2, 0), (11, 1, 0, 0, 0, 0, 0, 0, 0, 0), (54, 1, 0, 0, 0, 0, 0, 0, 0, 0), (48, 3, 172, 148, 0, 1186, 3, 9, 0, 0),
  (6, 1, 2, 0, 0, 0, 0, 0, 0, 0), (6, 1, 0, 0, 0, 0, 0, 0, 0, 0), (4, 1, 3, 0, 0, 0, 0, 0, 0, 0), (0, 1, 0, 0, 0, 0, 0, 0, 1, 0), (11, 1, 0, 0, 0, 0, 0, 0, 0, 0), (54, 1, 0, 0, 0, 0, 0, 0, 0, 0),
  (6, 1, 0, 0, 0, 0, 0, 0, 0, 0), (4, 1, 3, 0, 0, 0, 0, 0, 0, 0), (0, 1, 0, 0, 0, 0, 0, 0, 2, 0), (11, 1, 0, 0, 0, 0, 0, 0, 0, 0), (54, 1, 0, 0, 0, 0, 0, 0, 0, 0), (48, 3, 175, 314, 0, 1997, 3, 10, 0, 0),
  (23, 3, 1941, 0, 0, 0, 0, 0, 0, 0), (0, 1, 0, 0, 0, 0, 0, 0, 0, 0), (27, 1, 0, 0, 1, 0, 0, 0, 0, 0)]
def q351_1516 : List XO := [(6, 1, 1, 0, 0, 0, 0, 0, 0, 0), (48, 3, 176, 149, 0, 1190, 1, 9, 0, 0), (6, 1, 2, 0, 0, 0, 0, 0, 0, 0), (48, 3, 179, 316, 0, 2005, 1, 10, 0, 0), (23, 3, 1941, 0, 0, 0, 0, 0, 0, 0), (0, 1, 0, 0, 0, 0, 0, 0, 0, 0),
  (27, 1, 0, 0, 1, 0, 0, 0, 0, 0)]
def q351_1529 : List XO := [(6, 1, 1, 0, 0, 0, 0, 0, 0, 0), (48, 3, 180, 151, 0, 1199, 1, 9, 0, 0), (6, 1, 2, 0, 0, 0, 0, 0, 0, 0), (48, 3, 183, 318, 0, 2013, 1, 10, 0, 0), (23, 3, 1941, 0, 0, 0, 0, 0, 0, 0), (0, 1, 0, 0, 0, 0, 0, 0, 0, 0),
  (27, 1, 0, 0, 1, 0, 0, 0, 0, 0)]
def q351_1542 : List XO := [(6, 1, 1, 0, 0, 0, 0, 0, 0, 0), (6, 1, 0, 0, 0, 0, 0, 0, 0, 0), (4, 1, 3, 0, 0, 0, 0, 0, 0, 0), (0, 1, 0, 0, 0, 0, 0, 0, 1, 0), (11, 1, 0, 0, 0, 0, 0, 0, 0, 0), (54, 1, 0, 0, 0, 0, 0, 0, 0, 0),
  (6, 1, 0, 0, 0, 0, 0, 0, 0, 0), (4, 1, 3, 0, 0, 0, 0, 0, 0, 0), (0, 1, 0, 0, 0, 0, 0, 0, 2, 0), (11, 1, 0, 0, 0, 0, 0, 0, 0, 0), (54, 1, 0, 0, 0, 0, 0, 0, 0, 0), (6, 1, 0, 0, 0, 0, 0, 0, 0, 0),
  (4, 1, 3, 0, 0, 0, 0, 0, 0, 0), (0, 1, 0, 0, 0, 0, 0, 0, 3, 0), (11, 1, 0, 0, 0, 0, 0, 0, 0, 0), (54, 1, 0, 0, 0, 0, 0, 0, 0, 0), (6, 1, 0, 0, 0, 0, 0, 0, 0, 0), (4, 1, 3, 0, 0, 0, 0, 0, 0, 0),
  (0, 1, 0, 0, 0, 0, 0, 0, 4, 0), (11, 1, 0, 0, 0, 0, 0, 0, 0, 0), (54, 1, 0, 0, 0, 0, 0, 0, 0, 0), (48, 3, 184, 152, 0, 1203, 5, 9, 0, 0), (6, 1, 2, 0, 0, 0, 0, 0, 0, 0), (6, 1, 0, 0, 0, 0, 0, 0, 0, 0),
  (4, 1, 3, 0, 0, 0, 0, 0, 0, 0), (0, 1, 0, 0, 0, 0, 0, 0, 1, 0), (11, 1, 0, 0, 0, 0, 0, 0, 0, 0), (54, 1, 0, 0, 0, 0, 0, 0, 0, 0), (6, 1, 0, 0, 0, 0, 0, 0, 0, 0), (4, 1, 3, 0, 0, 0, 0, 0, 0, 0),
  (0, 1, 0, 0, 0, 0, 0, 0, 2, 0), (11, 1, 0, 0, 0, 0, 0, 0, 0, 0), (54, 1, 0, 0, 0, 0, 0, 0, 0, 0), (6, 1, 0, 0, 0, 0, 0, 0, 0, 0), (4, 1, 3, 0, 0, 0, 0, 0, 0, 0), (0, 1, 0, 0, 0, 0, 0, 0, 3, 0),
  (11, 1, 0, 0, 0, 0, 0, 0, 0, 0), (54, 1, 0, 0, 0, 0, 0, 0, 0, 0), (6, 1, 0, 0, 0, 0, 0, 0, 0, 0), (4, 1, 3, 0, 0, 0, 0, 0, 0, 0), (0, 1, 0, 0, 0, 0, 0, 0, 4, 0), (11, 1, 0, 0, 0, 0, 0, 0, 0, 0),
  (54, 1, 0, 0, 0, 0, 0, 0, 0, 0), (48, 3, 187, 319, 0, 2017, 5, 10, 0, 0), (23, 3, 1941, 0, 0, 0, 0, 0, 0, 0), (0, 1, 0, 0, 0, 0, 0, 0, 0, 0), (27, 1, 0, 0, 1, 0, 0, 0, 0, 0)]
def q351_1595 : List XO := [(6, 1, 1, 0, 0, 0, 0, 0, 0, 0), (6, 1, 0, 0, 0, 0, 0, 0, 0, 0), (4, 1, 3, 0, 0, 0, 0, 0, 0, 0), (0, 1, 0, 0, 0, 0, 0, 0, 1, 0), (11, 1, 0, 0, 0, 0, 0, 0, 0, 0), (54, 1, 0, 0, 0, 0, 0, 0, 0, 0),
  (6, 1, 0, 0, 0, 0, 0, 0, 0, 0), (4, 1, 3, 0, 0, 0, 0, 0, 0, 0), (0, 1, 0, 0, 0, 0, 0, 0, 2, 0), (11, 1, 0, 0, 0, 0, 0, 0, 0, 0), (54, 1, 0, 0, 0, 0, 0, 0, 0, 0), (6, 1, 0, 0, 0, 0, 0, 0, 0, 0),
  (4, 1, 3, 0, 0, 0, 0, 0, 0, 0), (0, 1, 0, 0, 0, 0, 0, 0, 3, 0), (11, 1, 0, 0, 0, 0, 0, 0, 0, 0), (54, 1, 0, 0, 0, 0, 0, 0, 0, 0), (6, 1, 0, 0, 0, 0, 0, 0, 0, 0), (4, 1, 3, 0, 0, 0, 0, 0, 0, 0),
  (0, 1, 0, 0, 0, 0, 0, 0, 4, 0), (11, 1, 0, 0, 0, 0, 0, 0, 0, 0), (54, 1, 0, 0, 0, 0, 0, 0, 0, 0), (6, 1, 0, 0, 0, 0, 0, 0, 0, 0), (4, 1, 3, 0, 0, 0, 0, 0, 0, 0), (0, 1, 0, 0, 0, 0, 0, 0, 5, 0),
  (11, 1, 0, 0, 0, 0, 0, 0, 0, 0), (54, 1, 0, 0, 0, 0, 0, 0, 0, 0), (48, 3, 188, 159, 0, 1232, 6, 9, 0, 0), (6, 1, 2, 0, 0, 0, 0, 0, 0, 0), (6, 1, 0, 0, 0, 0, 0, 0, 0, 0), (4, 1, 3, 0, 0, 0, 0, 0, 0, 0),
  (0, 1, 0, 0, 0, 0, 0, 0, 1, 0), (11, 1, 0, 0, 0, 0, 0, 0, 0, 0), (54, 1, 0, 0, 0, 0, 0, 0, 0, 0), (6, 1, 0, 0, 0, 0, 0, 0, 0, 0), (4, 1, 3, 0, 0, 0, 0, 0, 0, 0), (0, 1, 0, 0, 0, 0, 0, 0, 2, 0),
  (11, 1, 0, 0, 0, 0, 0, 0, 0, 0), (54, 1, 0, 0, 0, 0, 0, 0, 0, 0), (6, 1, 0, 0, 0, 0, 0, 0, 0, 0), (4, 1, 3, 0, 0, 0, 0, 0, 0, 0), (0, 1, 0, 0, 0, 0, 0, 0, 3, 0), (11, 1, 0, 0, 0, 0, 0, 0, 0, 0),
  (54, 1, 0, 0, 0, 0, 0, 0, 0, 0), (6, 1, 0, 0, 0, 0, 0, 0, 0, 0), (4, 1, 3, 0, 0, 0, 0, 0, 0, 0), (0, 1, 0, 0, 0, 0, 0, 0, 4, 0), (11, 1, 0, 0, 0, 0, 0, 0, 0, 0), (54, 1, 0, 0, 0, 0, 0, 0, 0, 0),
  (6, 1, 0, 0, 0, 0, 0, 0, 0, 0), (4, 1, 3, 0, 0, 0, 0, 0, 0, 0), (0, 1, 0, 0, 0, 0, 0, 0, 5, 0), (11, 1, 0, 0, 0, 0, 0, 0, 0, 0), (54, 1, 0, 0, 0, 0, 0, 0, 0, 0), (48, 3, 191, 326, 0, 2046, 6, 10, 0, 0),
  (23, 3, 1941, 0, 0, 0, 0, 0, 0, 0), (0, 1, 0, 0, 0, 0, 0, 0, 0, 0), (27, 1, 0, 0, 1, 0, 0, 0, 0, 0)]
def q351_1658 : List XO := [(6, 1, 1, 0, 0, 0, 0, 0, 0, 0), (6, 1, 0, 0, 0, 0, 0, 0, 0, 0), (4, 1, 3, 0, 0, 0, 0, 0, 0, 0), (0, 1, 0, 0, 0, 0, 0, 0, 1, 0), (11, 1, 0, 0, 0, 0, 0, 0, 0, 0), (54, 1, 0, 0, 0, 0, 0, 0, 0, 0),
  (6, 1, 0, 0, 0, 0, 0, 0, 0, 0), (4, 1, 3, 0, 0, 0, 0, 0, 0, 0), (0, 1, 0, 0, 0, 0, 0, 0, 2, 0), (11, 1, 0, 0, 0, 0, 0, 0, 0, 0), (54, 1, 0, 0, 0, 0, 0, 0, 0, 0), (48, 3, 192, 160, 0, 1236, 3, 9, 0, 0),
  (6, 1, 2, 0, 0, 0, 0, 0, 0, 0), (6, 1, 0, 0, 0, 0, 0, 0, 0, 0), (4, 1, 3, 0, 0, 0, 0, 0, 0, 0), (0, 1, 0, 0, 0, 0, 0, 0, 1, 0), (11, 1, 0, 0, 0, 0, 0, 0, 0, 0), (54, 1, 0, 0, 0, 0, 0, 0, 0, 0),
  (6, 1, 0, 0, 0, 0, 0, 0, 0, 0), (4, 1, 3, 0, 0, 0, 0, 0, 0, 0), (0, 1, 0, 0, 0, 0, 0, 0, 2, 0), (11, 1, 0, 0, 0, 0, 0, 0, 0, 0), (54, 1, 0, 0, 0, 0, 0, 0, 0, 0), (48, 3, 195, 327, 0, 2050, 3, 10, 0, 0),
  (23, 3, 1941, 0, 0, 0, 0, 0, 0, 0), (0, 1, 0, 0, 0, 0, 0, 0, 0, 0), (27, 1, 0, 0, 1, 0, 0, 0, 0, 0)]
def q351_1691 : List XO := [(6, 1, 1, 0, 0, 0, 0, 0, 0, 0), (6, 1, 0, 0, 0, 0, 0, 0, 0, 0), (4, 1, 3, 0, 0, 0, 0, 0, 0, 0), (0, 1, 0, 0, 0, 0, 0, 0, 1, 0), (11, 1, 0, 0, 0, 0, 0, 0, 0, 0), (54, 1, 0, 0, 0, 0, 0, 0, 0, 0),
  (48, 3, 196, 161, 0, 1243, 2, 9, 0, 0), (6, 1, 2, 0, 0, 0, 0, 0, 0, 0), (6, 1, 0, 0, 0, 0, 0, 0, 0, 0), (4, 1, 3, 0, 0, 0, 0, 0, 0, 0), (0, 1, 0, 0, 0, 0, 0, 0, 1, 0), (11, 1, 0, 0, 0, 0, 0, 0, 0, 0),
  (54, 1, 0, 0, 0, 0, 0, 0, 0, 0), (48, 3, 199, 328, 0, 2054, 2, 10, 0, 0), (23, 3, 1941, 0, 0, 0, 0, 0, 0, 0), (0, 1, 0, 0, 0, 0, 0, 0, 0, 0), (27, 1, 0, 0, 1, 0, 0, 0, 0, 0)]
def q351_1714 : List XO := [(6, 1, 1, 0, 0, 0, 0, 0, 0, 0), (6, 1, 0, 0, 0, 0, 0, 0, 0, 0), (4, 1, 3, 0, 0, 0, 0, 0, 0, 0), (0, 1, 0, 0, 0, 0, 0, 0, 1, 0), (11, 1, 0, 0, 0, 0, 0, 0, 0, 0), (54, 1, 0, 0, 0, 0, 0, 0, 0, 0),
  (48, 3, 200, 165, 0, 1258, 2, 9, 0, 0), (6, 1, 2, 0, 0, 0, 0, 0, 0, 0), (6, 1, 0, 0, 0, 0, 0, 0, 0, 0), (4, 1, 3, 0, 0, 0, 0, 0, 0, 0), (0, 1, 0, 0, 0, 0, 0, 0, 1, 0), (11, 1, 0, 0, 0, 0, 0, 0, 0, 0),
  (54, 1, 0, 0, 0, 0, 0, 0, 0, 0), (48, 3, 203, 331, 0, 2067, 2, 10, 0, 0), (23, 3, 1941, 0, 0, 0, 0, 0, 0, 0), (0, 1, 0, 0, 0, 0, 0, 0, 0, 0), (27, 1, 0, 0, 1, 0, 0, 0, 0, 0)]
def q351_1737 : List XO := [(6, 1, 1, 0, 0, 0, 0, 0, 0, 0), (6, 1, 0, 0, 0, 0, 0, 0, 0, 0), (4, 1, 3, 0, 0, 0, 0, 0, 0, 0), (0, 1, 0, 0, 0, 0, 0, 0, 1, 0), (11, 1, 0, 0, 0, 0, 0, 0, 0, 0), (54, 1, 0, 0, 0, 0, 0, 0, 0, 0),
  (6, 1, 0, 0, 0, 0, 0, 0, 0, 0), (4, 1, 3, 0, 0, 0, 0, 0, 0, 0), (0, 1, 0, 0, 0, 0, 0, 0, 2, 0), (11, 1, 0, 0, 0, 0, 0, 0, 0, 0), (54, 1, 0, 0, 0, 0, 0, 0, 0, 0), (6, 1, 0, 0, 0, 0, 0, 0, 0, 0),
  (4, 1, 3, 0, 0, 0, 0, 0, 0, 0), (0, 1, 0, 0, 0, 0, 0, 0, 3, 0), (11, 1, 0, 0, 0, 0, 0, 0, 0, 0), (54, 1, 0, 0, 0, 0, 0, 0, 0, 0), (48, 3, 204, 166, 0, 1262, 4, 9, 0, 0), (6, 1, 2, 0, 0, 0, 0, 0, 0, 0),
  (6, 1, 0, 0, 0, 0, 0, 0, 0, 0), (4, 1, 3, 0, 0, 0, 0, 0, 0, 0), (0, 1, 0, 0, 0, 0, 0, 0, 1, 0), (11, 1, 0, 0, 0, 0, 0, 0, 0, 0), (54, 1, 0, 0, 0, 0, 0, 0, 0, 0), (6, 1, 0, 0, 0, 0, 0, 0, 0, 0),
  (4, 1, 3, 0, 0, 0, 0, 0, 0, 0), (0, 1, 0, 0, 0, 0, 0, 0, 2, 0), (11, 1, 0, 0, 0, 0, 0, 0, 0, 0), (54, 1, 0, 0, 0, 0, 0, 0, 0, 0), (6, 1, 0, 0, 0, 0, 0, 0, 0, 0), (4, 1, 3, 0, 0, 0, 0, 0, 0, 0),
  (0, 1, 0, 0, 0, 0, 0, 0, 3, 0), (11, 1, 0, 0, 0, 0, 0, 0, 0, 0), (54, 1, 0, 0, 0, 0, 0, 0, 0, 0), (48, 3, 207, 332, 0, 2071, 4, 10, 0, 0), (23, 3, 1941, 0, 0, 0, 0, 0, 0, 0), (0, 1, 0, 0, 0, 0, 0, 0, 0, 0),
  (27, 1, 0, 0, 1, 0, 0, 0, 0, 0)]
def q351_1780 : List XO := [(6, 1, 1, 0, 0, 0, 0, 0, 0, 0), (6, 1, 0, 0, 0, 0, 0, 0, 0, 0), (4, 1, 3, 0, 0, 0, 0, 0, 0, 0), (0, 1, 0, 0, 0, 0, 0, 0, 1, 0), (11, 1, 0, 0, 0, 0, 0, 0, 0, 0), (54, 1, 0, 0, 0, 0, 0, 0, 0, 0),
  (6, 1, 0, 0, 0, 0, 0, 0, 0, 0), (4, 1, 3, 0, 0, 0, 0, 0, 0, 0), (0, 1, 0, 0, 0, 0, 0, 0, 2, 0), (11, 1, 0, 0, 0, 0, 0, 0, 0, 0), (54, 1, 0, 0, 0, 0, 0, 0, 0, 0), (48, 3, 208, 171, 0, 1282, 3, 9, 0, 0),
  (6, 1, 2, 0, 0, 0, 0, 0, 0, 0), (6, 1, 0, 0, 0, 0, 0, 0, 0, 0), (4, 1, 3, 0, 0, 0, 0, 0, 0, 0), (0, 1, 0, 0, 0, 0, 0, 0, 1, 0), (11, 1, 0, 0, 0, 0, 0, 0, 0, 0), (54, 1, 0, 0, 0, 0, 0, 0, 0, 0),
  (6, 1, 0, 0, 0, 0, 0, 0, 0, 0), (4, 1, 3, 0, 0, 0, 0, 0, 0, 0), (0, 1, 0, 0, 0, 0, 0, 0, 2, 0), (11, 1, 0, 0, 0, 0, 0, 0, 0, 0), (54, 1, 0, 0, 0, 0, 0, 0, 0, 0), (48, 3, 212, 336, 0, 2087, 3, 10, 0, 0),
  (23, 3, 1941, 0, 0, 0, 0, 0, 0, 0), (0, 1, 0, 0, 0, 0, 0, 0, 0, 0), (27, 1, 0, 0, 1, 0, 0, 0, 0, 0)]
def q351_1813 : List XO := [(6, 1, 1, 0, 0, 0, 0, 0, 0, 0), (6, 1, 0, 0, 0, 0, 0, 0, 0, 0), (4, 1, 3, 0, 0, 0, 0, 0, 0, 0), (0, 1, 0, 0, 0, 0, 0, 0, 1, 0), (11, 1, 0, 0, 0, 0, 0, 0, 0, 0), (54, 1, 0, 0, 0, 0, 0, 0, 0, 0),
  (48, 3, 213, 172, 0, 1286, 2, 9, 0, 0), (6, 1, 2, 0, 0, 0, 0, 0, 0, 0), (6, 1, 0, 0, 0, 0, 0, 0, 0, 0), (4, 1, 3, 0, 0, 0, 0, 0, 0, 0), (0, 1, 0, 0, 0, 0, 0, 0, 1, 0), (11, 1, 0, 0, 0, 0, 0, 0, 0, 0),
  (54, 1, 0, 0, 0, 0, 0, 0, 0, 0), (48, 3, 216, 337, 0, 2091, 2, 10, 0, 0), (23, 3, 1941, 0, 0, 0, 0, 0, 0, 0), (0, 1, 0, 0, 0, 0, 0, 0, 0, 0), (27, 1, 0, 0, 1, 0, 0, 0, 0, 0)]
def q351_1836 : List XO := [(6, 1, 1, 0, 0, 0, 0, 0, 0, 0), (6, 1, 0, 0, 0, 0, 0, 0, 0, 0), (4, 1, 3, 0, 0, 0, 0, 0, 0, 0), (0, 1, 0, 0, 0, 0, 0, 0, 1, 0), (11, 1, 0, 0, 0, 0, 0, 0, 0, 0), (54, 1, 0, 0, 0, 0, 0, 0, 0, 0),
  (48, 3, 217, 173, 0, 1291, 2, 9, 0, 0), (6, 1, 2, 0, 0, 0, 0, 0, 0, 0), (6, 1, 0, 0, 0, 0, 0, 0, 0, 0), (4, 1, 3, 0, 0, 0, 0, 0, 0, 0), (0, 1, 0, 0, 0, 0, 0, 0, 1, 0), (11, 1, 0, 0, 0, 0, 0, 0, 0, 0),
  (54, 1, 0, 0, 0, 0, 0, 0, 0, 0), (48, 3, 220, 338, 0, 2095, 2, 10, 0, 0), (23, 3, 1941, 0, 0, 0, 0, 0, 0, 0), (0, 1, 0, 0, 0, 0, 0, 0, 0, 0), (27, 1, 0, 0, 1, 0, 0, 0, 0, 0)]
def q351_1859 : List XO := [(6, 1, 1, 0, 0, 0, 0, 0, 0, 0), (6, 1, 0, 0, 0, 0, 0, 0, 0, 0), (4, 1, 3, 0, 0, 0, 0, 0, 0, 0), (0, 1, 0, 0, 0, 0, 0, 0, 1, 0), (11, 1, 0, 0, 0, 0, 0, 0, 0, 0), (54, 1, 0, 0, 0, 0, 0, 0, 0, 0),
  (48, 3, 221, 184, 0, 1347, 2, 9, 0, 0), (6, 1, 2, 0, 0, 0, 0, 0, 0, 0), (6, 1, 0, 0, 0, 0, 0, 0, 0, 0), (4, 1, 3, 0, 0, 0, 0, 0, 0, 0), (0, 1, 0, 0, 0, 0, 0, 0, 1, 0), (11, 1, 0, 0, 0, 0, 0, 0, 0, 0),
  (54, 1, 0, 0, 0, 0, 0, 0, 0, 0), (48, 3, 224, 347, 0, 2133, 2, 10, 0, 0), (23, 3, 1941, 0, 0, 0, 0, 0, 0, 0), (0, 1, 0, 0, 0, 0, 0, 0, 0, 0), (27, 1, 0, 0, 1, 0, 0, 0, 0, 0)]
def q351_1882 : List XO := [(6, 1, 1, 0, 0, 0, 0, 0, 0, 0), (6, 1, 0, 0, 0, 0, 0, 0, 0, 0), (4, 1, 3, 0, 0, 0, 0, 0, 0, 0), (0, 1, 0, 0, 0, 0, 0, 0, 1, 0), (11, 1, 0, 0, 0, 0, 0, 0, 0, 0), (54, 1, 0, 0, 0, 0, 0, 0, 0, 0),
  (6, 1, 0, 0, 0, 0, 0, 0, 0, 0), (4, 1, 3, 0, 0, 0, 0, 0, 0, 0), (0, 1, 0, 0, 0, 0, 0, 0, 2, 0), (11, 1, 0, 0, 0, 0, 0, 0, 0, 0), (54, 1, 0, 0, 0, 0, 0, 0, 0, 0), (48, 3, 225, 185, 0, 1351, 3, 9, 0, 0),
  (6, 1, 2, 0, 0, 0, 0, 0, 0, 0), (6, 1, 0, 0, 0, 0, 0, 0, 0, 0), (4, 1, 3, 0, 0, 0, 0, 0, 0, 0), (0, 1, 0, 0, 0, 0, 0, 0, 1, 0), (11, 1, 0, 0, 0, 0, 0, 0, 0, 0), (54, 1, 0, 0, 0, 0, 0, 0, 0, 0),
  (6, 1, 0, 0, 0, 0, 0, 0, 0, 0), (4, 1, 3, 0, 0, 0, 0, 0, 0, 0), (0, 1, 0, 0, 0, 0, 0, 0, 2, 0), (11, 1, 0, 0, 0, 0, 0, 0, 0, 0), (54, 1, 0, 0, 0, 0, 0, 0, 0, 0), (48, 3, 228, 348, 0, 2137, 3, 10, 0, 0),
  (23, 3, 1941, 0, 0, 0, 0, 0, 0, 0), (0, 1, 0, 0, 0, 0, 0, 0, 0, 0), (27, 1, 0, 0, 1, 0, 0, 0, 0, 0)]
def q351_1915 : List XO := [(6, 1, 1, 0, 0, 0, 0, 0, 0, 0), (55, 3, 229, 187, 0, 1359, 1, 9, 0, 0), (6, 1, 2, 0, 0, 0, 0, 0, 0, 0), (48, 3, 232, 349, 0, 2141, 1, 10, 0, 0), (23, 3, 1941, 0, 0, 0, 0, 0, 0, 0), (0, 1, 0, 0, 0, 0, 0, 0, 0, 0),
  (27, 1, 0, 0, 1, 0, 0, 0, 0, 0)]
def q351_1928 : List XO := [(6, 1, 1, 0, 0, 0, 0, 0, 0, 0), (48, 3, 233, 188, 0, 1363, 1, 9, 0, 0), (6, 1, 2, 0, 0, 0, 0, 0, 0, 0), (48, 3, 236, 350, 0, 2145, 1, 10, 0, 0), (23, 3, 1941, 0, 0, 0, 0, 0, 0, 0), (0, 1, 0, 0, 0, 0, 0, 0, 0, 0),
  (27, 1, 0, 0, 1, 0, 0, 0, 0, 0)]
def q351_1941 : List XO := [(10, 3, 3, 0, 0, 0, 0, 0, 6, 0), (24, 3, 18, 0, 0, 0, 0, 0, 0, 0)]
def q351_1947 : List XO := [(0, 1, 0, 0, 0, 0, 0, 0, 1, 0), (27, 1, 0, 0, 1, 0, 0, 0, 0, 0)]
def xt351 : List (Nat × List XO) := [(0, q351_0), (18, q351_18), (256, q351_256), (269, q351_269), (283, q351_283), (297, q351_297), (340, q351_340), (413, q351_413),
  (447, q351_447), (510, q351_510), (573, q351_573), (596, q351_596), (619, q351_619), (642, q351_642), (665, q351_665), (698, q351_698),
  (721, q351_721), (754, q351_754), (777, q351_777), (800, q351_800), (833, q351_833), (856, q351_856), (874, q351_874), (875, q351_875),
  (896, q351_896), (897, q351_897), (905, q351_905), (938, q351_938), (961, q351_961), (994, q351_994), (1047, q351_1047), (1090, q351_1090),
  (1113, q351_1113), (1136, q351_1136), (1159, q351_1159), (1202, q351_1202), (1255, q351_1255), (1308, q351_1308), (1351, q351_1351), (1394, q351_1394),
  (1437, q351_1437), (1460, q351_1460), (1483, q351_1483), (1516, q351_1516), (1529, q351_1529), (1542, q351_1542), (1595, q351_1595), (1658, q351_1658),
  (1691, q351_1691), (1714, q351_1714), (1737, q351_1737), (1780, q351_1780), (1813, q351_1813), (1836, q351_1836), (1859, q351_1859), (1882, q351_1882),
  (1915, q351_1915), (1928, q351_1928), (1941, q351_1941), (1947, q351_1947)]
def xtl0 : List (List (Nat × List XO)) := [xt0, [], xt2, xt3, xt4, xt5, xt6, xt7, xt8, xt9, xt10, xt11,
  xt12, xt13, xt14, xt15, xt16, xt17, xt18, xt19, xt20, xt21, xt22, xt23,
  xt24, xt25, xt26, xt27, xt28, xt29, xt30, xt31, xt32, xt33, xt34, xt35,
  xt36, xt37, xt38, xt39, xt40, xt41, xt42, xt43, xt44, xt45, xt46, xt47,
  [], [], [], [], xt52, xt53, xt54, xt55, xt56, xt57, xt58, xt59]
def xtl1 : List (List (Nat × List XO)) := [xt60, xt61, xt62, xt63, xt64, xt65, xt66, xt67, xt68, xt69, xt70, xt71,
  xt72, xt73, xt74, xt75, xt76, xt77, xt78, xt79, xt80, xt81, xt82, xt83,
  xt84, xt85, xt86, xt87, xt88, xt89, xt90, xt91, xt92, xt93, xt94, xt95,
  xt96, xt97, xt98, xt99, xt100, xt101, xt102, xt103, xt104, xt105, xt106, xt107,
  xt108, xt109, xt110, xt111, xt112, xt113, xt114, xt115, xt116, xt117, xt118, xt119]
def xtl2 : List (List (Nat × List XO)) := [xt120, xt121, xt122, xt123, xt124, xt125, xt126, xt127, xt128, xt129, xt130, xt131,
  xt132, xt133, xt134, xt135, xt136, xt137, xt138, xt139, xt140, xt141, xt142, xt143,
  xt144, xt145, xt146, xt147, xt148, xt149, xt150, xt151, xt152, xt153, xt154, xt155,
  xt156, xt157, xt158, xt159, xt160, xt161, xt162, xt163, xt164, xt165, xt166, xt167,
  xt168, xt169, xt170, xt171, xt172, xt173, xt174, xt175, xt176, xt177, xt178, xt179]
def xtl3 : List (List (Nat × List XO)) := [xt180, xt181, xt182, xt183, xt184, xt185, xt186, xt187, xt188, xt189, xt190, xt191,
  xt192, xt193, xt194, xt195, xt196, xt197, xt198, xt199, xt200, xt201, xt202, xt203,
  xt204, xt205, xt206, xt207, xt208, xt209, xt210, xt211, xt212, xt213, xt214, xt215,
  xt216, xt217, xt218, xt219, xt220, xt221, xt222, xt223, xt224, xt225, xt226, xt227,
  xt228, xt229, xt230, xt231, xt232, xt233, xt234, xt235, xt236, xt237, xt238, xt239]
def xtl4 : List (List (Nat × List XO)) := [xt240, xt241, xt242, xt243, xt244, xt245, xt246, xt247, xt248, xt249, xt250, xt251,
  xt252, xt253, xt254, xt255, xt256, xt257, xt258, xt259, xt260, xt261, xt262, xt263,
  xt264, xt265, xt266, xt267, xt268, xt269, xt270, xt271, xt272, xt273, xt274, xt275,
  xt276, xt277, xt278, xt279, xt280, xt281, xt282, xt283, xt284, xt285, xt286, xt287,
  xt288, xt289, xt290, xt291, xt292, xt293, xt294, xt295, xt296, xt297, xt298, xt299]
def xtl5 : List (List (Nat × List XO)) := [xt300, xt301, xt302, xt303, xt304, xt305, xt306, xt307, xt308, xt309, xt310, xt311,
  xt312, xt313, xt314, xt315, xt316, xt317, xt318, xt319, xt320, xt321, xt322, xt323,
  xt324, xt325, xt326, xt327, xt328, xt329, xt330, xt331, xt332, xt333, xt334, xt335,
  xt336, xt337, xt338, xt339, xt340, xt341, xt342, xt343, xt344, xt345, xt346, xt347,
  xt348, xt349, xt350, xt351]
def xtl : List (List (Nat × List XO)) := xtl0 ++ (xtl1 ++ (xtl2 ++ (xtl3 ++ (xtl4 ++ (xtl5)))))
def xfind (pc : Nat) : List (Nat × List XO) → List XO
  | [] => []
  | e :: es => if e.1 = pc then e.2 else xfind pc es
def xblk (k pc : Nat) : List XO := xfind pc (xtl.getD k [])
end
section
/-! SOUNDNESS OF THE ABSTRACT MACHINE, a row an operation -/
def xadr (ws : va_W) (k : Nat) : Nat := match ws[k]? with
  | some q => q.1
  | none => 0
def xtr (ad : Nat → Nat) (sV : Nat → Value) : Value → Value
  | .ref k => .ref (ad k)
  | .retAddr i => sV i
  | v => v
def xmk : Value → Bool
  | .float _ => true
  | _ => false
def xfld (ad : Nat → Nat) (I : XI) (J : XJ) (r : XR) (t q k : Nat) : Value := match xkd t k with
  | 0 => .int (I q k)
  | 1 => .long (J q k)
  | _ => va_rf ((r q k).map ad)
def xobj (ad : Nat → Nat) (I : XI) (J : XJ) (r : XR) (t q : Nat) : List Value := (List.range (nfc t)).map (xfld ad I J r t q)
def xarr (ad : Nat → Nat) (I : XI) (J : XJ) (r : XR) (t n q : Nat) : vp_A := match t with
  | 100 => (n, .inl (I q))
  | 101 => (n, .inr (.inl (J q)))
  | 102 => (n, .inl (I q))
  | _ => (n, .inr (.inr (.inr (.inr (fun j => (r q j).map ad)))))
def xcell (ad : Nat → Nat) (I : XI) (J : XJ) (r : XR) (cA : ClassId) (t n q : Nat) : va_E := if t < 100 then .inr (t, xobj ad I J r t q) else .inl (cA, xarr ad I J r t n q)
def xok (S : XS) : Value → Prop
  | .ref k => k < S.length
  | _ => True
def XRel (a0 : Nat → Nat) (n0 : Nat) (tys : List (ClassId × FieldType)) (ws : va_W) (S : XS) (I : XI) (J : XJ) (r : XR) : Prop :=
  ws.length = S.length ∧
  (∀ q t n : Nat, S[q]? = some (t, n) → ∃ cA : ClassId, ws[q]? = some (xadr ws q, xcell (xadr ws) I J r cA t n q) ∧ (100 ≤ t → ∃ t0 : Nat, tys[t0]? = some (cA, xaty t))) ∧
  (∀ q k v : Nat, r q k = some v → v < S.length) ∧
  (∀ q n j : Nat, S[q]? = some (102, n) → (I q j).toInt8.toInt32 = I q j) ∧
  n0 ≤ S.length ∧ ∀ k, k < n0 → xadr ws k = a0 k
def xlens : List Nat := xstb.map List.length
def xbyts : List (List Int32) := xstb.map (fun l => l.map nI)
def XStr (A : Nat → Prop) (sV : Nat → Value) (U : State) (H : Heap) : Prop :=
  (∃ adK adV : Nat → Nat, vk_S 29 xlens xbyts adK adV A U H ∧ ∀ i, i < 29 → (∀ x, xstl[i]? = some x → vk_R x.1 x.2.1 x.2.2 (adK i) U) ∧ sV i = .ref (adK i) ∧ sV (1000 + i) = .ref (adV i)) ∧
  va_Z "java/lang/String" "COMPACT_STRINGS" "Z" (.int 1) A U H ∧ va_Z "jdk/internal/util/Preconditions" "SIOOBE_FORMATTER" "Ljava/util/function/BiFunction;" (sV 2000) A U H ∧ (∀ i, sV i = .null ∨ ∃ b, sV i = .ref b) ∧ va_AO "FreckleChart$Coast" U ∧ va_AOA .long U ∧ ∀ q ∈ xnl, va_Nw (.methodLinkNest q.1 q.2.1 q.2.2 "FreckleChart") U
def XScr (sc : Nat × (Nat → Int32)) (A : Nat → Prop) (sV : Nat → Value) (s : State) : Prop := ∃ b : Nat, sV 3000 = .ref b ∧ va_X b sc.1 sc.2 s s.heap ∧ b < s.heap.size ∧ ¬ A b
def XFx (p : Program) (s : State) (m : MethodId) (meth : Method) (c : Code) (args : Array Value) (Rm : Room) (cc : ByteArray) (own : String) (nL : Nat) (ini law : Bool) (sc : Nat × (Nat → Int32)) (mc ms : Nat) (A : Nat → Prop) (sV : Nat → Value) : Prop :=
  p.tables.exec = Jvm.exec ∧ c.code = cc ∧ c.maxLocals = nL ∧ s.vm.findClass own = some m.cls ∧ (∀ w ∈ xW, w.before args s = true) ∧ (ini = true → meth.name = "<init>") ∧ (∀ q : Nat, s.heap.size ≤ q → A q) ∧
  XStr A sV s s.heap ∧ (law = true → XScr sc A sV s) ∧ 1 ≤ Rm.frames ∧ 40 ≤ Rm.locals ∧ mc ≤ Rm.cells ∧ ms ≤ Rm.slots
def XLs (ad : Nat → Nat) (sV : Nat → Value) (nL : Nat) (ls : Array Slot) (L : XV) : Prop := ls.size = nL ∧ lv_wf ls ∧ ∀ (i : Nat) (v : Value), L[i]? = some v → xmk v = false → ls[i]? = some (.val (xtr ad sV v))
def XMem (dC : Nat → ClassId) (dI : Nat → Nat → Nat) (A : Nat → Prop) (s : State) (a0 : Nat → Nat) (n0 : Nat) (H : Heap) (locs : List Loc) (ws : va_W) (tys : List (ClassId × FieldType)) (S : XS) (I : XI) (J : XJ) (r : XR) : Prop :=
  va_K (dC, dI) xcl tys s ∧ va_P (dC, dI) xcl ws H ∧ va_D A ws ∧ va_S A s.heap H locs ∧ XRel a0 n0 tys ws S I J r
def XH (dC : Nat → ClassId) (dI : Nat → Nat → Nat) (A : Nat → Prop) (s : State) (a0 : Nat → Nat) (n0 : Nat) (sV : Nat → Value) (nL mc ms : Nat) (ls : Array Slot) (H : Heap) (locs : List Loc) (ws : va_W) (tys : List (ClassId × FieldType)) (L st : XV) (S : XS) (I : XI) (J : XJ) (r : XR) (cu su : Nat) : Prop :=
  XLs (xadr ws) sV nL ls L ∧ XMem dC dI A s a0 n0 H locs ws tys S I J r ∧ (∀ v ∈ L, xok S v) ∧ (∀ v ∈ st, xok S v) ∧ cu ≤ mc ∧ su ≤ ms
/-- the machine's predicate for a state of the abstract machine -/
def XW (p : Program) (l : Launch) (e : Env) (Rm : Room) (s : State) (m : MethodId) (args : Array Value) (below : List Frame) (meth : Method) (c : Code) (dC : Nat → ClassId) (dI : Nat → Nat → Nat) (A : Nat → Prop) (a0 : Nat → Nat) (n0 : Nat) (sV : Nat → Value) (nL mc ms : Nat) (Zf : State → Prop) : XN :=
  fun pc L st S I J r cu su => ∀ (ls : Array Slot) (H : Heap) (locs : List Loc) (ws : va_W) (tys : List (ClassId × FieldType)), XH dC dI A s a0 n0 sV nL mc ms ls H locs ws tys L st S I J r cu su →
    W p l e Rm s m args below meth c H locs cu su Zf (F0 m pc ls (st.map (xtr (xadr ws) sV)))
def xdec (b : ByteArray) (pc : Nat) (i : Instr) (len : Nat) : Bool := decide (decode b pc = .ok (i, len))
theorem xdec_ok {b : ByteArray} {pc len : Nat} {i : Instr} (h : xdec b pc i len = true) : decode b pc = .ok (i, len) := of_decide_eq_true h
/-! lemmas of the picture -/
theorem xadr_of {ws : va_W} {q : Nat} {x : Nat × va_E} (h : ws[q]? = some x) : xadr ws q = x.1 := by simp [xadr, h]
theorem xadr_set {ws : va_W} {q : Nat} {e : va_E} {x : Nat × va_E} (h : ws[q]? = some x) : xadr (ws.set q (xadr ws q, e)) = xadr ws := by
  have hq : q < ws.length := (List.getElem?_eq_some_iff.mp h).1
  funext k
  by_cases hk : k = q
  · subst hk
    simp [xadr, List.getElem?_set, hq]
  · simp [xadr, List.getElem?_set, Ne.symm hk]
theorem XRel.set {a0 : Nat → Nat} {n0 : Nat} {tys : List (ClassId × FieldType)} {ws : va_W} {S : XS} {I I' : XI} {J J' : XJ} {r r' : XR} (h : XRel a0 n0 tys ws S I J r) {q t n : Nat} (hq : S[q]? = some (t, n)) {cA : ClassId} (hc : ws[q]? = some (xadr ws q, xcell (xadr ws) I J r cA t n q)) (hty : 100 ≤ t → ∃ t0 : Nat, tys[t0]? = some (cA, xaty t))
    (hI : ∀ p, p ≠ q → I' p = I p) (hJ : ∀ p, p ≠ q → J' p = J p) (hr : ∀ p, p ≠ q → r' p = r p) (hv : ∀ k v : Nat, r' q k = some v → v < S.length) (hb : t = 102 → ∀ j, (I' q j).toInt8.toInt32 = I' q j) :
    XRel a0 n0 tys (ws.set q (xadr ws q, xcell (xadr ws) I' J' r' cA t n q)) S I' J' r' := by
  obtain ⟨h1, h2, h3, h4, h5, h6⟩ := h
  have hqs : q < ws.length := (List.getElem?_eq_some_iff.mp hc).1
  have had := xadr_set (e := xcell (xadr ws) I' J' r' cA t n q) hc
  refine ⟨by simp [h1], fun p t' n' hp => ?_, fun p k v hp => ?_, fun p n' j hp => ?_, h5, fun k hk => by rw [had]; exact h6 k hk⟩
  · rw [had]
    by_cases e : p = q
    · subst e
      rw [hq] at hp
      cases hp
      exact ⟨cA, by simp [List.getElem?_set, hqs], hty⟩
    · obtain ⟨c', g1, g2⟩ := h2 p t' n' hp
      refine ⟨c', ?_, g2⟩
      rw [List.getElem?_set, if_neg (Ne.symm e), g1]
      have e1 : xcell (xadr ws) I J r c' t' n' p = xcell (xadr ws) I' J' r' c' t' n' p := by
        unfold xcell
        split
        · congr 2
          unfold xobj
          congr 1
          funext k
          unfold xfld
          rw [hI p e, hJ p e, hr p e]
        · congr 2
          unfold xarr
          split <;> simp only [hI p e, hJ p e, hr p e]
      rw [e1]
  · by_cases e : p = q
    · subst e; exact hv k v hp
    · rw [hr p e] at hp; exact h3 p k v hp
  · by_cases e : p = q
    · subst e
      rw [hq] at hp
      cases hp
      exact hb rfl j
    · rw [hI p e]; exact h4 p n' j hp
/-- the cell at a place -/
theorem XRel.at {a0 : Nat → Nat} {n0 : Nat} {tys : List (ClassId × FieldType)} {ws : va_W} {S : XS} {I : XI} {J : XJ} {r : XR} (h : XRel a0 n0 tys ws S I J r) {q t n : Nat} (hq : S[q]? = some (t, n)) : ∃ cA : ClassId, ws[q]? = some (xadr ws q, xcell (xadr ws) I J r cA t n q) ∧ (100 ≤ t → ∃ t0 : Nat, tys[t0]? = some (cA, xaty t)) := h.2.1 q t n hq
theorem up2_same {α : Type} {f : Nat → Nat → α} {a i : Nat} {v : α} : up2 f a i v a = fun j => if j = i then v else f a j := by funext j; simp [up2]
theorem up2_ne {α : Type} {f : Nat → Nat → α} {a i p : Nat} {v : α} (h : p ≠ a) : up2 f a i v p = f p := by funext j; simp [up2, h]
theorem upd_up2 {f : XI} {a i : Nat} {v : Int32} : upd (f a) i v = up2 f a i v a := by rw [up2_same]; funext j; simp [upd]
theorem updL_up2 {f : XJ} {a i : Nat} {v : Int64} : vp_updL (f a) i v = up2 f a i v a := by rw [up2_same]; funext j; simp [vp_updL]
theorem xok_mono {S S' : XS} (h : S.length ≤ S'.length) {v : Value} (hv : xok S v) : xok S' v := by
  cases v <;> first | trivial | exact Nat.lt_of_lt_of_le hv h
theorem xtr_int {ad : Nat → Nat} {sV : Nat → Value} {x : Int32} : xtr ad sV (.int x) = .int x := rfl
theorem xtr_rf {ad : Nat → Nat} {sV : Nat → Value} {o : Option Nat} : xtr ad sV (va_rf o) = va_rf (o.map ad) := by cases o <;> rfl
theorem xtr_cat {ad : Nat → Nat} {sV : Nat → Value} (hs : ∀ i, (sV i).category = 1) (v : Value) : (xtr ad sV v).category = v.category := by
  cases v <;> first | rfl | (show (sV _).category = _; rw [hs]; rfl)
theorem xsz_sum {ad : Nat → Nat} {sV : Nat → Value} (hs : ∀ i, (sV i).category = 1) (st : XV) : ((st.map (xtr ad sV)).map fun v => v.category).sum = xsz st := by
  induction st with
  | nil => rfl
  | cons v vs ih =>
    simp only [List.map_cons, List.sum_cons, xsz, xtr_cat hs]
    rw [ih]
/-! the locals -/
def xlv (ad : Nat → Nat) (sV : Nat → Value) : Nat → XV → List (Nat × Value)
  | _, [] => []
  | i, v :: L => if xmk v then xlv ad sV (i + 1) L else (i, xtr ad sV v) :: xlv ad sV (i + 1) L
theorem xlv_mem {ad : Nat → Nat} {sV : Nat → Value} : ∀ (L : XV) (i : Nat) (q : Nat × Value), q ∈ xlv ad sV i L ↔ ∃ (j : Nat) (v : Value), L[j]? = some v ∧ xmk v = false ∧ q = (i + j, xtr ad sV v)
  | [], i, q => by simp [xlv]
  | v :: L, i, q => by
    have ih := xlv_mem (ad := ad) (sV := sV) L (i + 1) q
    have go : (∃ (j : Nat) (u : Value), L[j]? = some u ∧ xmk u = false ∧ q = (i + 1 + j, xtr ad sV u)) → ∃ (j : Nat) (u : Value), (v :: L)[j]? = some u ∧ xmk u = false ∧ q = (i + j, xtr ad sV u) := by
      rintro ⟨j, u, a, b, c⟩
      exact ⟨j + 1, u, by simpa using a, b, by rw [c]; congr 1; omega⟩
    have back : ∀ (j : Nat) (u : Value), (v :: L)[j + 1]? = some u → xmk u = false → q = (i + (j + 1), xtr ad sV u) → ∃ (j : Nat) (u : Value), L[j]? = some u ∧ xmk u = false ∧ q = (i + 1 + j, xtr ad sV u) := by
      intro j u a b c
      exact ⟨j, u, by simpa using a, b, by rw [c]; congr 1; omega⟩
    by_cases hm : xmk v = true
    · rw [xlv, if_pos hm, ih]
      constructor
      · exact go
      · rintro ⟨j, u, a, b, c⟩
        cases j with
        | zero => simp at a; subst a; rw [hm] at b; cases b
        | succ j => exact back j u a b c
    · rw [xlv, if_neg hm, List.mem_cons, ih]
      constructor
      · rintro (h | h)
        · exact ⟨0, v, rfl, by simpa using hm, h⟩
        · exact go h
      · rintro ⟨j, u, a, b, c⟩
        cases j with
        | zero => simp at a; subst a; exact Or.inl c
        | succ j => exact Or.inr (back j u a b c)
theorem XLs.has {ad : Nat → Nat} {sV : Nat → Value} {nL : Nat} {ls : Array Slot} {L : XV} (h : XLs ad sV nL ls L) : lv_has ls nL (xlv ad sV 0 L) := by
  refine ⟨h.1, h.2.1, fun q hq => ?_⟩
  obtain ⟨j, v, a, b, c⟩ := (xlv_mem L 0 q).mp hq
  rw [c, Nat.zero_add]
  exact h.2.2 j v a b
theorem lget_at {L : XV} {i : Nat} {v : Value} (h : lget L i = v) (hm : xmk v = false) : L[i]? = some v := by
  unfold lget at h
  rw [List.getD_eq_getElem?_getD] at h
  cases hx : L[i]? with
  | none => rw [hx] at h; simp at h; subst h; cases hm
  | some u => rw [hx] at h; simp at h; rw [h]
theorem lget_of {L : XV} {i : Nat} {v : Value} (h : L[i]? = some v) : lget L i = v := by simp [lget, List.getD_eq_getElem?_getD, h]
theorem lset1_get {L : XV} {i j : Nat} {v u : Value} (h : (lset1 L i v)[j]? = some u) : (j = i ∧ u = v) ∨ (j ≠ i ∧ (u = .float 0 ∨ (L[j]? = some u ∧ (j + 1 = i → isL2 u = false)))) := by
  unfold lset1 at h
  by_cases e : j = i
  · subst e
    left
    rw [List.getElem?_set] at h
    simp at h
    exact ⟨rfl, h.2.symm⟩
  · right
    refine ⟨e, ?_⟩
    rw [List.getElem?_set, if_neg (Ne.symm e)] at h
    by_cases i0 : i = 0
    · rw [if_pos i0] at h
      exact Or.inr ⟨h, fun q => by omega⟩
    · rw [if_neg i0] at h
      by_cases hl : isL2 (lget L (i - 1)) = true
      · rw [if_pos hl, List.getElem?_set] at h
        by_cases e2 : i - 1 = j
        · rw [if_pos e2] at h
          split at h
          · left; simpa using h.symm
          · cases h
        · rw [if_neg e2] at h
          exact Or.inr ⟨h, fun q => by omega⟩
      · rw [if_neg hl] at h
        refine Or.inr ⟨h, fun q => ?_⟩
        have : i - 1 = j := by omega
        rw [this, lget_of h] at hl
        simpa using hl
theorem lset1_mem {L : XV} {i : Nat} {v u : Value} (h : u ∈ lset1 L i v) : u = v ∨ u = .float 0 ∨ u ∈ L := by
  obtain ⟨j, hj⟩ := List.getElem?_of_mem h
  rcases lset1_get hj with ⟨-, e⟩ | ⟨-, e | ⟨e, -⟩⟩
  · exact Or.inl e
  · exact Or.inr (Or.inl e)
  · exact Or.inr (Or.inr (List.mem_of_getElem? e))
theorem XLs.set1 {ad : Nat → Nat} {sV : Nat → Value} {nL : Nat} {ls' : Array Slot} {L : XV} {i : Nat} {v : Value} (h' : lv_has ls' nL ((i, xtr ad sV v) :: (xlv ad sV 0 L).filter (fun q => !(q.1 == i) && !(q.1 + 1 == i && q.2.category == 2)))) (hs : ∀ i, (sV i).category = 1) : XLs ad sV nL ls' (lset1 L i v) := by
  refine ⟨h'.1, h'.2.1, fun j u hj hm => ?_⟩
  rcases lset1_get hj with ⟨e1, e2⟩ | ⟨e1, e2 | ⟨e2, e3⟩⟩
  · subst e1; subst e2
    exact h'.2.2 (j, xtr ad sV u) List.mem_cons_self
  · subst e2; cases hm
  · refine h'.2.2 (j, xtr ad sV u) (List.mem_cons_of_mem _ (List.mem_filter.mpr ⟨(xlv_mem L 0 _).mpr ⟨j, u, e2, hm, by simp⟩, ?_⟩))
    simp only [Bool.and_eq_true, Bool.not_eq_true', beq_eq_false_iff_ne, ne_eq, Bool.and_eq_false_iff]
    refine ⟨e1, ?_⟩
    by_cases q : j + 1 = i
    · right
      have h3 := e3 q
      rw [xtr_cat hs]
      cases u <;> first | (show ¬ (1 = 2); omega) | (simp [isL2] at h3)
    · left; exact q
section XOps
variable {p : Program} {l : Launch} {e : Env} {Rm : Room} {s : State} {m : MethodId} {args : Array Value} {below : List Frame} {meth : Method} {c : Code} {dC : Nat → ClassId} {dI : Nat → Nat → Nat} {A : Nat → Prop} {a0 : Nat → Nat} {n0 : Nat} {sV : Nat → Value} {nL mc ms : Nat} {Zf : State → Prop} {cc : ByteArray} {own : String} {ini law : Bool} {sc : Nat × (Nat → Int32)} {K : XK} {pc pc' : Nat} {L st : XV} {S : XS} {I : XI} {J : XJ} {r : XR} {cu su : Nat}
/-- one more on the stack, by a row that needs no more -/
theorem XH.push {ls : Array Slot} {H : Heap} {locs : List Loc} {ws : va_W} {tys : List (ClassId × FieldType)} {st' : XV} (h : XH dC dI A s a0 n0 sV nL mc ms ls H locs ws tys L st S I J r cu su) (hs : ∀ v ∈ st', xok S v) : XH dC dI A s a0 n0 sV nL mc ms ls H locs ws tys L st' S I J r cu su :=
  ⟨h.1, h.2.1, h.2.2.1, hs, h.2.2.2.2⟩
theorem ok_cons {v : Value} (hv : xok S v) (h : ∀ v ∈ st, xok S v) : ∀ u ∈ v :: st, xok S u := fun u hu => by
  rcases List.mem_cons.mp hu with rfl | hu
  · exact hv
  · exact h u hu
theorem ok_tl {v : Value} (h : ∀ u ∈ v :: st, xok S u) : ∀ u ∈ st, xok S u := fun u hu => h u (List.mem_cons_of_mem _ hu)
theorem ok_hd {v : Value} (h : ∀ u ∈ v :: st, xok S u) : xok S v := h v List.mem_cons_self
theorem XFx.cat (F : XFx p s m meth c args Rm cc own nL ini law sc mc ms A sV) : ∀ i, (sV i).category = 1 := fun i => by
  rcases F.2.2.2.2.2.2.2.1.2.2.2.1 i with h | ⟨b, h⟩ <;> rw [h] <;> rfl
/-- a store of one slot -/
theorem XH.st1 {ls ls' : Array Slot} {H : Heap} {locs : List Loc} {ws : va_W} {tys : List (ClassId × FieldType)} {i : Nat} {v : Value} (h : XH dC dI A s a0 n0 sV nL mc ms ls H locs ws tys L st S I J r cu su) (h' : lv_has ls' nL ((i, xtr (xadr ws) sV v) :: (xlv (xadr ws) sV 0 L).filter (fun q => !(q.1 == i) && !(q.1 + 1 == i && q.2.category == 2)))) (hs : ∀ i, (sV i).category = 1) (hv : xok S v) {st' : XV} (hst : ∀ v ∈ st', xok S v) :
    XH dC dI A s a0 n0 sV nL mc ms ls' H locs ws tys (lset1 L i v) st' S I J r cu su :=
  ⟨XLs.set1 h' hs, h.2.1, fun u hu => by
    rcases lset1_mem hu with rfl | rfl | hu
    · exact hv
    · trivial
    · exact h.2.2.1 u hu, hst, h.2.2.2.2⟩
theorem xs_iconst (F : XFx p s m meth c args Rm cc own nL ini law sc mc ms A sV) {d a : Nat} {z : Int32} (hd : (d = 0 ∧ pc' = pc + 1 ∧ decode cc pc = .ok (.iconst z.toInt, 1)) ∨ (d = 1 ∧ pc' = pc + 2 ∧ decode cc pc = .ok (.bipush z.toInt, 2) ∧ (Int8.ofInt z.toInt).toInt32 = z) ∨ (d = 2 ∧ pc' = pc + 3 ∧ decode cc pc = .ok (.sipush z.toInt, 3) ∧ (Int16.ofInt z.toInt).toInt32 = z) ∨ (d = 3 ∧ pc' = pc + 2 ∧ decode cc pc = .ok (.ldc a, 2) ∧ Cond.constant own a z ∈ xW) ∨ (d = 4 ∧ pc' = pc + 3 ∧ decode cc pc = .ok (.ldc_w a, 3) ∧ Cond.constant own a z ∈ xW))
    (k : XW p l e Rm s m args below meth c dC dI A a0 n0 sV nL mc ms Zf pc' L (.int z :: st) S I J r cu su) : XW p l e Rm s m args below meth c dC dI A a0 n0 sV nL mc ms Zf pc L st S I J r cu su := by
  intro ls H locs ws tys h
  have k1 := k ls H locs ws tys (h.push (ok_cons trivial h.2.2.2.1))
  obtain ⟨hx, hb, -, hown, hts, -⟩ := F
  rcases hd with ⟨-, rfl, h1⟩ | ⟨-, rfl, h1, h2⟩ | ⟨-, rfl, h1, h2⟩ | ⟨-, rfl, h1, h2⟩ | ⟨-, rfl, h1, h2⟩
  · exact lv_iconst hx hb h1 (Int32.ofInt_toInt z) k1
  · exact lv_bipush hx hb h1 h2 k1
  · exact lv_sipush hx hb h1 h2 k1
  · exact lv_ldc hx hb hown (hts _ h2) h1 k1
  · exact lv_ldcw hx hb hown (hts _ h2) h1 k1
theorem xs_lconst (F : XFx p s m meth c args Rm cc own nL ini law sc mc ms A sV) {a : Nat} {w : Int64} (hd : (pc' = pc + 1 ∧ ((w = 0 ∧ decode cc pc = .ok (.lconst 0, 1)) ∨ (w = 1 ∧ decode cc pc = .ok (.lconst 1, 1)))) ∨ (pc' = pc + 3 ∧ decode cc pc = .ok (.ldc2_w a, 3) ∧ Cond.constantLong own a w ∈ xW))
    (k : XW p l e Rm s m args below meth c dC dI A a0 n0 sV nL mc ms Zf pc' L (.long w :: st) S I J r cu su) : XW p l e Rm s m args below meth c dC dI A a0 n0 sV nL mc ms Zf pc L st S I J r cu su := by
  intro ls H locs ws tys h
  have k1 := k ls H locs ws tys (h.push (ok_cons trivial h.2.2.2.1))
  obtain ⟨hx, hb, -, hown, hts, -⟩ := F
  rcases hd with ⟨rfl, ⟨rfl, h1⟩ | ⟨rfl, h1⟩⟩ | ⟨rfl, h1, h2⟩
  · exact lv_lconst hx hb h1 (by decide) k1
  · exact lv_lconst hx hb h1 (by decide) k1
  · exact lv_ldc2 hx hb hown (hts _ h2) h1 k1
theorem xs_ldcS (F : XFx p s m meth c args Rm cc own nL ini law sc mc ms A sV) {a b : Nat} {tx : String} (hb29 : b < 29) (hx9 : xstl[b]? = some (own, a, tx)) (hd : decode cc pc = .ok (.ldc a, 2))
    (k : XW p l e Rm s m args below meth c dC dI A a0 n0 sV nL mc ms Zf (pc + 2) L (.retAddr b :: st) S I J r cu su) : XW p l e Rm s m args below meth c dC dI A a0 n0 sV nL mc ms Zf pc L st S I J r cu su := by
  intro ls H locs ws tys h
  have k1 := k ls H locs ws tys (h.push (ok_cons trivial h.2.2.2.1))
  obtain ⟨hx, hb, -, hown, hts, -, -, ⟨⟨adK, adV, -, h9⟩, -⟩, -⟩ := F
  obtain ⟨g1, g2, -⟩ := h9 b hb29
  refine va_ldcS hx hb hown (g1 _ hx9) hd ?_
  have e1 : xtr (xadr ws) sV (.retAddr b) = .ref (adK b) := g2
  rw [List.map_cons, e1] at k1
  exact k1
theorem xs_null (F : XFx p s m meth c args Rm cc own nL ini law sc mc ms A sV) (hd : decode cc pc = .ok (.aconst_null, 1))
    (k : XW p l e Rm s m args below meth c dC dI A a0 n0 sV nL mc ms Zf (pc + 1) L (.null :: st) S I J r cu su) : XW p l e Rm s m args below meth c dC dI A a0 n0 sV nL mc ms Zf pc L st S I J r cu su := by
  intro ls H locs ws tys h
  exact lv_null F.1 F.2.1 hd (k ls H locs ws tys (h.push (ok_cons trivial h.2.2.2.1)))
theorem xs_iload (F : XFx p s m meth c args Rm cc own nL ini law sc mc ms A sV) {a : Nat} {x : Int32} (hg : lget L a = .int x) (hd : (pc' = pc + 1 ∧ ∃ k : Fin 4, (k : Nat) = a ∧ decode cc pc = .ok (.iload_n k, 1)) ∨ (pc' = pc + 2 ∧ decode cc pc = .ok (.iload a, 2)))
    (k : XW p l e Rm s m args below meth c dC dI A a0 n0 sV nL mc ms Zf pc' L (.int x :: st) S I J r cu su) : XW p l e Rm s m args below meth c dC dI A a0 n0 sV nL mc ms Zf pc L st S I J r cu su := by
  intro ls H locs ws tys h
  have k1 := k ls H locs ws tys (h.push (ok_cons trivial h.2.2.2.1))
  have hl := h.1.2.2 a _ (lget_at hg rfl) rfl
  rcases hd with ⟨rfl, f, h0, h1⟩ | ⟨rfl, h1⟩
  · exact lv_iload_n F.1 F.2.1 h1 h0 hl k1
  · exact lv_iload F.1 F.2.1 h1 hl k1
theorem xs_lload (F : XFx p s m meth c args Rm cc own nL ini law sc mc ms A sV) {a : Nat} {x : Int64} (hg : lget L a = .long x) (hd : (pc' = pc + 1 ∧ ∃ k : Fin 4, (k : Nat) = a ∧ decode cc pc = .ok (.lload_n k, 1)) ∨ (pc' = pc + 2 ∧ decode cc pc = .ok (.lload a, 2)))
    (k : XW p l e Rm s m args below meth c dC dI A a0 n0 sV nL mc ms Zf pc' L (.long x :: st) S I J r cu su) : XW p l e Rm s m args below meth c dC dI A a0 n0 sV nL mc ms Zf pc L st S I J r cu su := by
  intro ls H locs ws tys h
  have k1 := k ls H locs ws tys (h.push (ok_cons trivial h.2.2.2.1))
  have hl := h.1.2.2 a _ (lget_at hg rfl) rfl
  rcases hd with ⟨rfl, f, h0, h1⟩ | ⟨rfl, h1⟩
  · exact lv_lload_n F.1 F.2.1 h1 h0 hl k1
  · exact lv_lload F.1 F.2.1 h1 hl k1
theorem lget_mem {i : Nat} {v : Value} (h : lget L i = v) (hm : xmk v = false) : v ∈ L := List.mem_of_getElem? (lget_at h hm)
theorem xs_aload (F : XFx p s m meth c args Rm cc own nL ini law sc mc ms A sV) {a x : Nat} (hg : lget L a = .ref x) (hd : (pc' = pc + 1 ∧ ∃ k : Fin 4, (k : Nat) = a ∧ decode cc pc = .ok (.aload_n k, 1)) ∨ (pc' = pc + 2 ∧ decode cc pc = .ok (.aload a, 2)))
    (k : XW p l e Rm s m args below meth c dC dI A a0 n0 sV nL mc ms Zf pc' L (.ref x :: st) S I J r cu su) : XW p l e Rm s m args below meth c dC dI A a0 n0 sV nL mc ms Zf pc L st S I J r cu su := by
  intro ls H locs ws tys h
  have k1 := k ls H locs ws tys (h.push (ok_cons (h.2.2.1 _ (lget_mem hg rfl)) h.2.2.2.1))
  have hl := h.1.2.2 a _ (lget_at hg rfl) rfl
  rcases hd with ⟨rfl, f, h0, h1⟩ | ⟨rfl, h1⟩
  · exact lv_aload_n F.1 F.2.1 h1 h0 hl k1
  · exact lv_aload F.1 F.2.1 h1 hl k1
theorem xs_aloadR (F : XFx p s m meth c args Rm cc own nL ini law sc mc ms A sV) {a x : Nat} (hg : lget L a = .retAddr x) (hr0 : sV x = .null ∨ ∃ b, sV x = .ref b) (hd : (pc' = pc + 1 ∧ ∃ k : Fin 4, (k : Nat) = a ∧ decode cc pc = .ok (.aload_n k, 1)) ∨ (pc' = pc + 2 ∧ decode cc pc = .ok (.aload a, 2)))
    (k : XW p l e Rm s m args below meth c dC dI A a0 n0 sV nL mc ms Zf pc' L (.retAddr x :: st) S I J r cu su) : XW p l e Rm s m args below meth c dC dI A a0 n0 sV nL mc ms Zf pc L st S I J r cu su := by
  intro ls H locs ws tys h
  have k1 := k ls H locs ws tys (h.push (ok_cons trivial h.2.2.2.1))
  have hl := h.1.2.2 a _ (lget_at hg rfl) rfl
  have e1 : xtr (xadr ws) sV (.retAddr x) = sV x := rfl
  rw [List.map_cons, e1] at k1
  rw [e1] at hl
  rcases hr0 with e2 | ⟨b, e2⟩
  · rw [e2] at k1 hl
    rcases hd with ⟨rfl, f, h0, h1⟩ | ⟨rfl, h1⟩
    · exact lv_aload_nN F.1 F.2.1 h1 h0 hl k1
    · exact lv_aloadN F.1 F.2.1 h1 hl k1
  · rw [e2] at k1 hl
    rcases hd with ⟨rfl, f, h0, h1⟩ | ⟨rfl, h1⟩
    · exact lv_aload_n F.1 F.2.1 h1 h0 hl k1
    · exact lv_aload F.1 F.2.1 h1 hl k1
theorem xs_istore (F : XFx p s m meth c args Rm cc own nL ini law sc mc ms A sV) {a : Nat} {x : Int32} (ha : a < nL) (hd : (pc' = pc + 1 ∧ ∃ k : Fin 4, (k : Nat) = a ∧ decode cc pc = .ok (.istore_n k, 1)) ∨ (pc' = pc + 2 ∧ decode cc pc = .ok (.istore a, 2)))
    (k : XW p l e Rm s m args below meth c dC dI A a0 n0 sV nL mc ms Zf pc' (lset1 L a (.int x)) st S I J r cu su) : XW p l e Rm s m args below meth c dC dI A a0 n0 sV nL mc ms Zf pc L (.int x :: st) S I J r cu su := by
  intro ls H locs ws tys h
  have go : ∀ ls', lv_has ls' nL ((a, Value.int x) :: (xlv (xadr ws) sV 0 L).filter (fun q => !(q.1 == a) && !(q.1 + 1 == a && q.2.category == 2))) → W p l e Rm s m args below meth c H locs cu su Zf (F0 m pc' ls' (st.map (xtr (xadr ws) sV))) :=
    fun ls' h' => k ls' H locs ws tys (XH.st1 (v := .int x) h h' F.cat trivial (ok_tl h.2.2.2.1))
  rcases hd with ⟨rfl, f, h0, h1⟩ | ⟨rfl, h1⟩
  · exact lv_istore_n F.1 F.2.1 h1 h0 h.1.has ha rfl go
  · exact lv_istore F.1 F.2.1 h1 h.1.has ha rfl go
theorem xs_astore (F : XFx p s m meth c args Rm cc own nL ini law sc mc ms A sV) {a x : Nat} (ha : a < nL) (hd : (pc' = pc + 1 ∧ ∃ k : Fin 4, (k : Nat) = a ∧ decode cc pc = .ok (.astore_n k, 1)) ∨ (pc' = pc + 2 ∧ decode cc pc = .ok (.astore a, 2)))
    (k : XW p l e Rm s m args below meth c dC dI A a0 n0 sV nL mc ms Zf pc' (lset1 L a (.ref x)) st S I J r cu su) : XW p l e Rm s m args below meth c dC dI A a0 n0 sV nL mc ms Zf pc L (.ref x :: st) S I J r cu su := by
  intro ls H locs ws tys h
  have go : ∀ ls', lv_has ls' nL ((a, Value.ref (xadr ws x)) :: (xlv (xadr ws) sV 0 L).filter (fun q => !(q.1 == a) && !(q.1 + 1 == a && q.2.category == 2))) → W p l e Rm s m args below meth c H locs cu su Zf (F0 m pc' ls' (st.map (xtr (xadr ws) sV))) :=
    fun ls' h' => k ls' H locs ws tys (XH.st1 (v := .ref x) h h' F.cat (ok_hd h.2.2.2.1) (ok_tl h.2.2.2.1))
  rcases hd with ⟨rfl, f, h0, h1⟩ | ⟨rfl, h1⟩
  · exact lv_astore_n F.1 F.2.1 h1 h0 h.1.has ha rfl go
  · exact lv_astore F.1 F.2.1 h1 h.1.has ha rfl go
theorem xs_astoreN (F : XFx p s m meth c args Rm cc own nL ini law sc mc ms A sV) {a : Nat} (ha : a < nL) (hd : (pc' = pc + 1 ∧ ∃ k : Fin 4, (k : Nat) = a ∧ decode cc pc = .ok (.astore_n k, 1)) ∨ (pc' = pc + 2 ∧ decode cc pc = .ok (.astore a, 2)))
    (k : XW p l e Rm s m args below meth c dC dI A a0 n0 sV nL mc ms Zf pc' (lset1 L a .null) st S I J r cu su) : XW p l e Rm s m args below meth c dC dI A a0 n0 sV nL mc ms Zf pc L (.null :: st) S I J r cu su := by
  intro ls H locs ws tys h
  have go : ∀ ls', lv_has ls' nL ((a, Value.null) :: (xlv (xadr ws) sV 0 L).filter (fun q => !(q.1 == a) && !(q.1 + 1 == a && q.2.category == 2))) → W p l e Rm s m args below meth c H locs cu su Zf (F0 m pc' ls' (st.map (xtr (xadr ws) sV))) :=
    fun ls' h' => k ls' H locs ws tys (XH.st1 (v := .null) h h' F.cat trivial (ok_tl h.2.2.2.1))
  rcases hd with ⟨rfl, f, h0, h1⟩ | ⟨rfl, h1⟩
  · exact lv_astore_nN F.1 F.2.1 h1 h0 h.1.has ha rfl go
  · exact lv_astoreN F.1 F.2.1 h1 h.1.has ha rfl go
theorem XLs.set2 {ad : Nat → Nat} {ls' : Array Slot} {i : Nat} {v : Value} (h' : lv_has ls' nL ((i, xtr ad sV v) :: (xlv ad sV 0 L).filter (fun q => !(q.1 == i) && (!(q.1 == i + 1) && !(q.1 + 1 == i && q.2.category == 2))))) (hs : ∀ i, (sV i).category = 1) : XLs ad sV nL ls' (lset2 L i v) := by
  refine ⟨h'.1, h'.2.1, fun j u hj hm => ?_⟩
  unfold lset2 at hj
  rw [List.getElem?_set] at hj
  by_cases q1 : i + 1 = j
  · rw [if_pos q1] at hj
    split at hj
    · cases hj; cases hm
    · cases hj
  · rw [if_neg q1] at hj
    rcases lset1_get hj with ⟨e1, e2⟩ | ⟨e1, e2 | ⟨e2, e3⟩⟩
    · subst e1; subst e2
      exact h'.2.2 (j, xtr ad sV u) List.mem_cons_self
    · subst e2; cases hm
    · refine h'.2.2 (j, xtr ad sV u) (List.mem_cons_of_mem _ (List.mem_filter.mpr ⟨(xlv_mem L 0 _).mpr ⟨j, u, e2, hm, by simp⟩, ?_⟩))
      simp only [Bool.and_eq_true, Bool.not_eq_true', beq_eq_false_iff_ne, ne_eq, Bool.and_eq_false_iff]
      refine ⟨e1, fun q => q1 q.symm, ?_⟩
      by_cases q : j + 1 = i
      · right
        have h3 := e3 q
        rw [xtr_cat hs]
        cases u <;> first | (show ¬ (1 = 2); omega) | (simp [isL2] at h3)
      · left; exact q
theorem xs_lstore (F : XFx p s m meth c args Rm cc own nL ini law sc mc ms A sV) {a : Nat} {x : Int64} (ha : a + 1 < nL) (hd : (pc' = pc + 1 ∧ ∃ k : Fin 4, (k : Nat) = a ∧ decode cc pc = .ok (.lstore_n k, 1)) ∨ (pc' = pc + 2 ∧ decode cc pc = .ok (.lstore a, 2)))
    (k : XW p l e Rm s m args below meth c dC dI A a0 n0 sV nL mc ms Zf pc' (lset2 L a (.long x)) st S I J r cu su) : XW p l e Rm s m args below meth c dC dI A a0 n0 sV nL mc ms Zf pc L (.long x :: st) S I J r cu su := by
  intro ls H locs ws tys h
  have go : ∀ ls', lv_has ls' nL ((a, Value.long x) :: (xlv (xadr ws) sV 0 L).filter (fun q => !(q.1 == a) && (!(q.1 == a + 1) && !(q.1 + 1 == a && q.2.category == 2)))) → W p l e Rm s m args below meth c H locs cu su Zf (F0 m pc' ls' (st.map (xtr (xadr ws) sV))) := by
    intro ls' h'
    refine k ls' H locs ws tys ⟨XLs.set2 (v := .long x) h' F.cat, h.2.1, fun u hu => ?_, ok_tl h.2.2.2.1, h.2.2.2.2⟩
    rcases List.mem_or_eq_of_mem_set hu with hu | rfl
    · rcases lset1_mem hu with rfl | rfl | hu
      · trivial
      · trivial
      · exact h.2.2.1 u hu
    · trivial
  rcases hd with ⟨rfl, f, h0, h1⟩ | ⟨rfl, h1⟩
  · exact lv_lstore_n F.1 F.2.1 h1 h0 h.1.has ha rfl go
  · exact lv_lstore F.1 F.2.1 h1 h.1.has ha rfl go
theorem xs_iinc (F : XFx p s m meth c args Rm cc own nL ini law sc mc ms A sV) {a : Nat} {x z : Int32} (hg : lget L a = .int x) (ha : a < nL) (hd : decode cc pc = .ok (.iinc a z.toInt, 3))
    (k : XW p l e Rm s m args below meth c dC dI A a0 n0 sV nL mc ms Zf (pc + 3) (lset1 L a (.int (x + z))) st S I J r cu su) : XW p l e Rm s m args below meth c dC dI A a0 n0 sV nL mc ms Zf pc L st S I J r cu su := by
  intro ls H locs ws tys h
  have hm : (a, Value.int x) ∈ xlv (xadr ws) sV 0 L := (xlv_mem L 0 _).mpr ⟨a, .int x, lget_at hg rfl, rfl, by simp [xtr]⟩
  obtain ⟨j, hj⟩ := List.getElem?_of_mem hm
  exact lv_iinc (k := j) F.1 F.2.1 hd h.1.has hj (by rw [Int32.ofInt_toInt]) ha rfl (fun ls' h' => k ls' H locs ws tys (XH.st1 (v := .int (x + z)) h h' F.cat trivial h.2.2.2.1))
theorem xs_iadd (F : XFx p s m meth c args Rm cc own nL ini law sc mc ms A sV) {x y : Int32} (hd : decode cc pc = .ok (.iadd, 1)) (k : XW p l e Rm s m args below meth c dC dI A a0 n0 sV nL mc ms Zf (pc + 1) L (.int (ibin 0 x y) :: st) S I J r cu su) : XW p l e Rm s m args below meth c dC dI A a0 n0 sV nL mc ms Zf pc L (.int y :: .int x :: st) S I J r cu su := by
  intro ls H locs ws tys h
  exact lv_iadd F.1 F.2.1 hd (k ls H locs ws tys (h.push (ok_cons trivial (ok_tl (ok_tl h.2.2.2.1)))))
theorem xs_isub (F : XFx p s m meth c args Rm cc own nL ini law sc mc ms A sV) {x y : Int32} (hd : decode cc pc = .ok (.isub, 1)) (k : XW p l e Rm s m args below meth c dC dI A a0 n0 sV nL mc ms Zf (pc + 1) L (.int (ibin 1 x y) :: st) S I J r cu su) : XW p l e Rm s m args below meth c dC dI A a0 n0 sV nL mc ms Zf pc L (.int y :: .int x :: st) S I J r cu su := by
  intro ls H locs ws tys h
  exact lv_isub F.1 F.2.1 hd (k ls H locs ws tys (h.push (ok_cons trivial (ok_tl (ok_tl h.2.2.2.1)))))
theorem xs_imul (F : XFx p s m meth c args Rm cc own nL ini law sc mc ms A sV) {x y : Int32} (hd : decode cc pc = .ok (.imul, 1)) (k : XW p l e Rm s m args below meth c dC dI A a0 n0 sV nL mc ms Zf (pc + 1) L (.int (ibin 2 x y) :: st) S I J r cu su) : XW p l e Rm s m args below meth c dC dI A a0 n0 sV nL mc ms Zf pc L (.int y :: .int x :: st) S I J r cu su := by
  intro ls H locs ws tys h
  exact lv_imul F.1 F.2.1 hd (k ls H locs ws tys (h.push (ok_cons trivial (ok_tl (ok_tl h.2.2.2.1)))))
theorem xs_iand (F : XFx p s m meth c args Rm cc own nL ini law sc mc ms A sV) {x y : Int32} (hd : decode cc pc = .ok (.iand, 1)) (k : XW p l e Rm s m args below meth c dC dI A a0 n0 sV nL mc ms Zf (pc + 1) L (.int (ibin 3 x y) :: st) S I J r cu su) : XW p l e Rm s m args below meth c dC dI A a0 n0 sV nL mc ms Zf pc L (.int y :: .int x :: st) S I J r cu su := by
  intro ls H locs ws tys h
  exact lv_iand F.1 F.2.1 hd (k ls H locs ws tys (h.push (ok_cons trivial (ok_tl (ok_tl h.2.2.2.1)))))
theorem xs_ior (F : XFx p s m meth c args Rm cc own nL ini law sc mc ms A sV) {x y : Int32} (hd : decode cc pc = .ok (.ior, 1)) (k : XW p l e Rm s m args below meth c dC dI A a0 n0 sV nL mc ms Zf (pc + 1) L (.int (ibin 4 x y) :: st) S I J r cu su) : XW p l e Rm s m args below meth c dC dI A a0 n0 sV nL mc ms Zf pc L (.int y :: .int x :: st) S I J r cu su := by
  intro ls H locs ws tys h
  exact lv_ior F.1 F.2.1 hd (k ls H locs ws tys (h.push (ok_cons trivial (ok_tl (ok_tl h.2.2.2.1)))))
theorem xs_ixor (F : XFx p s m meth c args Rm cc own nL ini law sc mc ms A sV) {x y : Int32} (hd : decode cc pc = .ok (.ixor, 1)) (k : XW p l e Rm s m args below meth c dC dI A a0 n0 sV nL mc ms Zf (pc + 1) L (.int (ibin 5 x y) :: st) S I J r cu su) : XW p l e Rm s m args below meth c dC dI A a0 n0 sV nL mc ms Zf pc L (.int y :: .int x :: st) S I J r cu su := by
  intro ls H locs ws tys h
  exact lv_ixor F.1 F.2.1 hd (k ls H locs ws tys (h.push (ok_cons trivial (ok_tl (ok_tl h.2.2.2.1)))))
theorem xs_ishl (F : XFx p s m meth c args Rm cc own nL ini law sc mc ms A sV) {x y : Int32} (hd : decode cc pc = .ok (.ishl, 1)) (k : XW p l e Rm s m args below meth c dC dI A a0 n0 sV nL mc ms Zf (pc + 1) L (.int (ibin 6 x y) :: st) S I J r cu su) : XW p l e Rm s m args below meth c dC dI A a0 n0 sV nL mc ms Zf pc L (.int y :: .int x :: st) S I J r cu su := by
  intro ls H locs ws tys h
  exact lv_ishl F.1 F.2.1 hd (k ls H locs ws tys (h.push (ok_cons trivial (ok_tl (ok_tl h.2.2.2.1)))))
theorem xs_ishr (F : XFx p s m meth c args Rm cc own nL ini law sc mc ms A sV) {x y : Int32} (hd : decode cc pc = .ok (.ishr, 1)) (k : XW p l e Rm s m args below meth c dC dI A a0 n0 sV nL mc ms Zf (pc + 1) L (.int (ibin 7 x y) :: st) S I J r cu su) : XW p l e Rm s m args below meth c dC dI A a0 n0 sV nL mc ms Zf pc L (.int y :: .int x :: st) S I J r cu su := by
  intro ls H locs ws tys h
  exact lv_ishr F.1 F.2.1 hd (k ls H locs ws tys (h.push (ok_cons trivial (ok_tl (ok_tl h.2.2.2.1)))))
theorem xs_iushr (F : XFx p s m meth c args Rm cc own nL ini law sc mc ms A sV) {x y : Int32} (hd : decode cc pc = .ok (.iushr, 1)) (k : XW p l e Rm s m args below meth c dC dI A a0 n0 sV nL mc ms Zf (pc + 1) L (.int (ibin 8 x y) :: st) S I J r cu su) : XW p l e Rm s m args below meth c dC dI A a0 n0 sV nL mc ms Zf pc L (.int y :: .int x :: st) S I J r cu su := by
  intro ls H locs ws tys h
  exact lv_iushr F.1 F.2.1 hd rfl (k ls H locs ws tys (h.push (ok_cons trivial (ok_tl (ok_tl h.2.2.2.1)))))
theorem xs_ladd (F : XFx p s m meth c args Rm cc own nL ini law sc mc ms A sV) {x y : Int64} (hd : decode cc pc = .ok (.ladd, 1)) (k : XW p l e Rm s m args below meth c dC dI A a0 n0 sV nL mc ms Zf (pc + 1) L (.long (lbin 0 x y) :: st) S I J r cu su) : XW p l e Rm s m args below meth c dC dI A a0 n0 sV nL mc ms Zf pc L (.long y :: .long x :: st) S I J r cu su := by
  intro ls H locs ws tys h
  exact lv_ladd F.1 F.2.1 hd (k ls H locs ws tys (h.push (ok_cons trivial (ok_tl (ok_tl h.2.2.2.1)))))
theorem xs_lsub (F : XFx p s m meth c args Rm cc own nL ini law sc mc ms A sV) {x y : Int64} (hd : decode cc pc = .ok (.lsub, 1)) (k : XW p l e Rm s m args below meth c dC dI A a0 n0 sV nL mc ms Zf (pc + 1) L (.long (lbin 1 x y) :: st) S I J r cu su) : XW p l e Rm s m args below meth c dC dI A a0 n0 sV nL mc ms Zf pc L (.long y :: .long x :: st) S I J r cu su := by
  intro ls H locs ws tys h
  exact lv_lsub F.1 F.2.1 hd (k ls H locs ws tys (h.push (ok_cons trivial (ok_tl (ok_tl h.2.2.2.1)))))
theorem xs_lmul (F : XFx p s m meth c args Rm cc own nL ini law sc mc ms A sV) {x y : Int64} (hd : decode cc pc = .ok (.lmul, 1)) (k : XW p l e Rm s m args below meth c dC dI A a0 n0 sV nL mc ms Zf (pc + 1) L (.long (lbin 2 x y) :: st) S I J r cu su) : XW p l e Rm s m args below meth c dC dI A a0 n0 sV nL mc ms Zf pc L (.long y :: .long x :: st) S I J r cu su := by
  intro ls H locs ws tys h
  exact lv_lmul F.1 F.2.1 hd (k ls H locs ws tys (h.push (ok_cons trivial (ok_tl (ok_tl h.2.2.2.1)))))
theorem xs_land (F : XFx p s m meth c args Rm cc own nL ini law sc mc ms A sV) {x y : Int64} (hd : decode cc pc = .ok (.land, 1)) (k : XW p l e Rm s m args below meth c dC dI A a0 n0 sV nL mc ms Zf (pc + 1) L (.long (lbin 3 x y) :: st) S I J r cu su) : XW p l e Rm s m args below meth c dC dI A a0 n0 sV nL mc ms Zf pc L (.long y :: .long x :: st) S I J r cu su := by
  intro ls H locs ws tys h
  exact lv_land F.1 F.2.1 hd (k ls H locs ws tys (h.push (ok_cons trivial (ok_tl (ok_tl h.2.2.2.1)))))
theorem xs_lor (F : XFx p s m meth c args Rm cc own nL ini law sc mc ms A sV) {x y : Int64} (hd : decode cc pc = .ok (.lor, 1)) (k : XW p l e Rm s m args below meth c dC dI A a0 n0 sV nL mc ms Zf (pc + 1) L (.long (lbin 4 x y) :: st) S I J r cu su) : XW p l e Rm s m args below meth c dC dI A a0 n0 sV nL mc ms Zf pc L (.long y :: .long x :: st) S I J r cu su := by
  intro ls H locs ws tys h
  exact lv_lor F.1 F.2.1 hd (k ls H locs ws tys (h.push (ok_cons trivial (ok_tl (ok_tl h.2.2.2.1)))))
theorem xs_idiv (F : XFx p s m meth c args Rm cc own nL ini law sc mc ms A sV) {x y : Int32} (hy : ¬ y = 0) (hd : decode cc pc = .ok (.idiv, 1)) (k : XW p l e Rm s m args below meth c dC dI A a0 n0 sV nL mc ms Zf (pc + 1) L (.int (x / y) :: st) S I J r cu su) : XW p l e Rm s m args below meth c dC dI A a0 n0 sV nL mc ms Zf pc L (.int y :: .int x :: st) S I J r cu su := by
  intro ls H locs ws tys h
  exact lv_idiv F.1 F.2.1 hd hy (k ls H locs ws tys (h.push (ok_cons trivial (ok_tl (ok_tl h.2.2.2.1)))))
theorem xs_irem (F : XFx p s m meth c args Rm cc own nL ini law sc mc ms A sV) {x y : Int32} (hy : ¬ y = 0) (hd : decode cc pc = .ok (.irem, 1)) (k : XW p l e Rm s m args below meth c dC dI A a0 n0 sV nL mc ms Zf (pc + 1) L (.int (x - x / y * y) :: st) S I J r cu su) : XW p l e Rm s m args below meth c dC dI A a0 n0 sV nL mc ms Zf pc L (.int y :: .int x :: st) S I J r cu su := by
  intro ls H locs ws tys h
  exact lv_irem F.1 F.2.1 hd hy (k ls H locs ws tys (h.push (ok_cons trivial (ok_tl (ok_tl h.2.2.2.1)))))
theorem xs_ldiv (F : XFx p s m meth c args Rm cc own nL ini law sc mc ms A sV) {x y : Int64} (hy : ¬ y = 0) (hd : decode cc pc = .ok (.ldiv, 1)) (k : XW p l e Rm s m args below meth c dC dI A a0 n0 sV nL mc ms Zf (pc + 1) L (.long (x / y) :: st) S I J r cu su) : XW p l e Rm s m args below meth c dC dI A a0 n0 sV nL mc ms Zf pc L (.long y :: .long x :: st) S I J r cu su := by
  intro ls H locs ws tys h
  exact lv_ldiv F.1 F.2.1 hd hy (k ls H locs ws tys (h.push (ok_cons trivial (ok_tl (ok_tl h.2.2.2.1)))))
theorem xs_lrem (F : XFx p s m meth c args Rm cc own nL ini law sc mc ms A sV) {x y : Int64} (hy : ¬ y = 0) (hd : decode cc pc = .ok (.lrem, 1)) (k : XW p l e Rm s m args below meth c dC dI A a0 n0 sV nL mc ms Zf (pc + 1) L (.long (x - x / y * y) :: st) S I J r cu su) : XW p l e Rm s m args below meth c dC dI A a0 n0 sV nL mc ms Zf pc L (.long y :: .long x :: st) S I J r cu su := by
  intro ls H locs ws tys h
  exact lv_lrem F.1 F.2.1 hd hy (k ls H locs ws tys (h.push (ok_cons trivial (ok_tl (ok_tl h.2.2.2.1)))))
theorem xs_lshl (F : XFx p s m meth c args Rm cc own nL ini law sc mc ms A sV) {x : Int64} {y : Int32} (hd : decode cc pc = .ok (.lshl, 1)) (k : XW p l e Rm s m args below meth c dC dI A a0 n0 sV nL mc ms Zf (pc + 1) L (.long (x <<< (y.toInt64 &&& 63)) :: st) S I J r cu su) : XW p l e Rm s m args below meth c dC dI A a0 n0 sV nL mc ms Zf pc L (.int y :: .long x :: st) S I J r cu su := by
  intro ls H locs ws tys h
  exact lv_lshl F.1 F.2.1 hd rfl (k ls H locs ws tys (h.push (ok_cons trivial (ok_tl (ok_tl h.2.2.2.1)))))
theorem xs_lcmp (F : XFx p s m meth c args Rm cc own nL ini law sc mc ms A sV) {x y : Int64} (hd : decode cc pc = .ok (.lcmp, 1)) (k : XW p l e Rm s m args below meth c dC dI A a0 n0 sV nL mc ms Zf (pc + 1) L (.int (lg_cmp x y) :: st) S I J r cu su) : XW p l e Rm s m args below meth c dC dI A a0 n0 sV nL mc ms Zf pc L (.long y :: .long x :: st) S I J r cu su := by
  intro ls H locs ws tys h
  exact W.lcmp F.1 F.2.1 hd (k ls H locs ws tys (h.push (ok_cons trivial (ok_tl (ok_tl h.2.2.2.1)))))
theorem xs_i2l (F : XFx p s m meth c args Rm cc own nL ini law sc mc ms A sV) {x : Int32} (hd : decode cc pc = .ok (.i2l, 1)) (k : XW p l e Rm s m args below meth c dC dI A a0 n0 sV nL mc ms Zf (pc + 1) L (.long (x.toInt64) :: st) S I J r cu su) : XW p l e Rm s m args below meth c dC dI A a0 n0 sV nL mc ms Zf pc L (.int x :: st) S I J r cu su := by
  intro ls H locs ws tys h
  exact lv_i2l F.1 F.2.1 hd rfl (k ls H locs ws tys (h.push (ok_cons trivial (ok_tl h.2.2.2.1))))
theorem xs_l2i (F : XFx p s m meth c args Rm cc own nL ini law sc mc ms A sV) {x : Int64} (hd : decode cc pc = .ok (.l2i, 1)) (k : XW p l e Rm s m args below meth c dC dI A a0 n0 sV nL mc ms Zf (pc + 1) L (.int (x.toInt32) :: st) S I J r cu su) : XW p l e Rm s m args below meth c dC dI A a0 n0 sV nL mc ms Zf pc L (.long x :: st) S I J r cu su := by
  intro ls H locs ws tys h
  exact lv_l2i F.1 F.2.1 hd rfl (k ls H locs ws tys (h.push (ok_cons trivial (ok_tl h.2.2.2.1))))
theorem xs_i2b (F : XFx p s m meth c args Rm cc own nL ini law sc mc ms A sV) {x : Int32} (hd : decode cc pc = .ok (.i2b, 1)) (k : XW p l e Rm s m args below meth c dC dI A a0 n0 sV nL mc ms Zf (pc + 1) L (.int (x.toInt8.toInt32) :: st) S I J r cu su) : XW p l e Rm s m args below meth c dC dI A a0 n0 sV nL mc ms Zf pc L (.int x :: st) S I J r cu su := by
  intro ls H locs ws tys h
  exact lv_i2b F.1 F.2.1 hd rfl (k ls H locs ws tys (h.push (ok_cons trivial (ok_tl h.2.2.2.1))))
theorem xs_i2s (F : XFx p s m meth c args Rm cc own nL ini law sc mc ms A sV) {x : Int32} (hd : decode cc pc = .ok (.i2s, 1)) (k : XW p l e Rm s m args below meth c dC dI A a0 n0 sV nL mc ms Zf (pc + 1) L (.int (x.toInt16.toInt32) :: st) S I J r cu su) : XW p l e Rm s m args below meth c dC dI A a0 n0 sV nL mc ms Zf pc L (.int x :: st) S I J r cu su := by
  intro ls H locs ws tys h
  exact lv_i2s F.1 F.2.1 hd rfl (k ls H locs ws tys (h.push (ok_cons trivial (ok_tl h.2.2.2.1))))
theorem xs_i2c (F : XFx p s m meth c args Rm cc own nL ini law sc mc ms A sV) {x : Int32} (hd : decode cc pc = .ok (.i2c, 1)) (k : XW p l e Rm s m args below meth c dC dI A a0 n0 sV nL mc ms Zf (pc + 1) L (.int ((x.toUInt32 % 65536).toInt32) :: st) S I J r cu su) : XW p l e Rm s m args below meth c dC dI A a0 n0 sV nL mc ms Zf pc L (.int x :: st) S I J r cu su := by
  intro ls H locs ws tys h
  exact lv_i2c F.1 F.2.1 hd rfl (k ls H locs ws tys (h.push (ok_cons trivial (ok_tl h.2.2.2.1))))
theorem xs_lneg (F : XFx p s m meth c args Rm cc own nL ini law sc mc ms A sV) {x : Int64} (hd : decode cc pc = .ok (.lneg, 1)) (k : XW p l e Rm s m args below meth c dC dI A a0 n0 sV nL mc ms Zf (pc + 1) L (.long (-x) :: st) S I J r cu su) : XW p l e Rm s m args below meth c dC dI A a0 n0 sV nL mc ms Zf pc L (.long x :: st) S I J r cu su := by
  intro ls H locs ws tys h
  exact lv_lneg F.1 F.2.1 hd (k ls H locs ws tys (h.push (ok_cons trivial (ok_tl h.2.2.2.1))))
theorem xs_ineg (F : XFx p s m meth c args Rm cc own nL ini law sc mc ms A sV) {x : Int32} (hd : decode cc pc = .ok (.ineg, 1)) (k : XW p l e Rm s m args below meth c dC dI A a0 n0 sV nL mc ms Zf (pc + 1) L (.int (-x) :: st) S I J r cu su) : XW p l e Rm s m args below meth c dC dI A a0 n0 sV nL mc ms Zf pc L (.int x :: st) S I J r cu su := by
  intro ls H locs ws tys h
  exact lv_ineg F.1 F.2.1 hd (k ls H locs ws tys (h.push (ok_cons trivial (ok_tl h.2.2.2.1))))
theorem xs_dup (F : XFx p s m meth c args Rm cc own nL ini law sc mc ms A sV) {v : Value} (hv : v.category = 1) (hd : decode cc pc = .ok (.dup, 1)) (k : XW p l e Rm s m args below meth c dC dI A a0 n0 sV nL mc ms Zf (pc + 1) L (v :: v :: st) S I J r cu su) : XW p l e Rm s m args below meth c dC dI A a0 n0 sV nL mc ms Zf pc L (v :: st) S I J r cu su := by
  intro ls H locs ws tys h
  exact lv_dup F.1 F.2.1 hd (by rw [xtr_cat F.cat]; exact hv) (k ls H locs ws tys (h.push (ok_cons (ok_hd h.2.2.2.1) h.2.2.2.1)))
theorem xs_dup2 (F : XFx p s m meth c args Rm cc own nL ini law sc mc ms A sV) {v u : Value} (hv : v.category = 1) (hu : u.category = 1) (hd : decode cc pc = .ok (.dup2, 1)) (k : XW p l e Rm s m args below meth c dC dI A a0 n0 sV nL mc ms Zf (pc + 1) L (v :: u :: v :: u :: st) S I J r cu su) : XW p l e Rm s m args below meth c dC dI A a0 n0 sV nL mc ms Zf pc L (v :: u :: st) S I J r cu su := by
  intro ls H locs ws tys h
  exact lv_dup2_11 F.1 F.2.1 hd (by rw [xtr_cat F.cat]; exact hv) (by rw [xtr_cat F.cat]; exact hu) (k ls H locs ws tys (h.push (ok_cons (ok_hd h.2.2.2.1) (ok_cons (ok_hd (ok_tl h.2.2.2.1)) h.2.2.2.1))))
theorem xs_pop (F : XFx p s m meth c args Rm cc own nL ini law sc mc ms A sV) {v : Value} (hv : v.category = 1) (hd : decode cc pc = .ok (.pop, 1)) (k : XW p l e Rm s m args below meth c dC dI A a0 n0 sV nL mc ms Zf (pc + 1) L (st) S I J r cu su) : XW p l e Rm s m args below meth c dC dI A a0 n0 sV nL mc ms Zf pc L (v :: st) S I J r cu su := by
  intro ls H locs ws tys h
  exact lv_pop F.1 F.2.1 hd (by rw [xtr_cat F.cat]; exact hv) (k ls H locs ws tys (h.push (ok_tl h.2.2.2.1)))
theorem icnd_cases {d : Nat} (h : d < 6) : d = 0 ∨ d = 1 ∨ d = 2 ∨ d = 3 ∨ d = 4 ∨ d = 5 := by omega
def xcnd (d : Nat) : Jvm.ClassFile.Cond := match d with
  | 0 => .eq
  | 1 => .ne
  | 2 => .lt
  | 3 => .ge
  | 4 => .gt
  | _ => .le
theorem xs_if (F : XFx p s m meth c args Rm cc own nL ini law sc mc ms A sV) {d a : Nat} {x : Int32} (hd6 : d < 6) {off : Int} (hd : decode cc pc = .ok (.ifCond (xcnd d) off, 3)) (ht : (pc : Int) + off = (a : Int)) (kt : icnd d x 0 → XW p l e Rm s m args below meth c dC dI A a0 n0 sV nL mc ms Zf a L (st) S I J r cu su) (kf : ¬ icnd d x 0 → XW p l e Rm s m args below meth c dC dI A a0 n0 sV nL mc ms Zf (pc + 3) L (st) S I J r cu su) : XW p l e Rm s m args below meth c dC dI A a0 n0 sV nL mc ms Zf pc L (.int x :: st) S I J r cu su := by
  intro ls H locs ws tys h
  have k1 := fun q => kt q ls H locs ws tys (h.push (ok_tl h.2.2.2.1))
  have k2 := fun q => kf q ls H locs ws tys (h.push (ok_tl h.2.2.2.1))
  rcases icnd_cases hd6 with rfl | rfl | rfl | rfl | rfl | rfl
  · exact lv_if_eq F.1 F.2.1 hd ht k1 k2
  · exact lv_if_ne F.1 F.2.1 hd ht k1 (fun q => k2 (fun z => z q))
  · exact lv_if_lt F.1 F.2.1 hd ht k1 k2
  · exact lv_if_ge F.1 F.2.1 hd ht k1 k2
  · exact lv_if_gt F.1 F.2.1 hd ht k1 k2
  · exact lv_if_le F.1 F.2.1 hd ht k1 k2
theorem xs_icmp (F : XFx p s m meth c args Rm cc own nL ini law sc mc ms A sV) {d a : Nat} {x y : Int32} (hd6 : d < 6) {off : Int} (hd : decode cc pc = .ok (.if_icmp (xcnd d) off, 3)) (ht : (pc : Int) + off = (a : Int)) (kt : icnd d x y → XW p l e Rm s m args below meth c dC dI A a0 n0 sV nL mc ms Zf a L (st) S I J r cu su) (kf : ¬ icnd d x y → XW p l e Rm s m args below meth c dC dI A a0 n0 sV nL mc ms Zf (pc + 3) L (st) S I J r cu su) : XW p l e Rm s m args below meth c dC dI A a0 n0 sV nL mc ms Zf pc L (.int y :: .int x :: st) S I J r cu su := by
  intro ls H locs ws tys h
  have k1 := fun q => kt q ls H locs ws tys (h.push (ok_tl (ok_tl h.2.2.2.1)))
  have k2 := fun q => kf q ls H locs ws tys (h.push (ok_tl (ok_tl h.2.2.2.1)))
  rcases icnd_cases hd6 with rfl | rfl | rfl | rfl | rfl | rfl
  · exact lv_icmp_eq F.1 F.2.1 hd ht k1 k2
  · exact lv_icmp_ne F.1 F.2.1 hd ht k1 (fun q => k2 (fun z => z q))
  · exact lv_icmp_lt F.1 F.2.1 hd ht k1 k2
  · exact lv_icmp_ge F.1 F.2.1 hd ht k1 k2
  · exact lv_icmp_gt F.1 F.2.1 hd ht k1 k2
  · exact lv_icmp_le F.1 F.2.1 hd ht k1 k2
theorem xs_goto (F : XFx p s m meth c args Rm cc own nL ini law sc mc ms A sV) {a : Nat} {off : Int} (hd : decode cc pc = .ok (.goto off, 3)) (ht : (pc : Int) + off = (a : Int)) (k : XW p l e Rm s m args below meth c dC dI A a0 n0 sV nL mc ms Zf a L (st) S I J r cu su) : XW p l e Rm s m args below meth c dC dI A a0 n0 sV nL mc ms Zf pc L (st) S I J r cu su := by
  intro ls H locs ws tys h
  exact lv_goto F.1 F.2.1 hd ht (k ls H locs ws tys h)
theorem xs_ifnull_N (F : XFx p s m meth c args Rm cc own nL ini law sc mc ms A sV) {a x : Nat} {off : Int} (hd : decode cc pc = .ok (.ifnull off, 3)) (ht : (pc : Int) + off = (a : Int)) (k : XW p l e Rm s m args below meth c dC dI A a0 n0 sV nL mc ms Zf a L (st) S I J r cu su) : XW p l e Rm s m args below meth c dC dI A a0 n0 sV nL mc ms Zf pc L (.null :: st) S I J r cu su := by
  intro ls H locs ws tys h
  exact lv_ifnullN F.1 F.2.1 hd ht (k ls H locs ws tys (h.push (ok_tl h.2.2.2.1)))
theorem xs_ifnull_R (F : XFx p s m meth c args Rm cc own nL ini law sc mc ms A sV) {a x : Nat} {off : Int} (hd : decode cc pc = .ok (.ifnull off, 3)) (ht : (pc : Int) + off = (a : Int)) (k : XW p l e Rm s m args below meth c dC dI A a0 n0 sV nL mc ms Zf (pc + 3) L (st) S I J r cu su) : XW p l e Rm s m args below meth c dC dI A a0 n0 sV nL mc ms Zf pc L (.ref x :: st) S I J r cu su := by
  intro ls H locs ws tys h
  exact lv_ifnull F.1 F.2.1 hd (k ls H locs ws tys (h.push (ok_tl h.2.2.2.1)))
theorem xs_ifnonnull_N (F : XFx p s m meth c args Rm cc own nL ini law sc mc ms A sV) {a x : Nat} {off : Int} (hd : decode cc pc = .ok (.ifnonnull off, 3)) (ht : (pc : Int) + off = (a : Int)) (k : XW p l e Rm s m args below meth c dC dI A a0 n0 sV nL mc ms Zf (pc + 3) L (st) S I J r cu su) : XW p l e Rm s m args below meth c dC dI A a0 n0 sV nL mc ms Zf pc L (.null :: st) S I J r cu su := by
  intro ls H locs ws tys h
  exact lv_ifnonnullN F.1 F.2.1 hd (k ls H locs ws tys (h.push (ok_tl h.2.2.2.1)))
theorem xs_ifnonnull_R (F : XFx p s m meth c args Rm cc own nL ini law sc mc ms A sV) {a x : Nat} {off : Int} (hd : decode cc pc = .ok (.ifnonnull off, 3)) (ht : (pc : Int) + off = (a : Int)) (k : XW p l e Rm s m args below meth c dC dI A a0 n0 sV nL mc ms Zf a L (st) S I J r cu su) : XW p l e Rm s m args below meth c dC dI A a0 n0 sV nL mc ms Zf pc L (.ref x :: st) S I J r cu su := by
  intro ls H locs ws tys h
  exact lv_ifnonnull F.1 F.2.1 hd ht (k ls H locs ws tys (h.push (ok_tl h.2.2.2.1)))
end XOps
end
section
section XOps
variable {p : Program} {l : Launch} {e : Env} {Rm : Room} {s : State} {m : MethodId} {args : Array Value} {below : List Frame} {meth : Method} {c : Code} {dC : Nat → ClassId} {dI : Nat → Nat → Nat} {A : Nat → Prop} {a0 : Nat → Nat} {n0 : Nat} {sV : Nat → Value} {nL mc ms : Nat} {Zf : State → Prop} {cc : ByteArray} {own : String} {ini law : Bool} {sc : Nat × (Nat → Int32)} {K : XK} {pc pc' : Nat} {L st : XV} {S : XS} {I : XI} {J : XJ} {r : XR} {cu su : Nat}
/-! ===== the tables, decided ===== -/
def xC (b : Nat) : vw_C := xcl.getD b (cR0, cT0, 19)
theorem lt11 {b : Nat} (h : b < 11) : b = 0 ∨ b = 1 ∨ b = 2 ∨ b = 3 ∨ b = 4 ∨ b = 5 ∨ b = 6 ∨ b = 7 ∨ b = 8 ∨ b = 9 ∨ b = 10 := by omega
theorem xC_at {b : Nat} (h : b < 11) : xcl[b]? = some ((xC b).1, (xC b).2.1, (xC b).2.2) := by
  rcases lt11 h with rfl | rfl | rfl | rfl | rfl | rfl | rfl | rfl | rfl | rfl | rfl <;> rfl
theorem xC_n {b : Nat} (h : b < 11) : (xC b).2.2 = nfc b := by
  rcases lt11 h with rfl | rfl | rfl | rfl | rfl | rfl | rfl | rfl | rfl | rfl | rfl <;> rfl
def xkof : FieldType → Nat
  | .long => 1
  | .object _ => 2
  | .array _ => 2
  | .int => 0
  | .boolean => 0
  | _ => 9
def xclsOk (b : Nat) : Bool := (List.range (nfc b)).all fun k => xw ((xlyl.getD b []).getD k 0) (u_lay (xC b).1 (xC b).2.1 k) && decide (parseFieldDescriptor ((xC b).2.1 k).2.2.1 = some (xty b k)) && decide (xkof (xty b k) = xkd b k) && (List.range (nfc b)).all fun j => decide (k = j) || decide (((xC b).2.1 k).2.1 ≠ ((xC b).2.1 j).2.1)
theorem xcls_all : ∀ b, b < 11 → xclsOk b = true := by decide +kernel
theorem xcls_one {b k : Nat} (h : b < 11) (hk : k < nfc b) : xw ((xlyl.getD b []).getD k 0) (u_lay (xC b).1 (xC b).2.1 k) = true ∧ parseFieldDescriptor ((xC b).2.1 k).2.2.1 = some (xty b k) ∧ xkof (xty b k) = xkd b k ∧ ∀ j, j < nfc b → k ≠ j → ((xC b).2.1 k).2.1 ≠ ((xC b).2.1 j).2.1 := by
  have h1 := List.all_eq_true.mp (xcls_all b h) k (List.mem_range.mpr hk)
  simp only [Bool.and_eq_true, decide_eq_true_eq] at h1
  refine ⟨h1.1.1.1, h1.1.1.2, h1.1.2, fun j hj hne => ?_⟩
  have h2 := List.all_eq_true.mp h1.2 j (List.mem_range.mpr hj)
  rcases Bool.or_eq_true_iff.mp h2 with q | q
  · exact absurd (of_decide_eq_true q) hne
  · exact of_decide_eq_true q
theorem xlay_in {b : Nat} (h : b < 11) : ∀ w ∈ u_ws (xC b).1 (xC b).2.1 (xC b).2.2, w ∈ xW := by
  intro w hw
  rw [xC_n h] at hw
  obtain ⟨k, hk, rfl⟩ := List.mem_map.mp hw
  exact xw_in (xcls_one h (List.mem_range.mp hk)).1
theorem xobj_get {ad : Nat → Nat} {I : XI} {J : XJ} {r : XR} {t q k : Nat} (h : k < nfc t) : (xobj ad I J r t q)[k]? = some (xfld ad I J r t q k) := by
  simp [xobj, List.getElem?_map, List.getElem?_range h]
theorem xobj_len {ad : Nat → Nat} {I : XI} {J : XJ} {r : XR} {t q : Nat} : (xobj ad I J r t q).length = nfc t := by simp [xobj]
theorem xobj_set {ad : Nat → Nat} {I I' : XI} {J J' : XJ} {r r' : XR} {t q k : Nat} {v : Value} (hv : xfld ad I' J' r' t q k = v) (hne : ∀ j, j ≠ k → xfld ad I' J' r' t q j = xfld ad I J r t q j) : (xobj ad I J r t q).set k v = xobj ad I' J' r' t q := by
  apply List.ext_getElem?
  intro j
  rw [List.getElem?_set]
  by_cases hk : k < nfc t
  · by_cases e : k = j
    · subst e
      rw [if_pos rfl, xobj_len, if_pos hk, xobj_get hk, hv]
    · rw [if_neg e]
      simp only [xobj, List.getElem?_map]
      cases h : (List.range (nfc t))[j]? with
      | none => rfl
      | some i =>
        have : i = j := by
          obtain ⟨h1, h2⟩ := List.getElem?_eq_some_iff.mp h
          simpa using h2.symm
        subst this
        simp [hne i (Ne.symm e)]
  · by_cases e : k = j
    · subst e
      rw [if_pos rfl, xobj_len, if_neg hk]
      symm
      rw [List.getElem?_eq_none_iff, xobj_len]
      omega
    · rw [if_neg e]
      simp only [xobj, List.getElem?_map]
      cases h : (List.range (nfc t))[j]? with
      | none => rfl
      | some i =>
        have : i = j := by
          obtain ⟨h1, h2⟩ := List.getElem?_eq_some_iff.mp h
          simpa using h2.symm
        subst this
        simp [hne i (Ne.symm e)]
theorem xcell_obj {ad : Nat → Nat} {I : XI} {J : XJ} {r : XR} {cA : ClassId} {b n q : Nat} (h : b < 11) : xcell ad I J r cA b n q = .inr (b, xobj ad I J r b q) := if_pos (by omega)
/-- behind a write: the picture of the new memory -/
theorem XH.mem {ls : Array Slot} {H H1 : Heap} {locs locs1 : List Loc} {ws : va_W} {tys : List (ClassId × FieldType)} {st' : XV} (h : XH dC dI A s a0 n0 sV nL mc ms ls H locs ws tys L st S I J r cu su) {q t n : Nat} (hq : S[q]? = some (t, n)) {cA : ClassId} (hc : ws[q]? = some (xadr ws q, xcell (xadr ws) I J r cA t n q)) (hty : 100 ≤ t → ∃ t0 : Nat, tys[t0]? = some (cA, xaty t))
    {I' : XI} {J' : XJ} {r' : XR} {e' : va_E} (he : e' = xcell (xadr ws) I' J' r' cA t n q) (hP1 : va_P (dC, dI) xcl (ws.set q (xadr ws q, e')) H1) (hD1 : va_D A (ws.set q (xadr ws q, e'))) (hS1 : va_S A s.heap H1 locs1)
    (hI : ∀ p, p ≠ q → I' p = I p) (hJ : ∀ p, p ≠ q → J' p = J p) (hr : ∀ p, p ≠ q → r' p = r p) (hv : ∀ k v : Nat, r' q k = some v → v < S.length) (hb : t = 102 → ∀ j, (I' q j).toInt8.toInt32 = I' q j) (hst : ∀ v ∈ st', xok S v) :
    XH dC dI A s a0 n0 sV nL mc ms ls H1 locs1 (ws.set q (xadr ws q, e')) tys L st' S I' J' r' cu su ∧ xadr (ws.set q (xadr ws q, e')) = xadr ws := by
  subst he
  have had := xadr_set (e := xcell (xadr ws) I' J' r' cA t n q) hc
  obtain ⟨h1, ⟨h2, h3, h4, h5, h6⟩, h7, h8, h9⟩ := h
  exact ⟨⟨by rw [had]; exact h1, ⟨h2, hP1, hD1, hS1, h6.set hq hc hty hI hJ hr hv hb⟩, h7, hst, h9⟩, had⟩
theorem xs_getI (F : XFx p s m meth c args Rm cc own nL ini law sc mc ms A sV) {q b d a : Nat} (hb : b < 11) (hk : d < nfc b) (hk0 : xkd b d = 0) (hl : Cond.fieldLink own a ((xC b).2.1 d).1 ((xC b).2.1 d).2.1 ((xC b).2.1 d).2.2.1 ∈ xW) (hd : decode cc pc = .ok (.getfield a, 3)) (hS : S[q]? = some (b, 0))
    (k : XW p l e Rm s m args below meth c dC dI A a0 n0 sV nL mc ms Zf (pc + 3) L (.int (I q d) :: st) S I J r cu su) : XW p l e Rm s m args below meth c dC dI A a0 n0 sV nL mc ms Zf pc L (.ref q :: st) S I J r cu su := by
  intro ls H locs ws tys h
  obtain ⟨cA, g1, -⟩ := h.2.1.2.2.2.2.at hS
  rw [xcell_obj hb] at g1
  have hv := xobj_get (ad := xadr ws) (I := I) (J := J) (r := r) (t := b) (q := q) hk
  have e1 : xfld (xadr ws) I J r b q d = .int (I q d) := by unfold xfld; rw [hk0]; rfl
  rw [e1] at hv
  exact va_get F.1 F.2.1 F.2.2.2.2.1 (xlay_in hb) F.2.2.2.1 h.2.1.1 h.2.1.2.1 q g1 (xC_at hb) d (by rw [xC_n hb]; exact hk) (F.2.2.2.2.1 _ hl) (fun _ h => h) hv hd (k ls H locs ws tys (h.push (ok_cons trivial (ok_tl h.2.2.2.1))))
theorem xs_getJ (F : XFx p s m meth c args Rm cc own nL ini law sc mc ms A sV) {q b d a : Nat} (hb : b < 11) (hk : d < nfc b) (hk0 : xkd b d = 1) (hl : Cond.fieldLink own a ((xC b).2.1 d).1 ((xC b).2.1 d).2.1 ((xC b).2.1 d).2.2.1 ∈ xW) (hd : decode cc pc = .ok (.getfield a, 3)) (hS : S[q]? = some (b, 0))
    (k : XW p l e Rm s m args below meth c dC dI A a0 n0 sV nL mc ms Zf (pc + 3) L (.long (J q d) :: st) S I J r cu su) : XW p l e Rm s m args below meth c dC dI A a0 n0 sV nL mc ms Zf pc L (.ref q :: st) S I J r cu su := by
  intro ls H locs ws tys h
  obtain ⟨cA, g1, -⟩ := h.2.1.2.2.2.2.at hS
  rw [xcell_obj hb] at g1
  have hv := xobj_get (ad := xadr ws) (I := I) (J := J) (r := r) (t := b) (q := q) hk
  have e1 : xfld (xadr ws) I J r b q d = .long (J q d) := by unfold xfld; rw [hk0]; rfl
  rw [e1] at hv
  exact va_get F.1 F.2.1 F.2.2.2.2.1 (xlay_in hb) F.2.2.2.1 h.2.1.1 h.2.1.2.1 q g1 (xC_at hb) d (by rw [xC_n hb]; exact hk) (F.2.2.2.2.1 _ hl) (fun _ h => h) hv hd (k ls H locs ws tys (h.push (ok_cons trivial (ok_tl h.2.2.2.1))))
theorem ok_rf {a0 : Nat → Nat} {n0 : Nat} {tys : List (ClassId × FieldType)} {ws : va_W} (h : XRel a0 n0 tys ws S I J r) (q k : Nat) : xok S (va_rf (r q k)) := by
  cases hv : r q k with
  | none => trivial
  | some v => exact h.2.2.1 q k v hv
theorem xs_getR (F : XFx p s m meth c args Rm cc own nL ini law sc mc ms A sV) {q b d a : Nat} (hb : b < 11) (hk : d < nfc b) (hk0 : xkd b d = 2) (hl : Cond.fieldLink own a ((xC b).2.1 d).1 ((xC b).2.1 d).2.1 ((xC b).2.1 d).2.2.1 ∈ xW) (hd : decode cc pc = .ok (.getfield a, 3)) (hS : S[q]? = some (b, 0))
    (k : XW p l e Rm s m args below meth c dC dI A a0 n0 sV nL mc ms Zf (pc + 3) L (va_rf (r q d) :: st) S I J r cu su) : XW p l e Rm s m args below meth c dC dI A a0 n0 sV nL mc ms Zf pc L (.ref q :: st) S I J r cu su := by
  intro ls H locs ws tys h
  obtain ⟨cA, g1, -⟩ := h.2.1.2.2.2.2.at hS
  rw [xcell_obj hb] at g1
  have hv := xobj_get (ad := xadr ws) (I := I) (J := J) (r := r) (t := b) (q := q) hk
  have e1 : xfld (xadr ws) I J r b q d = xtr (xadr ws) sV (va_rf (r q d)) := by unfold xfld; rw [hk0, xtr_rf]; rfl
  rw [e1] at hv
  exact va_get F.1 F.2.1 F.2.2.2.2.1 (xlay_in hb) F.2.2.2.1 h.2.1.1 h.2.1.2.1 q g1 (xC_at hb) d (by rw [xC_n hb]; exact hk) (F.2.2.2.2.1 _ hl) (fun _ h => h) hv hd (k ls H locs ws tys (h.push (ok_cons (ok_rf h.2.1.2.2.2.2 q d) (ok_tl h.2.2.2.1))))
/-- a putfield, final in a constructor or not -/
theorem xs_put (F : XFx p s m meth c args Rm cc own nL ini law sc mc ms A sV) {q b d a : Nat} {v : Value} {I' : XI} {J' : XJ} {r' : XR} (hb : b < 11) (hk : d < nfc b) (hl : Cond.fieldLink own a ((xC b).2.1 d).1 ((xC b).2.1 d).2.1 ((xC b).2.1 d).2.2.1 ∈ xW) (hf : ((xC b).2.1 d).2.2.2 = false ∨ (((xC b).2.1 d).2.2.2 = true ∧ ini = true ∧ ((xC b).2.1 d).1 = own)) (hd : decode cc pc = .ok (.putfield a, 3)) (hS : S[q]? = some (b, 0))
    (hn : ∀ ad, narrow (xty b d) (xtr ad sV v) = xtr ad sV v) (hfit : ∀ ad, fits (xty b d) (xtr ad sV v) = true) (hv : ∀ ad, xfld ad I' J' r' b q d = xtr ad sV v) (hne : ∀ ad j, j ≠ d → xfld ad I' J' r' b q j = xfld ad I J r b q j)
    (hI : ∀ p, p ≠ q → I' p = I p) (hJ : ∀ p, p ≠ q → J' p = J p) (hr : ∀ p, p ≠ q → r' p = r p) (hrv : xok S v → (∀ k v : Nat, r q k = some v → v < S.length) → ∀ k v : Nat, r' q k = some v → v < S.length)
    (k : XW p l e Rm s m args below meth c dC dI A a0 n0 sV nL mc ms Zf (pc + 3) L st S I' J' r' cu su) : XW p l e Rm s m args below meth c dC dI A a0 n0 sV nL mc ms Zf pc L (v :: .ref q :: st) S I J r cu su := by
  intro ls H locs ws tys h
  obtain ⟨cA, g1, g2⟩ := h.2.1.2.2.2.2.at hS
  have g3 := g1
  rw [xcell_obj hb] at g3
  have hty := fun j (hj : j < (xC b).2.2) => (xcls_one hb (by rw [xC_n hb] at hj; exact hj) : _ ∧ parseFieldDescriptor ((xC b).2.1 j).2.2.1 = some (xty b j) ∧ _ ∧ _).2.1
  have hnm : ∀ a', a' < (xC b).2.2 → ∀ b', b' < (xC b).2.2 → a' ≠ b' → ((xC b).2.1 a').2.1 ≠ ((xC b).2.1 b').2.1 := fun a' ha' b' hb' hab => by
    rw [xC_n hb] at ha' hb'
    exact (xcls_one hb ha').2.2.2 b' hb' hab
  have hk' : d < (xC b).2.2 := by rw [xC_n hb]; exact hk
  have hdf := (xcls_one hb hk).2.1
  have eS : (xobj (xadr ws) I J r b q).set d (xtr (xadr ws) sV v) = xobj (xadr ws) I' J' r' b q := xobj_set (hv _) (hne _)
  have eX : (Sum.inr (b, (xobj (xadr ws) I J r b q).set d (xtr (xadr ws) sV v)) : va_E) = xcell (xadr ws) I' J' r' cA b 0 q := by rw [eS, xcell_obj hb]
  have go : ∀ (H1 : Heap) (locs1 : List Loc), va_P (dC, dI) xcl (ws.set q (xadr ws q, .inr (b, (xobj (xadr ws) I J r b q).set d (xtr (xadr ws) sV v)))) H1 → va_D A (ws.set q (xadr ws q, .inr (b, (xobj (xadr ws) I J r b q).set d (xtr (xadr ws) sV v)))) → va_S A s.heap H1 locs1 → W p l e Rm s m args below meth c H1 locs1 cu su Zf (F0 m (pc + 3) ls (st.map (xtr (xadr ws) sV))) := by
    intro H1 locs1 hP1 hD1 hS1
    obtain ⟨x1, x2⟩ := XH.mem h hS g1 g2 eX hP1 hD1 hS1 hI hJ hr (hrv (ok_hd h.2.2.2.1) (fun k v hv => h.2.1.2.2.2.2.2.2.1 q k v hv)) (fun e => by omega) (ok_tl (ok_tl h.2.2.2.1))
    have k1 := k ls H1 locs1 _ tys x1
    rw [x2] at k1
    exact k1
  rcases hf with hf | ⟨hf, hi, hdec⟩
  · exact va_put F.1 F.2.1 F.2.2.2.2.1 (xlay_in hb) (xty b) hty hnm F.2.2.2.1 h.2.1.1 h.2.1.2.1 h.2.1.2.2.1 h.2.1.2.2.2.1 q g3 (xC_at hb) d hk' (F.2.2.2.2.1 _ hl) (fun _ h => h) hf hdf (hn _) (hfit _) (by rw [xobj_len]; exact hk) hd go
  · exact va_putF F.1 F.2.1 F.2.2.2.2.1 (xlay_in hb) (xty b) hty hnm F.2.2.2.1 h.2.1.1 h.2.1.2.1 h.2.1.2.2.1 h.2.1.2.2.2.1 q g3 (xC_at hb) d hk' (F.2.2.2.2.1 _ hl) (fun _ h => h) hf (F.2.2.2.2.2.1 hi) hdec hdf (hn _) (hfit _) (by rw [xobj_len]; exact hk) hd go
theorem xfld_ne {ad : Nat → Nat} {I I' : XI} {J J' : XJ} {r r' : XR} {b q j : Nat} (hI : I' q j = I q j) (hJ : J' q j = J q j) (hr : r' q j = r q j) : xfld ad I' J' r' b q j = xfld ad I J r b q j := by unfold xfld; rw [hI, hJ, hr]
theorem up2_at {α : Type} {f : Nat → Nat → α} {a i : Nat} {v : α} : up2 f a i v a i = v := by simp [up2]
theorem up2_j {α : Type} {f : Nat → Nat → α} {a i j : Nat} {v : α} (h : j ≠ i) : up2 f a i v a j = f a j := by simp [up2, h]
theorem narrow_int {x : Int32} : narrow .int (.int x) = .int x := rfl
theorem xs_putI (F : XFx p s m meth c args Rm cc own nL ini law sc mc ms A sV) {q b d a : Nat} {x : Int32} (hb : b < 11) (hk : d < nfc b) (hk0 : xkd b d = 0) (ht : xty b d = .int ∨ (xty b d = .boolean ∧ (x = 0 ∨ x = 1))) (hl : Cond.fieldLink own a ((xC b).2.1 d).1 ((xC b).2.1 d).2.1 ((xC b).2.1 d).2.2.1 ∈ xW) (hf : ((xC b).2.1 d).2.2.2 = false ∨ (((xC b).2.1 d).2.2.2 = true ∧ ini = true ∧ ((xC b).2.1 d).1 = own)) (hd : decode cc pc = .ok (.putfield a, 3)) (hS : S[q]? = some (b, 0))
    (k : XW p l e Rm s m args below meth c dC dI A a0 n0 sV nL mc ms Zf (pc + 3) L st S (up2 I q d x) J r cu su) : XW p l e Rm s m args below meth c dC dI A a0 n0 sV nL mc ms Zf pc L (.int x :: .ref q :: st) S I J r cu su := by
  refine xs_put F hb hk hl hf hd hS (fun ad => ?_) (fun ad => ?_) (fun ad => ?_) (fun ad j hj => ?_) (fun p hp => up2_ne hp) (fun _ _ => rfl) (fun _ _ => rfl) (fun _ h => h) k
  · rcases ht with e | ⟨e, rfl | rfl⟩ <;> rw [e] <;> rfl
  · rcases ht with e | ⟨e, rfl | rfl⟩ <;> rw [e] <;> rfl
  · unfold xfld; rw [hk0]; show Value.int (up2 I q d x q d) = _; rw [up2_at]; rfl
  · exact xfld_ne (up2_j hj) rfl rfl
theorem xs_putJ (F : XFx p s m meth c args Rm cc own nL ini law sc mc ms A sV) {q b d a : Nat} {x : Int64} (hb : b < 11) (hk : d < nfc b) (hk0 : xkd b d = 1) (hl : Cond.fieldLink own a ((xC b).2.1 d).1 ((xC b).2.1 d).2.1 ((xC b).2.1 d).2.2.1 ∈ xW) (hf : ((xC b).2.1 d).2.2.2 = false ∨ (((xC b).2.1 d).2.2.2 = true ∧ ini = true ∧ ((xC b).2.1 d).1 = own)) (hd : decode cc pc = .ok (.putfield a, 3)) (hS : S[q]? = some (b, 0))
    (k : XW p l e Rm s m args below meth c dC dI A a0 n0 sV nL mc ms Zf (pc + 3) L st S I (up2 J q d x) r cu su) : XW p l e Rm s m args below meth c dC dI A a0 n0 sV nL mc ms Zf pc L (.long x :: .ref q :: st) S I J r cu su := by
  have ht : xty b d = .long := by
    have h1 := (xcls_one hb hk).2.2.1
    rw [hk0] at h1
    cases hx : xty b d <;> rw [hx] at h1 <;> first | rfl | simp [xkof] at h1
  refine xs_put F hb hk hl hf hd hS (fun ad => ?_) (fun ad => ?_) (fun ad => ?_) (fun ad j hj => ?_) (fun _ _ => rfl) (fun p hp => up2_ne hp) (fun _ _ => rfl) (fun _ h => h) k
  · rw [ht]; rfl
  · rw [ht]; rfl
  · unfold xfld; rw [hk0]; show Value.long (up2 J q d x q d) = _; rw [up2_at]; rfl
  · exact xfld_ne rfl (up2_j hj) rfl
theorem xs_putR (F : XFx p s m meth c args Rm cc own nL ini law sc mc ms A sV) {q b d a x : Nat} (hb : b < 11) (hk : d < nfc b) (hk0 : xkd b d = 2) (hl : Cond.fieldLink own a ((xC b).2.1 d).1 ((xC b).2.1 d).2.1 ((xC b).2.1 d).2.2.1 ∈ xW) (hf : ((xC b).2.1 d).2.2.2 = false ∨ (((xC b).2.1 d).2.2.2 = true ∧ ini = true ∧ ((xC b).2.1 d).1 = own)) (hd : decode cc pc = .ok (.putfield a, 3)) (hS : S[q]? = some (b, 0))
    (k : XW p l e Rm s m args below meth c dC dI A a0 n0 sV nL mc ms Zf (pc + 3) L st S I J (up2 r q d (some x)) cu su) : XW p l e Rm s m args below meth c dC dI A a0 n0 sV nL mc ms Zf pc L (.ref x :: .ref q :: st) S I J r cu su := by
  have h1 := (xcls_one hb hk).2.2.1
  rw [hk0] at h1
  refine xs_put F hb hk hl hf hd hS (fun ad => ?_) (fun ad => ?_) (fun ad => ?_) (fun ad j hj => ?_) (fun _ _ => rfl) (fun _ _ => rfl) (fun p hp => up2_ne hp) (fun hv hh k' v' hk' => ?_) k
  · cases hx : xty b d <;> rw [hx] at h1 <;> first | rfl | (simp [xkof] at h1)
  · cases hx : xty b d <;> rw [hx] at h1 <;> first | rfl | (simp [xkof] at h1)
  · unfold xfld; rw [hk0]; show va_rf ((up2 r q d (some x) q d).map ad) = _; rw [up2_at]; rfl
  · exact xfld_ne rfl rfl (up2_j hj)
  · by_cases e : k' = d
    · subst e
      rw [up2_at] at hk'
      cases hk'
      exact hv
    · rw [up2_j e] at hk'
      exact hh k' v' hk'
/-! arrays -/
theorem xs_alen (F : XFx p s m meth c args Rm cc own nL ini law sc mc ms A sV) {q t n : Nat} (hS : S[q]? = some (t, n)) (ht : 100 ≤ t) (hd : decode cc pc = .ok (.arraylength, 1))
    (k : XW p l e Rm s m args below meth c dC dI A a0 n0 sV nL mc ms Zf (pc + 1) L (.int (nI n) :: st) S I J r cu su) : XW p l e Rm s m args below meth c dC dI A a0 n0 sV nL mc ms Zf pc L (.ref q :: st) S I J r cu su := by
  intro ls H locs ws tys h
  obtain ⟨cA, g1, g2⟩ := h.2.1.2.2.2.2.at hS
  obtain ⟨t0, g2⟩ := g2 ht
  have e1 : xcell (xadr ws) I J r cA t n q = .inl (cA, xarr (xadr ws) I J r t n q) := if_neg (by omega)
  rw [e1] at g1
  have e2 : (xarr (xadr ws) I J r t n q).1 = n := by unfold xarr; split <;> rfl
  exact va_alen F.1 F.2.1 h.2.1.1 h.2.1.2.1 q t0 g1 g2 (by rw [e2]; rfl) hd (k ls H locs ws tys (h.push (ok_cons trivial (ok_tl h.2.2.2.1))))
theorem xs_iald (F : XFx p s m meth c args Rm cc own nL ini law sc mc ms A sV) {q n : Nat} {i : Int32} (hS : S[q]? = some (100, n)) (hin : vp_in i n) (hd : decode cc pc = .ok (.iaload, 1))
    (k : XW p l e Rm s m args below meth c dC dI A a0 n0 sV nL mc ms Zf (pc + 1) L (.int (I q i.toNatClampNeg) :: st) S I J r cu su) : XW p l e Rm s m args below meth c dC dI A a0 n0 sV nL mc ms Zf pc L (.int i :: .ref q :: st) S I J r cu su := by
  intro ls H locs ws tys h
  obtain ⟨cA, g1, g2⟩ := h.2.1.2.2.2.2.at hS
  obtain ⟨t0, g2⟩ := g2 (by omega)
  exact va_iald F.1 F.2.1 h.2.1.1 h.2.1.2.1 q t0 g1 g2 hin hd (k ls H locs ws tys (h.push (ok_cons trivial (ok_tl (ok_tl h.2.2.2.1)))))
theorem xs_bald (F : XFx p s m meth c args Rm cc own nL ini law sc mc ms A sV) {q n : Nat} {i : Int32} (hS : S[q]? = some (102, n)) (hin : vp_in i n) (hd : decode cc pc = .ok (.baload, 1))
    (k : XW p l e Rm s m args below meth c dC dI A a0 n0 sV nL mc ms Zf (pc + 1) L (.int (I q i.toNatClampNeg) :: st) S I J r cu su) : XW p l e Rm s m args below meth c dC dI A a0 n0 sV nL mc ms Zf pc L (.int i :: .ref q :: st) S I J r cu su := by
  intro ls H locs ws tys h
  obtain ⟨cA, g1, g2⟩ := h.2.1.2.2.2.2.at hS
  obtain ⟨t0, g2⟩ := g2 (by omega)
  exact va_bald F.1 F.2.1 h.2.1.1 h.2.1.2.1 q t0 g1 g2 hin hd (k ls H locs ws tys (h.push (ok_cons trivial (ok_tl (ok_tl h.2.2.2.1)))))
theorem xs_lald (F : XFx p s m meth c args Rm cc own nL ini law sc mc ms A sV) {q n : Nat} {i : Int32} (hS : S[q]? = some (101, n)) (hin : vp_in i n) (hd : decode cc pc = .ok (.laload, 1))
    (k : XW p l e Rm s m args below meth c dC dI A a0 n0 sV nL mc ms Zf (pc + 1) L (.long (J q i.toNatClampNeg) :: st) S I J r cu su) : XW p l e Rm s m args below meth c dC dI A a0 n0 sV nL mc ms Zf pc L (.int i :: .ref q :: st) S I J r cu su := by
  intro ls H locs ws tys h
  obtain ⟨cA, g1, g2⟩ := h.2.1.2.2.2.2.at hS
  obtain ⟨t0, g2⟩ := g2 (by omega)
  exact va_lald F.1 F.2.1 h.2.1.1 h.2.1.2.1 q t0 g1 g2 hin hd (k ls H locs ws tys (h.push (ok_cons trivial (ok_tl (ok_tl h.2.2.2.1)))))
theorem xs_aald (F : XFx p s m meth c args Rm cc own nL ini law sc mc ms A sV) {q t n : Nat} {i : Int32} (hS : S[q]? = some (t, n)) (ht : 103 ≤ t) (hin : vp_in i n) (hd : decode cc pc = .ok (.aaload, 1))
    (k : XW p l e Rm s m args below meth c dC dI A a0 n0 sV nL mc ms Zf (pc + 1) L (va_rf (r q i.toNatClampNeg) :: st) S I J r cu su) : XW p l e Rm s m args below meth c dC dI A a0 n0 sV nL mc ms Zf pc L (.int i :: .ref q :: st) S I J r cu su := by
  intro ls H locs ws tys h
  obtain ⟨cA, g1, g2⟩ := h.2.1.2.2.2.2.at hS
  obtain ⟨t0, g2⟩ := g2 (by omega)
  have e1 : xcell (xadr ws) I J r cA t n q = .inl (cA, n, .inr (.inr (.inr (.inr (fun j => (r q j).map (xadr ws)))))) := by
    unfold xcell
    rw [if_neg (by omega)]
    unfold xarr
    split <;> first | omega | rfl
  rw [e1] at g1
  have k1 := k ls H locs ws tys (h.push (ok_cons (ok_rf h.2.1.2.2.2.2 q _) (ok_tl (ok_tl h.2.2.2.1))))
  rw [List.map_cons, xtr_rf] at k1
  have hlt : i.toNatClampNeg < n := Nat.not_le.mp fun q => hin (Or.inr q)
  have hty : refKind (xaty t) = true := by unfold xaty; split <;> first | omega | rfl
  exact W.aald (v := va_rf ((r q i.toNatClampNeg).map (xadr ws))) (ty := xaty t) F.1 F.2.1 (h.2.1.2.1 q _ g1) ((h.2.1.1.2 t0 _ g2).1 n (fun j => va_rf ((r q j).map (xadr ws)))) hty (fun q => by cases q) (by show ¬ (i < 0 ∨ (arrV _ _ _).slots.size ≤ _); rw [arrV_size]; exact hin) (by show (arrV _ _ _).slots[_]? = _; rw [arrV_read _ _ hlt]) rfl rfl hd k1
theorem xs_iast (F : XFx p s m meth c args Rm cc own nL ini law sc mc ms A sV) {q n : Nat} {i x : Int32} (hS : S[q]? = some (100, n)) (hin : vp_in i n) (hd : decode cc pc = .ok (.iastore, 1))
    (k : XW p l e Rm s m args below meth c dC dI A a0 n0 sV nL mc ms Zf (pc + 1) L st S (up2 I q i.toNatClampNeg x) J r cu su) : XW p l e Rm s m args below meth c dC dI A a0 n0 sV nL mc ms Zf pc L (.int x :: .int i :: .ref q :: st) S I J r cu su := by
  intro ls H locs ws tys h
  obtain ⟨cA, g1, g3⟩ := h.2.1.2.2.2.2.at hS
  obtain ⟨t0, g2⟩ := g3 (by omega)
  refine va_iast F.1 F.2.1 h.2.1.1 h.2.1.2.1 h.2.1.2.2.1 h.2.1.2.2.2.1 q t0 g1 g2 hin hd (fun H1 locs1 hP1 hD1 hS1 => ?_)
  obtain ⟨x1, x2⟩ := XH.mem (I' := up2 I q i.toNatClampNeg x) (J' := J) (r' := r) h hS g1 g3 (by rw [upd_up2]; rfl) hP1 hD1 hS1 (fun p hp => up2_ne hp) (fun _ _ => rfl) (fun _ _ => rfl) (fun k v hv => h.2.1.2.2.2.2.2.2.1 q k v hv) (fun e => by omega) (ok_tl (ok_tl (ok_tl h.2.2.2.1)))
  have k1 := k ls H1 locs1 _ tys x1
  rw [x2] at k1
  exact k1
theorem toInt8_idem (x : Int32) : (x.toInt8.toInt32).toInt8.toInt32 = x.toInt8.toInt32 := by simp
theorem xs_bast (F : XFx p s m meth c args Rm cc own nL ini law sc mc ms A sV) {q n : Nat} {i x : Int32} (hS : S[q]? = some (102, n)) (hin : vp_in i n) (hd : decode cc pc = .ok (.bastore, 1))
    (k : XW p l e Rm s m args below meth c dC dI A a0 n0 sV nL mc ms Zf (pc + 1) L st S (up2 I q i.toNatClampNeg x.toInt8.toInt32) J r cu su) : XW p l e Rm s m args below meth c dC dI A a0 n0 sV nL mc ms Zf pc L (.int x :: .int i :: .ref q :: st) S I J r cu su := by
  intro ls H locs ws tys h
  obtain ⟨cA, g1, g3⟩ := h.2.1.2.2.2.2.at hS
  obtain ⟨t0, g2⟩ := g3 (by omega)
  refine va_bast F.1 F.2.1 h.2.1.1 h.2.1.2.1 h.2.1.2.2.1 h.2.1.2.2.2.1 q t0 g1 g2 hin hd (fun H1 locs1 hP1 hD1 hS1 => ?_)
  obtain ⟨x1, x2⟩ := XH.mem (I' := up2 I q i.toNatClampNeg x.toInt8.toInt32) (J' := J) (r' := r) h hS g1 g3 (by rw [upd_up2]; rfl) hP1 hD1 hS1 (fun p hp => up2_ne hp) (fun _ _ => rfl) (fun _ _ => rfl) (fun k v hv => h.2.1.2.2.2.2.2.2.1 q k v hv) (fun _ j => by
    by_cases e : j = i.toNatClampNeg
    · subst e; rw [up2_at]; exact toInt8_idem x
    · rw [up2_j e]; exact h.2.1.2.2.2.2.2.2.2.1 q n j hS) (ok_tl (ok_tl (ok_tl h.2.2.2.1)))
  have k1 := k ls H1 locs1 _ tys x1
  rw [x2] at k1
  exact k1
theorem xs_last (F : XFx p s m meth c args Rm cc own nL ini law sc mc ms A sV) {q n : Nat} {i : Int32} {x : Int64} (hS : S[q]? = some (101, n)) (hin : vp_in i n) (hd : decode cc pc = .ok (.lastore, 1))
    (k : XW p l e Rm s m args below meth c dC dI A a0 n0 sV nL mc ms Zf (pc + 1) L st S I (up2 J q i.toNatClampNeg x) r cu su) : XW p l e Rm s m args below meth c dC dI A a0 n0 sV nL mc ms Zf pc L (.long x :: .int i :: .ref q :: st) S I J r cu su := by
  intro ls H locs ws tys h
  obtain ⟨cA, g1, g3⟩ := h.2.1.2.2.2.2.at hS
  obtain ⟨t0, g2⟩ := g3 (by omega)
  refine va_last F.1 F.2.1 h.2.1.1 h.2.1.2.1 h.2.1.2.2.1 h.2.1.2.2.2.1 q t0 g1 g2 hin hd (fun H1 locs1 hP1 hD1 hS1 => ?_)
  obtain ⟨x1, x2⟩ := XH.mem (I' := I) (J' := up2 J q i.toNatClampNeg x) (r' := r) h hS g1 g3 (by rw [updL_up2]; rfl) hP1 hD1 hS1 (fun _ _ => rfl) (fun p hp => up2_ne hp) (fun _ _ => rfl) (fun k v hv => h.2.1.2.2.2.2.2.2.1 q k v hv) (fun e => by omega) (ok_tl (ok_tl (ok_tl h.2.2.2.1)))
  have k1 := k ls H1 locs1 _ tys x1
  rw [x2] at k1
  exact k1
theorem xs_aast (F : XFx p s m meth c args Rm cc own nL ini law sc mc ms A sV) {q n v : Nat} {i : Int32} (hS : S[q]? = some (103, n)) (hV : S[v]? = some (0, 0)) (hin : vp_in i n) (hd : decode cc pc = .ok (.aastore, 1))
    (k : XW p l e Rm s m args below meth c dC dI A a0 n0 sV nL mc ms Zf (pc + 1) L st S I J (up2 r q i.toNatClampNeg (some v)) cu su) : XW p l e Rm s m args below meth c dC dI A a0 n0 sV nL mc ms Zf pc L (.ref v :: .int i :: .ref q :: st) S I J r cu su := by
  intro ls H locs ws tys h
  obtain ⟨cA, g1, g3⟩ := h.2.1.2.2.2.2.at hS
  obtain ⟨t0, g2⟩ := g3 (by omega)
  obtain ⟨cV, v1, -⟩ := h.2.1.2.2.2.2.at hV
  rw [xcell_obj (by decide)] at v1
  refine va_astq F.1 F.2.1 h.2.1.1 h.2.1.2.1 h.2.1.2.2.1 h.2.1.2.2.2.1 q t0 v 0 (r := (cR0, cT0, 19)) g1 g2 v1 rfl hin hd (fun H1 locs1 hP1 hD1 hS1 => ?_)
  obtain ⟨x1, x2⟩ := XH.mem (I' := I) (J' := J) (r' := up2 r q i.toNatClampNeg (some v)) h hS g1 g3 (by
    show _ = (Sum.inl (cA, n, .inr (.inr (.inr (.inr (fun j => (up2 r q i.toNatClampNeg (some v) q j).map (xadr ws)))))) : va_E)
    have e9 : va_up (fun j => (r q j).map (xadr ws)) i.toNatClampNeg (some (xadr ws v)) = fun j => (up2 r q i.toNatClampNeg (some v) q j).map (xadr ws) := by
      funext j
      rw [up2_same]
      unfold va_up
      by_cases e : j = i.toNatClampNeg
      · simp [e]
      · simp [e]
    rw [e9]) hP1 hD1 hS1 (fun _ _ => rfl) (fun _ _ => rfl) (fun p hp => up2_ne hp) (fun k' v' hv => by
    by_cases e : k' = i.toNatClampNeg
    · subst e
      rw [up2_at] at hv
      cases hv
      exact (List.getElem?_eq_some_iff.mp hV).1
    · rw [up2_j e] at hv
      exact h.2.1.2.2.2.2.2.2.1 q k' v' hv) (fun e => by omega) (ok_tl (ok_tl (ok_tl h.2.2.2.1)))
  have k1 := k ls H1 locs1 _ tys x1
  rw [x2] at k1
  exact k1
end XOps
end
section
section XOps
variable {p : Program} {l : Launch} {e : Env} {Rm : Room} {s : State} {m : MethodId} {args : Array Value} {below : List Frame} {meth : Method} {c : Code} {dC : Nat → ClassId} {dI : Nat → Nat → Nat} {A : Nat → Prop} {a0 : Nat → Nat} {n0 : Nat} {sV : Nat → Value} {nL mc ms : Nat} {Zf : State → Prop} {cc : ByteArray} {own : String} {ini law : Bool} {sc : Nat × (Nat → Int32)} {K : XK} {pc pc' : Nat} {L st : XV} {S : XS} {I : XI} {J : XJ} {r : XR} {cu su : Nat}
/-! making -/
theorem xadr_app {ws : va_W} {x : Nat × va_E} {k : Nat} (h : k < ws.length) : xadr (ws ++ [x]) k = xadr ws k := by simp [xadr, List.getElem?_append_left h]
theorem xadr_appl {ws l : va_W} {k : Nat} (h : k < ws.length) : xadr (ws ++ l) k = xadr ws k := by simp [xadr, List.getElem?_append_left h]
theorem xtr_congr {ad ad' : Nat → Nat} {v : Value} (hv : xok S v) (h : ∀ k, k < S.length → ad' k = ad k) : xtr ad' sV v = xtr ad sV v := by
  cases v with
  | ref k => show Value.ref _ = Value.ref _; rw [h k hv]
  | _ => rfl
theorem map_congr {ad ad' : Nat → Nat} (hst : ∀ v ∈ st, xok S v) (h : ∀ k, k < S.length → ad' k = ad k) : st.map (xtr ad' sV) = st.map (xtr ad sV) := List.map_congr_left fun v hv => xtr_congr (hst v hv) h
theorem XLs.congr {ad ad' : Nat → Nat} {ls : Array Slot} (hL : ∀ v ∈ L, xok S v) (h : ∀ k, k < S.length → ad' k = ad k) (x : XLs ad sV nL ls L) : XLs ad' sV nL ls L :=
  ⟨x.1, x.2.1, fun i v hi hm => by rw [xtr_congr (hL v (List.mem_of_getElem? hi)) h]; exact x.2.2 i v hi hm⟩
/-- an old cell's picture, behind a making: nothing of it has changed -/
theorem xcell_congr {ad ad' : Nat → Nat} {I' : XI} {J' : XJ} {r' : XR} {cA : ClassId} {t n q : Nat} (hI : I' q = I q) (hJ : J' q = J q) (hr : r' q = r q) (hv : ∀ k v : Nat, r q k = some v → v < S.length) (h : ∀ k, k < S.length → ad' k = ad k) : xcell ad' I' J' r' cA t n q = xcell ad I J r cA t n q := by
  have e : ∀ k, (r q k).map ad' = (r q k).map ad := fun k => by
    cases hk : r q k with
    | none => rfl
    | some v => simp [h v (hv k v hk)]
  unfold xcell
  split
  · congr 2
    unfold xobj
    congr 1
    funext k
    unfold xfld
    rw [hI, hJ, hr, e k]
  · congr 2
    unfold xarr
    split <;> simp only [hI, hJ, hr, e]
theorem XRel.make {a0 : Nat → Nat} {n0 : Nat} {tys tys' : List (ClassId × FieldType)} {ws l : va_W} {S1 : XS} {I' : XI} {J' : XJ} {r' : XR} (h : XRel a0 n0 tys ws S I J r) (hl : l.length = S1.length) (ht : ∀ (k : Nat) (x : ClassId × FieldType), tys[k]? = some x → tys'[k]? = some x)
    (hI : ∀ q, q < S.length → I' q = I q) (hJ : ∀ q, q < S.length → J' q = J q) (hr : ∀ q, q < S.length → r' q = r q)
    (hc : ∀ j t n : Nat, S1[j]? = some (t, n) → ∃ cA : ClassId, l[j]? = some (xadr (ws ++ l) (S.length + j), xcell (xadr (ws ++ l)) I' J' r' cA t n (S.length + j)) ∧ (100 ≤ t → ∃ t0 : Nat, tys'[t0]? = some (cA, xaty t)))
    (hv : ∀ q k v : Nat, S.length ≤ q → r' q k = some v → v < (S ++ S1).length) (hb : ∀ j n i : Nat, S1[j]? = some (102, n) → (I' (S.length + j) i).toInt8.toInt32 = I' (S.length + j) i) : XRel a0 n0 tys' (ws ++ l) (S ++ S1) I' J' r' := by
  obtain ⟨h1, h2, h3, h4, h5, h6⟩ := h
  have had : ∀ k, k < S.length → xadr (ws ++ l) k = xadr ws k := fun k hk => xadr_appl (by omega)
  refine ⟨by simp [h1, hl], fun q t n hq => ?_, fun q k v hq => ?_, fun q n j hq => ?_, by simp; omega, fun k hk => by rw [had k (by omega)]; exact h6 k hk⟩
  · by_cases e : q < S.length
    · rw [List.getElem?_append_left e] at hq
      obtain ⟨cA, g1, g2⟩ := h2 q t n hq
      refine ⟨cA, ?_, fun h => ?_⟩
      · rw [List.getElem?_append_left (by omega), g1, had q e, xcell_congr (S := S) (hI q e) (hJ q e) (hr q e) (fun k v hv => h3 q k v hv) had]
      · obtain ⟨t0, g3⟩ := g2 h
        exact ⟨t0, ht _ _ g3⟩
    · have e2 : S.length ≤ q := by omega
      rw [List.getElem?_append_right e2] at hq
      obtain ⟨cA, g1, g2⟩ := hc _ t n hq
      have e3 : S.length + (q - S.length) = q := by omega
      rw [e3] at g1
      exact ⟨cA, by rw [List.getElem?_append_right (by omega), h1]; exact g1, g2⟩
  · by_cases e : q < S.length
    · rw [hr q e] at hq
      have := h3 q k v hq
      simp; omega
    · exact hv q k v (by omega) hq
  · by_cases e : q < S.length
    · rw [List.getElem?_append_left e] at hq
      rw [hI q e]
      exact h4 q n j hq
    · have e2 : S.length ≤ q := by omega
      rw [List.getElem?_append_right e2] at hq
      have e3 : S.length + (q - S.length) = q := by omega
      have := hb _ n j hq
      rw [e3] at this
      exact this
theorem ok_app {S1 : XS} {u : XV} (h : ∀ v ∈ u, xok S v) : ∀ v ∈ u, xok (S ++ S1) v := fun v hv => xok_mono (by simp) (h v hv)
theorem xnew0 {α : Type} {f : Nat → Nat → α} {z : α} {q n : Nat} (h : q < n) : (fun q k => if q = n then z else f q k : Nat → Nat → α) q = f q := by funext k; simp; omega
/-- one new cell -/
theorem xs_make1 {t n a1 : Nat} {cA : ClassId} {e1 : va_E} {ls : Array Slot} {H H1 : Heap} {locs locs1 : List Loc} {ws : va_W} {tys tys' : List (ClassId × FieldType)} {st' : XV} {cu' su' : Nat} (h : XH dC dI A s a0 n0 sV nL mc ms ls H locs ws tys L st S I J r cu su)
    (ht : ∀ (k : Nat) (x : ClassId × FieldType), tys[k]? = some x → tys'[k]? = some x) (hK : va_K (dC, dI) xcl tys' s) (hP : va_P (dC, dI) xcl (ws ++ [(a1, e1)]) H1) (hD : va_D A (ws ++ [(a1, e1)])) (hS : va_S A s.heap H1 locs1)
    (he : ∀ ad, e1 = xcell ad (fun q k => if q = S.length then 0 else I q k) (fun q k => if q = S.length then 0 else J q k) (fun q k => if q = S.length then none else r q k) cA t n S.length) (hty : 100 ≤ t → ∃ t0 : Nat, tys'[t0]? = some (cA, xaty t)) (hst : ∀ v ∈ st', xok S v) (hcu : cu' ≤ mc) (hsu : su' ≤ ms) :
    XH dC dI A s a0 n0 sV nL mc ms ls H1 locs1 (ws ++ [(a1, e1)]) tys' L (.ref S.length :: st') (S ++ [(t, n)]) (fun q k => if q = S.length then 0 else I q k) (fun q k => if q = S.length then 0 else J q k) (fun q k => if q = S.length then none else r q k) cu' su' ∧ (Value.ref S.length :: st').map (xtr (xadr (ws ++ [(a1, e1)])) sV) = .ref a1 :: st'.map (xtr (xadr ws) sV) := by
  have hlen : ws.length = S.length := h.2.1.2.2.2.2.1
  have had : ∀ k, k < S.length → xadr (ws ++ [(a1, e1)]) k = xadr ws k := fun k hk => xadr_appl (by omega)
  have hnew : xadr (ws ++ [(a1, e1)]) S.length = a1 := by rw [← hlen]; simp [xadr]
  refine ⟨⟨h.1.congr h.2.2.1 had, ⟨hK, hP, hD, hS, ?_⟩, ok_app h.2.2.1, ok_cons (by show S.length < _; simp) (ok_app hst), hcu, hsu⟩, ?_⟩
  · refine h.2.1.2.2.2.2.make (by simp) ht (fun q hq => xnew0 hq) (fun q hq => xnew0 hq) (fun q hq => xnew0 hq) (fun j t' n' hj => ?_) (fun q k v hq hr => ?_) (fun j n' i hj => ?_)
    · cases j with
      | zero =>
        simp at hj
        obtain ⟨rfl, rfl⟩ := hj
        refine ⟨cA, ?_, hty⟩
        show some (a1, e1) = some (xadr (ws ++ [(a1, e1)]) S.length, _)
        rw [hnew]
        exact congrArg (fun z => some (a1, z)) (he (xadr (ws ++ [(a1, e1)])))
      | succ j => simp at hj
    · by_cases e : q = S.length
      · simp [e] at hr
      · simp [e] at hr
        have := h.2.1.2.2.2.2.2.2.1 q k v hr
        simp; omega
    · cases j with
      | zero => simp
      | succ j => simp at hj
  · rw [List.map_cons, map_congr hst had]
    show Value.ref _ :: _ = _
    rw [hnew]
theorem tys_app {tys : List (ClassId × FieldType)} {y : ClassId × FieldType} : ∀ (k : Nat) (x : ClassId × FieldType), tys[k]? = some x → (tys ++ [y])[k]? = some x := fun k x h => by
  rw [List.getElem?_append_left (List.getElem?_eq_some_iff.mp h).1]; exact h
theorem tys_new {tys : List (ClassId × FieldType)} {y : ClassId × FieldType} : (tys ++ [y])[tys.length]? = some y := by simp
def xkdOk (b : Nat) : Bool := (List.range (nfc b)).all fun k => decide (xkof (xty b k) < 3)
theorem xkd_all : ∀ b, b < 11 → xkdOk b = true := by decide +kernel
theorem xkd_ok {b k : Nat} (h : b < 11) (hk : k < nfc b) : xkof (xty b k) < 3 := of_decide_eq_true (List.all_eq_true.mp (xkd_all b h) k (List.mem_range.mpr hk))
theorem xs_new (F : XFx p s m meth c args Rm cc own nL ini law sc mc ms A sV) {a b : Nat} (hb : b < 11) (hcl : Cond.classLink own a (xC b).1 ∈ xW) (hin : Cond.instantiable (xC b).1 (xC b).2.2 ∈ xW) (hini : Cond.initialized (xC b).1 ∈ xW) (hd : decode cc pc = .ok (.new a, 3)) (h1 : cu + 1 ≤ mc) (h2 : su + nfc b ≤ ms)
    (k : XW p l e Rm s m args below meth c dC dI A a0 n0 sV nL mc ms Zf (pc + 3) L (.ref S.length :: st) (S ++ [(b, 0)]) (fun q k => if q = S.length then 0 else I q k) (fun q k => if q = S.length then 0 else J q k) (fun q k => if q = S.length then none else r q k) (cu + 1) (su + nfc b)) : XW p l e Rm s m args below meth c dC dI A a0 n0 sV nL mc ms Zf pc L st S I J r cu su := by
  intro ls H locs ws tys h
  have hF := F
  obtain ⟨hx, hbb, -, hown, hts, -, hA, -, -, -, -, hmc, hms⟩ := hF
  have e0 : ∀ ad, (Sum.inr (b, (List.range (nfc b)).map (fun k => defaultValue (xty b k))) : va_E) = xcell ad (fun q k => if q = S.length then 0 else I q k) (fun q k => if q = S.length then 0 else J q k) (fun q k => if q = S.length then none else r q k) 0 b 0 S.length := by
    intro ad
    rw [xcell_obj hb]
    congr 2
    unfold xobj
    apply List.map_congr_left
    intro k hk
    have h3 := (xcls_one hb (List.mem_range.mp hk)).2.2.1
    unfold xfld
    rw [← h3]
    have hbad : xkof (xty b k) ≠ 9 := by
      have := xkd_ok hb (List.mem_range.mp hk)
      omega
    cases hx : xty b k <;> first | (simp [xkof, defaultValue, va_rf]; done) | (rw [hx] at hbad; exact absurd rfl hbad)
  refine va_new (ci := b) (fs := (List.range (nfc b)).map (fun k => defaultValue (xty b k))) hx hbb hts (xlay_in hb) (xty b) (fun j hj => (xcls_one hb (by rw [xC_n hb] at hj; exact hj)).2.1) hown (hts _ hcl) (hts _ hin) (hts _ hini) h.2.1.1 h.2.1.2.1 h.2.1.2.2.1 h.2.1.2.2.2.1 hA (xC_at hb) (fun j hj => ?_) (by omega) (by rw [xC_n hb]; omega) hd (fun q H1 hP1 hD1 hS1 => ?_)
  · rw [xC_n hb] at hj
    simp [vp_V, List.getD_eq_getElem?_getD, List.getElem?_range hj]
  · obtain ⟨x1, x2⟩ := xs_make1 (st' := st) (cu' := cu + 1) (su' := su + nfc b) h (fun _ _ h => h) h.2.1.1 hP1 hD1 hS1 e0 (fun h => by omega) h.2.2.2.1 h1 h2
    have k1 := k ls H1 locs _ tys x1
    rw [x2] at k1
    rw [xC_n hb]
    exact k1
theorem xs_newa (F : XFx p s m meth c args Rm cc own nL ini law sc mc ms A sV) {b : Nat} {n : Int32} {atype : ArrayType} (hty : newarray.typeOf atype = xaty b) (hb : b = 100 ∨ b = 101 ∨ b = 102) (harr : Cond.arrayClass (newarray.typeOf atype) ∈ xW) (hd : decode cc pc = .ok (.newarray atype, 2)) (hn : 0 ≤ n) (hn4 : n.toNatClampNeg ≤ 4000) (h1 : cu + 1 ≤ mc) (h2 : su + n.toNatClampNeg ≤ ms)
    (k : XW p l e Rm s m args below meth c dC dI A a0 n0 sV nL mc ms Zf (pc + 2) L (.ref S.length :: st) (S ++ [(b, n.toNatClampNeg)]) (fun q k => if q = S.length then 0 else I q k) (fun q k => if q = S.length then 0 else J q k) (fun q k => if q = S.length then none else r q k) (cu + 1) (su + n.toNatClampNeg)) : XW p l e Rm s m args below meth c dC dI A a0 n0 sV nL mc ms Zf pc L (.int n :: st) S I J r cu su := by
  intro ls H locs ws tys h
  have hF := F
  obtain ⟨hx, hbb, -, hown, hts, -, hA, -, -, -, -, hmc, hms⟩ := hF
  have hcb : componentBytes (xaty b) ≤ 8 := by rcases hb with rfl | rfl | rfl <;> decide
  refine va_newa (a0 := xarr (fun _ => 0) (fun q k => if q = S.length then 0 else I q k) (fun q k => if q = S.length then 0 else J q k) (fun q k => if q = S.length then none else r q k) b n.toNatClampNeg S.length) hx hbb (hts _ harr) hty h.2.1.1 h.2.1.2.1 h.2.1.2.2.1 h.2.1.2.2.2.1 hA (fun cA => ?_) (Int32.not_lt.mpr hn) rfl (Nat.le_trans (Nat.mul_le_mul hn4 hcb) (by decide)) (by omega) (by omega) hd (fun q cA H1 hK1 hP1 hD1 hS1 => ?_)
  · rcases hb with rfl | rfl | rfl
    · simp [xarr, vp_cell, xaty, defaultValue]
    · simp [xarr, vp_cell, xaty, defaultValue]
    · simp [xarr, vp_cell, xaty, defaultValue]
  · obtain ⟨x1, x2⟩ := xs_make1 (t := b) (n := n.toNatClampNeg) (cA := cA) (st' := st) (cu' := cu + 1) (su' := su + n.toNatClampNeg) h tys_app hK1 hP1 hD1 hS1 (fun ad => by rcases hb with rfl | rfl | rfl <;> rfl) (fun _ => ⟨_, tys_new⟩) (ok_tl h.2.2.2.1) h1 h2
    have k1 := k ls H1 locs _ _ x1
    rw [x2] at k1
    exact k1
theorem xs_anewa (F : XFx p s m meth c args Rm cc own nL ini law sc mc ms A sV) {a : Nat} {n : Int32} (hcl : Cond.classLink own a "FreckleChart$Coast" ∈ xW) (hd : decode cc pc = .ok (.anewarray a, 3)) (hn : 0 ≤ n) (hn4 : n.toNatClampNeg ≤ 4000) (h1 : cu + 1 ≤ mc) (h2 : su + n.toNatClampNeg ≤ ms)
    (k : XW p l e Rm s m args below meth c dC dI A a0 n0 sV nL mc ms Zf (pc + 3) L (.ref S.length :: st) (S ++ [(103, n.toNatClampNeg)]) (fun q k => if q = S.length then 0 else I q k) (fun q k => if q = S.length then 0 else J q k) (fun q k => if q = S.length then none else r q k) (cu + 1) (su + n.toNatClampNeg)) : XW p l e Rm s m args below meth c dC dI A a0 n0 sV nL mc ms Zf pc L (.int n :: st) S I J r cu su := by
  intro ls H locs ws tys h
  have hF := F
  obtain ⟨hx, hbb, -, hown, hts, -, hA, -, -, -, -, hmc, hms⟩ := hF
  refine va_newq hx hbb hown (hts _ hcl) F.2.2.2.2.2.2.2.1.2.2.2.2.1 h.2.1.1 h.2.1.2.1 h.2.1.2.2.1 h.2.1.2.2.2.1 hA (Int32.not_lt.mpr hn) rfl (by omega) (by omega) (by omega) hd (fun q cA H1 hK1 hP1 hD1 hS1 => ?_)
  obtain ⟨x1, x2⟩ := xs_make1 (t := 103) (n := n.toNatClampNeg) (cA := cA) (st' := st) (cu' := cu + 1) (su' := su + n.toNatClampNeg) h tys_app hK1 hP1 hD1 hS1 (fun ad => by
    show _ = (Sum.inl (cA, n.toNatClampNeg, .inr (.inr (.inr (.inr (fun j => ((if S.length = S.length then none else r S.length j) : Option Nat).map ad))))) : va_E)
    simp) (fun _ => ⟨_, tys_new⟩) (ok_tl h.2.2.2.1) h1 h2
  have k1 := k ls H1 locs _ _ x1
  rw [x2] at k1
  exact k1
theorem xs_objInit (F : XFx p s m meth c args Rm cc own nL ini law sc mc ms A sV) {a q : Nat} (hl : Cond.methodLink own a Lib.objectInit ∈ xW) (hi : Cond.instanceMethod Lib.objectInit ∈ xW) (hc : Cond.code Lib.objectInit ⟨#[0xb1]⟩ 1 none ∈ xW) (hd : decode cc pc = .ok (.invokespecial a, 3)) (hs8 : xsz st ≤ 8)
    (k : XW p l e Rm s m args below meth c dC dI A a0 n0 sV nL mc ms Zf (pc + 3) L st S I J r cu su) : XW p l e Rm s m args below meth c dC dI A a0 n0 sV nL mc ms Zf pc L (.ref q :: st) S I J r cu su := by
  intro ls H locs ws tys h
  have hF := F
  obtain ⟨hx, hbb, hml, hown, hts, -, hA, -, -, hfr, hlo, hmc, hms⟩ := hF
  have h8 := xsz_sum (ad := xadr ws) F.cat st
  have hr9 : 2 * (F0 m pc ls (st.map (xtr (xadr ws) sV))).monitorRoom + ((st.map (xtr (xadr ws) sV)).map fun v => v.category).sum ≤ 8 := lv_room (by omega)
  exact W.objInit hx hbb hown (hts _ hl) (hts _ hi) (hts _ hc) rfl (by rw [hml]; exact h.1.1) rfl hd hfr (Nat.le_trans (Nat.add_le_add_right hr9 12) (by omega)) (k ls H locs ws tys (h.push (ok_tl h.2.2.2.1)))
theorem cp2_self {α : Type} {f : Nat → Nat → α} {q0 sp q1 dp n : Nat} : cp2 f q0 sp q1 dp n q1 = va_cpy (f q0) (f q1) sp dp n := by funext y; simp [cp2, va_cpy]
theorem cp2_ne {α : Type} {f : Nat → Nat → α} {q0 sp q1 dp n p : Nat} (h : p ≠ q1) : cp2 f q0 sp q1 dp n p = f p := by funext y; simp [cp2, h]
theorem fits_byte {x : Int32} (h : x.toInt8.toInt32 = x) : fits .byte (.int x) = true := by
  have h1 : x.toInt = x.toInt8.toInt := by
    conv => lhs; rw [← h]
    exact Int8.toInt_toInt32 _
  have h2 := Int8.le_toInt x.toInt8
  have h3 := Int8.toInt_lt x.toInt8
  simp only [fits, Bool.and_eq_true, decide_eq_true_eq]
  constructor
  · rw [Int32.le_iff_toInt_le]
    have e : (-128 : Int32).toInt = -128 := by decide
    rw [e]; omega
  · rw [Int32.le_iff_toInt_le]
    have e : (127 : Int32).toInt = 127 := by decide
    rw [e]; omega
theorem xs_copy (F : XFx p s m meth c args Rm cc own nL ini law sc mc ms A sV) {a d q0 q1 n0' n1' : Nat} {sp dp n : Int32} (hd3 : d < 3) (hl : Cond.methodLink own a arraycopyName ∈ xW) (hnat : Cond.native arraycopyName ∈ xW) (hst : Cond.static arraycopyName ∈ xW) (hini : Cond.initialized "java/lang/System" ∈ xW) (hd : decode cc pc = .ok (.invokestatic a, 3)) (hs8 : xsz st ≤ 8)
    (h0 : S[q0]? = some (100 + d, n0')) (h1 : S[q1]? = some (100 + d, n1')) (hsp : 0 ≤ sp) (hdp : 0 ≤ dp) (hn : 0 ≤ n) (hb0 : sp.toNatClampNeg + n.toNatClampNeg ≤ n0') (hb1 : dp.toNatClampNeg + n.toNatClampNeg ≤ n1')
    (k : XW p l e Rm s m args below meth c dC dI A a0 n0 sV nL mc ms Zf (pc + 3) L st S (if d = 1 then I else cp2 I q0 sp.toNatClampNeg q1 dp.toNatClampNeg n.toNatClampNeg) (if d = 1 then cp2 J q0 sp.toNatClampNeg q1 dp.toNatClampNeg n.toNatClampNeg else J) r cu su) : XW p l e Rm s m args below meth c dC dI A a0 n0 sV nL mc ms Zf pc L (.int n :: .int dp :: .ref q1 :: .int sp :: .ref q0 :: st) S I J r cu su := by
  intro ls H locs ws tys h
  have hF := F
  obtain ⟨hx, hbb, hml, hown, hts, -, hA, -, -, hfr, hlo, hmc, hms⟩ := hF
  have h8 := xsz_sum (ad := xadr ws) F.cat st
  have hw : ((st.map (xtr (xadr ws) sV)).map fun v => v.category).sum + (nativeFrameWords "java/lang/System" "arraycopy" 5 + 11) ≤ Rm.locals := by
    have e9 : nativeFrameWords "java/lang/System" "arraycopy" 5 ≤ 21 := by decide
    omega
  have hR := h.2.1.2.2.2.2
  obtain ⟨c0, g0, f0⟩ := hR.at h0
  obtain ⟨t0, f0⟩ := f0 (by omega)
  obtain ⟨c1, g1, f1⟩ := hR.at h1
  have f1' := f1
  obtain ⟨t1, f1⟩ := f1 (by omega)
  have hst5 := ok_tl (ok_tl (ok_tl (ok_tl (ok_tl h.2.2.2.1))))
  rcases (show d = 0 ∨ d = 1 ∨ d = 2 by omega) with rfl | rfl | rfl
  · refine va_copyi (ty := .int) hx hbb (by rw [hml]; exact h.1.1.symm) hown (hts _ hl) (hts _ hnat) (hts _ hst) (hts _ hini) h.2.1.1 h.2.1.2.1 h.2.1.2.2.1 h.2.1.2.2.2.1 q0 q1 t0 t1 g0 g1 f0 f1 rfl (Int32.not_lt.mpr hsp) (Int32.not_lt.mpr hdp) (Int32.not_lt.mpr hn) hb0 hb1 (fun i _ => rfl) hfr hw hd (fun H1 locs1 hP1 hD1 hS1 => ?_)
    obtain ⟨x1, x2⟩ := XH.mem (I' := cp2 I q0 sp.toNatClampNeg q1 dp.toNatClampNeg n.toNatClampNeg) (J' := J) (r' := r) h h1 g1 f1' (by show _ = (Sum.inl (c1, n1', .inl (cp2 I q0 _ q1 _ _ q1)) : va_E); rw [cp2_self]) hP1 hD1 hS1 (fun p hp => cp2_ne hp) (fun _ _ => rfl) (fun _ _ => rfl) (fun k v hv => hR.2.2.1 q1 k v hv) (fun e => by omega) hst5
    have k1 := k ls H1 locs1 _ tys x1
    rw [x2] at k1
    exact k1
  · refine va_copyl (ty := .long) hx hbb (by rw [hml]; exact h.1.1.symm) hown (hts _ hl) (hts _ hnat) (hts _ hst) (hts _ hini) h.2.1.1 h.2.1.2.1 h.2.1.2.2.1 h.2.1.2.2.2.1 q0 q1 t0 t1 g0 g1 f0 f1 rfl (Int32.not_lt.mpr hsp) (Int32.not_lt.mpr hdp) (Int32.not_lt.mpr hn) hb0 hb1 (fun i _ => rfl) hfr hw hd (fun H1 locs1 hP1 hD1 hS1 => ?_)
    obtain ⟨x1, x2⟩ := XH.mem (I' := I) (J' := cp2 J q0 sp.toNatClampNeg q1 dp.toNatClampNeg n.toNatClampNeg) (r' := r) h h1 g1 f1' (by show _ = (Sum.inl (c1, n1', .inr (.inl (cp2 J q0 _ q1 _ _ q1))) : va_E); rw [cp2_self]) hP1 hD1 hS1 (fun _ _ => rfl) (fun p hp => cp2_ne hp) (fun _ _ => rfl) (fun k v hv => hR.2.2.1 q1 k v hv) (fun e => by omega) hst5
    have k1 := k ls H1 locs1 _ tys x1
    rw [x2] at k1
    exact k1
  · refine va_copyi (ty := .byte) hx hbb (by rw [hml]; exact h.1.1.symm) hown (hts _ hl) (hts _ hnat) (hts _ hst) (hts _ hini) h.2.1.1 h.2.1.2.1 h.2.1.2.2.1 h.2.1.2.2.2.1 q0 q1 t0 t1 g0 g1 f0 f1 rfl (Int32.not_lt.mpr hsp) (Int32.not_lt.mpr hdp) (Int32.not_lt.mpr hn) hb0 hb1 (fun i _ => fits_byte (hR.2.2.2.1 q0 n0' _ h0)) hfr hw hd (fun H1 locs1 hP1 hD1 hS1 => ?_)
    obtain ⟨x1, x2⟩ := XH.mem (I' := cp2 I q0 sp.toNatClampNeg q1 dp.toNatClampNeg n.toNatClampNeg) (J' := J) (r' := r) h h1 g1 f1' (by show _ = (Sum.inl (c1, n1', .inl (cp2 I q0 _ q1 _ _ q1)) : va_E); rw [cp2_self]) hP1 hD1 hS1 (fun p hp => cp2_ne hp) (fun _ _ => rfl) (fun _ _ => rfl) (fun k v hv => hR.2.2.1 q1 k v hv) (fun _ j => by
      rw [cp2_self]
      unfold va_cpy
      split
      · exact hR.2.2.2.1 q0 n0' _ h0
      · exact hR.2.2.2.1 q1 n1' _ h1) hst5
    have k1 := k ls H1 locs1 _ tys x1
    rw [x2] at k1
    exact k1
end XOps
end
section
section XOps
variable {p : Program} {l : Launch} {e : Env} {Rm : Room} {s : State} {m : MethodId} {args : Array Value} {below : List Frame} {meth : Method} {c : Code} {dC : Nat → ClassId} {dI : Nat → Nat → Nat} {A : Nat → Prop} {a0 : Nat → Nat} {n0 : Nat} {sV : Nat → Value} {nL mc ms : Nat} {Zf : State → Prop} {cc : ByteArray} {own : String} {ini law : Bool} {sc : Nat × (Nat → Int32)} {K : XK} {pc pc' : Nat} {L st : XV} {S : XS} {I : XI} {J : XJ} {r : XR} {cu su : Nat}
/-! new long[4][60] -/
theorem xs_mna (F : XFx p s m meth c args Rm cc own nL ini law sc mc ms A sV) {a q0 n1 : Nat} (hcl : Cond.classLink own a ("[" ++ (FieldType.array .long).toString) ∈ xW) (harr : Cond.arrayClass .long ∈ xW) (hd : decode cc pc = .ok (.multianewarray a 2, 4)) (h0 : S[q0]? = some (101, n1)) (hc1 : cu + 5 ≤ mc) (hc2 : su + 244 ≤ ms)
    (k : XW p l e Rm s m args below meth c dC dI A a0 n0 sV nL mc ms Zf (pc + 4) L (.ref S.length :: st) (S ++ [(104, 4), (101, 60), (101, 60), (101, 60), (101, 60)]) (fun q k => if S.length ≤ q then 0 else I q k) (fun q k => if S.length ≤ q then 0 else J q k) (fun q k => if q = S.length then (if k < 4 then some (S.length + 1 + k) else none) else if S.length < q then none else r q k) (cu + 5) (su + 244)) : XW p l e Rm s m args below meth c dC dI A a0 n0 sV nL mc ms Zf pc L (.int 60 :: .int 4 :: st) S I J r cu su := by
  intro ls H locs ws tys h
  have hF := F
  obtain ⟨hx, hbb, -, hown, hts, -, hA, -, -, -, -, hmc, hms⟩ := hF
  obtain ⟨cy, g0, f0⟩ := h.2.1.2.2.2.2.at h0
  obtain ⟨t0, f0⟩ := f0 (by omega)
  have hcy : s.vm.findClass (FieldType.array .long).toString = some cy := (h.2.1.1.2 t0 _ f0).2
  have e0 : ws ++ va_pl [] (fun _ => (Sum.inr (0, []) : va_E)) = ws := by simp [va_pl]
  refine va_mna (X := ws) (L := []) (f := fun _ => (Sum.inr (0, []) : va_E)) (ty := .long) (N' := 4) (K' := 60) (z := (60, .inr (.inl (fun _ => 0)))) hx hbb hown (hts _ hcl) F.2.2.2.2.2.2.2.1.2.2.2.2.2.1 (hts _ harr) hcy h.2.1.1 (by rw [e0]; exact h.2.1.2.1) (by rw [e0]; exact h.2.1.2.2.1) h.2.1.2.2.2.1 hA (by decide) (by decide) (by decide) (by decide) (by decide) (by decide) (by decide) rfl rfl (by omega) (by omega) (fun c => by
    simp only [Jvm.Free.Multi.innerC, vp_cell, arrV, defaultValue]
    congr 1) hd (fun q rr cA H1 hinj hnot hK1 hP1 hD1 hS1 => ?_)
  have el : va_pl ([] ++ (List.range 4).map rr) (vr_up (fun _ => (Sum.inr (0, []) : va_E)) ((List.range 4).map rr) (.inl (cy, (60, .inr (.inl (fun _ => 0)))))) = [(rr 0, .inl (cy, 60, .inr (.inl (fun _ => 0)))), (rr 1, .inl (cy, 60, .inr (.inl (fun _ => 0)))), (rr 2, .inl (cy, 60, .inr (.inl (fun _ => 0)))), (rr 3, .inl (cy, 60, .inr (.inl (fun _ => 0))))] := by
    have e4 : (List.range 4).map rr = [rr 0, rr 1, rr 2, rr 3] := rfl
    rw [e4]
    simp [va_pl, vr_up]
  rw [el, List.append_assoc] at hP1 hD1
  generalize hl : ([(q, .inl (cA, 4, .inr (.inr (.inr (.inr (fun i => if i < 4 then some (rr i) else none))))))] ++ [(rr 0, .inl (cy, 60, .inr (.inl (fun _ => 0)))), (rr 1, .inl (cy, 60, .inr (.inl (fun _ => 0)))), (rr 2, .inl (cy, 60, .inr (.inl (fun _ => 0)))), (rr 3, .inl (cy, 60, .inr (.inl (fun _ => 0))))] : va_W) = l5 at hP1 hD1
  have hlen : ws.length = S.length := h.2.1.2.2.2.2.1
  have had : ∀ k, k < S.length → xadr (ws ++ l5) k = xadr ws k := fun k hk => xadr_appl (by omega)
  have hat : ∀ j x, l5[j]? = some x → xadr (ws ++ l5) (S.length + j) = x.1 := fun j x hj => by
    apply xadr_of
    rw [← hlen, List.getElem?_append_right (by omega)]
    simpa using hj
  have a0' : xadr (ws ++ l5) S.length = q := hat 0 _ (by rw [← hl]; rfl)
  have a1 : xadr (ws ++ l5) (S.length + 1) = rr 0 := hat 1 _ (by rw [← hl]; rfl)
  have a2 : xadr (ws ++ l5) (S.length + 2) = rr 1 := hat 2 _ (by rw [← hl]; rfl)
  have a3 : xadr (ws ++ l5) (S.length + 3) = rr 2 := hat 3 _ (by rw [← hl]; rfl)
  have a4 : xadr (ws ++ l5) (S.length + 4) = rr 3 := hat 4 _ (by rw [← hl]; rfl)
  have hst := ok_tl (ok_tl h.2.2.2.1)
  have inner : ∀ j, 1 ≤ j → (Sum.inl (cy, 60, .inr (.inl (fun _ => 0))) : va_E) = xcell (xadr (ws ++ l5)) (fun q k => if S.length ≤ q then 0 else I q k) (fun q k => if S.length ≤ q then 0 else J q k) (fun q k => if q = S.length then (if k < 4 then some (S.length + 1 + k) else none) else if S.length < q then none else r q k) cy 101 60 (S.length + j) := fun j hj => by
    show _ = (Sum.inl (cy, 60, .inr (.inl (fun k => if S.length ≤ S.length + j then (0 : Int64) else J (S.length + j) k))) : va_E)
    simp
  have outer : (Sum.inl (cA, 4, .inr (.inr (.inr (.inr (fun i => if i < 4 then some (rr i) else none))))) : va_E) = xcell (xadr (ws ++ l5)) (fun q k => if S.length ≤ q then 0 else I q k) (fun q k => if S.length ≤ q then 0 else J q k) (fun q k => if q = S.length then (if k < 4 then some (S.length + 1 + k) else none) else if S.length < q then none else r q k) cA 104 4 (S.length + 0) := by
    show _ = (Sum.inl (cA, 4, .inr (.inr (.inr (.inr (fun k => ((if S.length + 0 = S.length then (if k < 4 then some (S.length + 1 + k) else none) else if S.length < S.length + 0 then none else r (S.length + 0) k) : Option Nat).map (xadr (ws ++ l5))))))) : va_E)
    have e9 : ∀ k, (if k < 4 then some (rr k) else none) = ((if S.length + 0 = S.length then (if k < 4 then some (S.length + 1 + k) else none) else if S.length < S.length + 0 then none else r (S.length + 0) k) : Option Nat).map (xadr (ws ++ l5)) := fun k => by
      rw [if_pos (Nat.add_zero _)]
      by_cases hk : k < 4
      · rw [if_pos hk, if_pos hk]
        rcases (show k = 0 ∨ k = 1 ∨ k = 2 ∨ k = 3 by omega) with rfl | rfl | rfl | rfl
        · rw [Option.map_some, Nat.add_zero, a1]
        · rw [Option.map_some, Nat.add_assoc, a2]
        · rw [Option.map_some, Nat.add_assoc, a3]
        · rw [Option.map_some, Nat.add_assoc, a4]
      · rw [if_neg hk, if_neg hk]; rfl
    rw [funext e9]
  have hX : XRel a0 n0 (tys ++ [(cA, .array .long)]) (ws ++ l5) (S ++ [(104, 4), (101, 60), (101, 60), (101, 60), (101, 60)]) (fun q k => if S.length ≤ q then 0 else I q k) (fun q k => if S.length ≤ q then 0 else J q k) (fun q k => if q = S.length then (if k < 4 then some (S.length + 1 + k) else none) else if S.length < q then none else r q k) := by
    refine h.2.1.2.2.2.2.make (by rw [← hl]; rfl) tys_app (fun q hq => by funext k; show (if S.length ≤ q then (0 : Int32) else I q k) = I q k; rw [if_neg (by omega)]) (fun q hq => by funext k; show (if S.length ≤ q then (0 : Int64) else J q k) = J q k; rw [if_neg (by omega)]) (fun q hq => by funext k; show (if q = S.length then _ else if S.length < q then none else r q k) = r q k; rw [if_neg (by omega), if_neg (by omega)]) (fun j t' n' hj => ?_) (fun q k v hq hr => ?_) (fun j n' i hj => by
      show ((if S.length ≤ S.length + j then (0 : Int32) else _) : Int32).toInt8.toInt32 = (if S.length ≤ S.length + j then (0 : Int32) else _)
      rw [if_pos (by omega)]; rfl)
    · have inn : ∀ j x, l5[j]? = some (x, .inl (cy, 60, .inr (.inl (fun _ => 0)))) → 1 ≤ j → ∃ cA' : ClassId, l5[j]? = some (xadr (ws ++ l5) (S.length + j), xcell (xadr (ws ++ l5)) (fun q k => if S.length ≤ q then 0 else I q k) (fun q k => if S.length ≤ q then 0 else J q k) (fun q k => if q = S.length then (if k < 4 then some (S.length + 1 + k) else none) else if S.length < q then none else r q k) cA' 101 60 (S.length + j)) ∧ (100 ≤ 101 → ∃ t0 : Nat, (tys ++ [(cA, FieldType.array .long)])[t0]? = some (cA', xaty 101)) := fun j x hj h1 =>
        ⟨cy, by rw [hj, hat j _ hj]; exact congrArg (fun z => some (x, z)) (inner j h1), fun _ => ⟨t0, tys_app _ _ f0⟩⟩
      match j, hj with
      | 0, hj =>
        cases hj
        have h5 : l5[0]? = some (q, .inl (cA, 4, .inr (.inr (.inr (.inr (fun i => if i < 4 then some (rr i) else none)))))) := by rw [← hl]; rfl
        exact ⟨cA, by rw [h5, hat 0 _ h5]; exact congrArg (fun z => some (q, z)) outer, fun _ => ⟨_, tys_new⟩⟩
      | 1, hj => cases hj; exact inn 1 (rr 0) (by rw [← hl]; rfl) (by omega)
      | 2, hj => cases hj; exact inn 2 (rr 1) (by rw [← hl]; rfl) (by omega)
      | 3, hj => cases hj; exact inn 3 (rr 2) (by rw [← hl]; rfl) (by omega)
      | 4, hj => cases hj; exact inn 4 (rr 3) (by rw [← hl]; rfl) (by omega)
      | j + 5, hj => cases hj
    · by_cases e : q = S.length
      · rw [if_pos e] at hr
        split at hr
        · cases hr; simp; omega
        · cases hr
      · rw [if_neg e, if_pos (by omega)] at hr
        cases hr
  have k1 := k ls H1 locs (ws ++ l5) (tys ++ [(cA, .array .long)]) ⟨h.1.congr h.2.2.1 had, ⟨hK1, hP1, hD1, hS1, hX⟩, ok_app h.2.2.1, ok_cons (by show S.length < _; simp) (ok_app hst), hc1, hc2⟩
  have e5 : (Value.ref S.length :: st).map (xtr (xadr (ws ++ l5)) sV) = .ref q :: st.map (xtr (xadr ws) sV) := by
    rw [List.map_cons, map_congr hst had]
    show Value.ref _ :: _ = _
    rw [a0']
  rw [e5] at k1
  exact k1
/-! strings, statics, the script -/
theorem xs_strV (F : XFx p s m meth c args Rm cc own nL ini law sc mc ms A sV) {a i : Nat} (hi : i < 29) (hl : Cond.fieldLink own a "java/lang/String" "value" "[B" ∈ xW) (hd : decode cc pc = .ok (.getfield a, 3))
    (k : XW p l e Rm s m args below meth c dC dI A a0 n0 sV nL mc ms Zf (pc + 3) L (.retAddr (1000 + i) :: st) S I J r cu su) : XW p l e Rm s m args below meth c dC dI A a0 n0 sV nL mc ms Zf pc L (.retAddr i :: st) S I J r cu su := by
  intro ls H locs ws tys h
  have k1 := k ls H locs ws tys (h.push (ok_cons trivial (ok_tl h.2.2.2.1)))
  have hF := F
  obtain ⟨hx, hbb, -, hown, hts, -, hA, ⟨⟨adK, adV, hE, h9⟩, -⟩, -⟩ := hF
  obtain ⟨-, e1, e2⟩ := h9 i hi
  show W p l e Rm s m args below meth c H locs cu su Zf (F0 m pc ls (sV i :: st.map (xtr (xadr ws) sV)))
  have k2 : W p l e Rm s m args below meth c H locs cu su Zf (F0 m (pc + 3) ls (sV (1000 + i) :: st.map (xtr (xadr ws) sV))) := k1
  rw [e2] at k2
  rw [e1]
  exact vk_getf hx hbb (hE.1 i hi).2.2.1 h.2.1.2.2.2.1 hown (hts _ hl) (fun _ h => h) hd k2
theorem xs_strC (F : XFx p s m meth c args Rm cc own nL ini law sc mc ms A sV) {a i : Nat} (hi : i < 29) (hl : Cond.fieldLink own a "java/lang/String" "coder" "B" ∈ xW) (hd : decode cc pc = .ok (.getfield a, 3))
    (k : XW p l e Rm s m args below meth c dC dI A a0 n0 sV nL mc ms Zf (pc + 3) L (.int 0 :: st) S I J r cu su) : XW p l e Rm s m args below meth c dC dI A a0 n0 sV nL mc ms Zf pc L (.retAddr i :: st) S I J r cu su := by
  intro ls H locs ws tys h
  have k1 := k ls H locs ws tys (h.push (ok_cons trivial (ok_tl h.2.2.2.1)))
  have hF := F
  obtain ⟨hx, hbb, -, hown, hts, -, hA, ⟨⟨adK, adV, hE, h9⟩, -⟩, -⟩ := hF
  obtain ⟨-, e1, e2⟩ := h9 i hi
  show W p l e Rm s m args below meth c H locs cu su Zf (F0 m pc ls (sV i :: st.map (xtr (xadr ws) sV)))
  rw [e1]
  exact vk_getf hx hbb (hE.1 i hi).2.1 h.2.1.2.2.2.1 hown (hts _ hl) (fun _ h => h) hd k1
theorem xlens_at {i : Nat} : xlens.getD i 0 = strLen i := by
  unfold xlens strLen
  simp only [List.getD_eq_getElem?_getD, List.getElem?_map]
  cases xstb[i]? <;> rfl
theorem xs_strL (F : XFx p s m meth c args Rm cc own nL ini law sc mc ms A sV) {i : Nat} (h1 : 1000 ≤ i) (h2 : i < 1029) (hd : decode cc pc = .ok (.arraylength, 1))
    (k : XW p l e Rm s m args below meth c dC dI A a0 n0 sV nL mc ms Zf (pc + 1) L (.int (nI (strLen (i - 1000))) :: st) S I J r cu su) : XW p l e Rm s m args below meth c dC dI A a0 n0 sV nL mc ms Zf pc L (.retAddr i :: st) S I J r cu su := by
  intro ls H locs ws tys h
  have k1 := k ls H locs ws tys (h.push (ok_cons trivial (ok_tl h.2.2.2.1)))
  have hF := F
  obtain ⟨hx, hbb, -, hown, hts, -, hA, ⟨⟨adK, adV, hE, h9⟩, -⟩, -⟩ := hF
  obtain ⟨-, e1, e2⟩ := h9 (i - 1000) (by omega)
  have e3 : 1000 + (i - 1000) = i := by omega
  rw [e3] at e2
  show W p l e Rm s m args below meth c H locs cu su Zf (F0 m pc ls (sV i :: st.map (xtr (xadr ws) sV)))
  rw [e2]
  exact va_tlen hx hbb (hE.1 (i - 1000) (by omega)).2.2.2 h.2.1.2.2.2.1 (by rw [xlens_at]; rfl) hd k1
theorem xbyts_at {i j : Nat} (h : j < strLen i) : ((xbyts.getD i []).getD j 0) = strAt i j := by
  unfold xbyts strAt strLen at *
  simp only [List.getD_eq_getElem?_getD, List.getElem?_map] at *
  cases hx : xstb[i]? with
  | none => rw [hx] at h; simp at h
  | some l => rw [hx] at h; simp at h; simp [h]
theorem xs_strB (F : XFx p s m meth c args Rm cc own nL ini law sc mc ms A sV) {i : Nat} {j : Int32} (h1 : 1000 ≤ i) (h2 : i < 1029) (hj : vp_in j (strLen (i - 1000))) (hd : decode cc pc = .ok (.baload, 1))
    (k : XW p l e Rm s m args below meth c dC dI A a0 n0 sV nL mc ms Zf (pc + 1) L (.int (strAt (i - 1000) j.toNatClampNeg) :: st) S I J r cu su) : XW p l e Rm s m args below meth c dC dI A a0 n0 sV nL mc ms Zf pc L (.int j :: .retAddr i :: st) S I J r cu su := by
  intro ls H locs ws tys h
  have k1 := k ls H locs ws tys (h.push (ok_cons trivial (ok_tl (ok_tl h.2.2.2.1))))
  have hF := F
  obtain ⟨hx, hbb, -, hown, hts, -, hA, ⟨⟨adK, adV, hE, h9⟩, -⟩, -⟩ := hF
  obtain ⟨-, e1, e2⟩ := h9 (i - 1000) (by omega)
  have e3 : 1000 + (i - 1000) = i := by omega
  rw [e3] at e2
  show W p l e Rm s m args below meth c H locs cu su Zf (F0 m pc ls (.int j :: sV i :: st.map (xtr (xadr ws) sV)))
  rw [e2]
  have hlt : j.toNatClampNeg < strLen (i - 1000) := Nat.not_le.mp fun q => hj (Or.inr q)
  exact va_tb hx hbb (hE.1 (i - 1000) (by omega)).2.2.2 h.2.1.2.2.2.1 (by rw [xlens_at]; exact hj) (by show Value.int _ = _; rw [xbyts_at hlt]; rfl) hd k1
theorem xs_getS (F : XFx p s m meth c args Rm cc own nL ini law sc mc ms A sV) {a : Nat} (hl : Cond.fieldLink own a "java/lang/String" "COMPACT_STRINGS" "Z" ∈ xW) (hd : decode cc pc = .ok (.getstatic a, 3))
    (k : XW p l e Rm s m args below meth c dC dI A a0 n0 sV nL mc ms Zf (pc + 3) L (.int 1 :: st) S I J r cu su) : XW p l e Rm s m args below meth c dC dI A a0 n0 sV nL mc ms Zf pc L st S I J r cu su := by
  intro ls H locs ws tys h
  have k1 := k ls H locs ws tys (h.push (ok_cons trivial h.2.2.2.1))
  have hF := F
  obtain ⟨hx, hbb, -, hown, hts, -, hA, ⟨-, hZ, -⟩, -⟩ := hF
  exact va_gets hx hbb hZ h.2.1.2.2.2.1 hown (hts _ hl) (fun _ h => h) hd k1
theorem xs_getP (F : XFx p s m meth c args Rm cc own nL ini law sc mc ms A sV) {a : Nat} (hl : Cond.fieldLink own a "jdk/internal/util/Preconditions" "SIOOBE_FORMATTER" "Ljava/util/function/BiFunction;" ∈ xW) (hd : decode cc pc = .ok (.getstatic a, 3))
    (k : XW p l e Rm s m args below meth c dC dI A a0 n0 sV nL mc ms Zf (pc + 3) L (.retAddr 2000 :: st) S I J r cu su) : XW p l e Rm s m args below meth c dC dI A a0 n0 sV nL mc ms Zf pc L st S I J r cu su := by
  intro ls H locs ws tys h
  have k1 := k ls H locs ws tys (h.push (ok_cons trivial h.2.2.2.1))
  have hF := F
  obtain ⟨hx, hbb, -, hown, hts, -, hA, ⟨-, -, hZ, -⟩, -⟩ := hF
  exact va_gets hx hbb hZ h.2.1.2.2.2.1 hown (hts _ hl) (fun _ h => h) hd k1
theorem xs_slen (F : XFx p s m meth c args Rm cc own nL ini law sc mc ms A sV) (hlaw : law = true) (hd : decode cc pc = .ok (.arraylength, 1))
    (k : XW p l e Rm s m args below meth c dC dI A a0 n0 sV nL mc ms Zf (pc + 1) L (.int (nI sc.1) :: st) S I J r cu su) : XW p l e Rm s m args below meth c dC dI A a0 n0 sV nL mc ms Zf pc L (.retAddr 3000 :: st) S I J r cu su := by
  intro ls H locs ws tys h
  have k1 := k ls H locs ws tys (h.push (ok_cons trivial (ok_tl h.2.2.2.1)))
  have hF := F
  obtain ⟨hx, hbb, -, hown, hts, -, hA, -, hsc, -⟩ := hF
  obtain ⟨b, e1, hX, hbl, hbA⟩ := hsc hlaw
  show W p l e Rm s m args below meth c H locs cu su Zf (F0 m pc ls (sV 3000 :: st.map (xtr (xadr ws) sV)))
  rw [e1]
  exact va_slen hx hbb hX hbl hbA h.2.1.2.2.2.1 hd k1
theorem xs_sld (F : XFx p s m meth c args Rm cc own nL ini law sc mc ms A sV) (hlaw : law = true) {j : Int32} (hj : vp_in j sc.1) (hd : decode cc pc = .ok (.iaload, 1))
    (k : XW p l e Rm s m args below meth c dC dI A a0 n0 sV nL mc ms Zf (pc + 1) L (.int (sc.2 j.toNatClampNeg) :: st) S I J r cu su) : XW p l e Rm s m args below meth c dC dI A a0 n0 sV nL mc ms Zf pc L (.int j :: .retAddr 3000 :: st) S I J r cu su := by
  intro ls H locs ws tys h
  have k1 := k ls H locs ws tys (h.push (ok_cons trivial (ok_tl (ok_tl h.2.2.2.1))))
  have hF := F
  obtain ⟨hx, hbb, -, hown, hts, -, hA, -, hsc, -⟩ := hF
  obtain ⟨b, e1, hX, hbl, hbA⟩ := hsc hlaw
  show W p l e Rm s m args below meth c H locs cu su Zf (F0 m pc ls (.int j :: sV 3000 :: st.map (xtr (xadr ws) sV)))
  rw [e1]
  exact va_sld hx hbb hX hbl hbA h.2.1.2.2.2.1 hj hd k1
/-! switches -/
def swt (x : Int32) (d : Nat) : List (Int32 × Nat) → Nat
  | [] => d
  | (k, t) :: rest => if x = k then t else swt x d rest
theorem xsw_swt {nx : XN} {x : Int32} {d : Nat} : ∀ (cs : List (Int32 × Nat)), xsw nx L st S I J r cu su x d cs → nx (swt x d cs) L st S I J r cu su
  | [], h => h
  | (k, t) :: rest, h => by
    unfold swt
    by_cases e : x = k
    · rw [if_pos e]; exact h.1 e
    · rw [if_neg e]; exact xsw_swt rest (h.2 e)
theorem swt_out {x : Int32} {d : Nat} : ∀ (cs : List (Int32 × Nat)), (∀ c ∈ cs, x ≠ c.1) → swt x d cs = d
  | [], _ => rfl
  | (k, t) :: rest, h => by
    unfold swt
    rw [if_neg (h (k, t) List.mem_cons_self)]
    exact swt_out rest fun c hc => h c (List.mem_cons_of_mem _ hc)
theorem swt_in {x : Int32} {d : Nat} : ∀ (cs : List (Int32 × Nat)) (lo : Int) (j : Nat) (k : Int32) (t : Nat), (∀ (i : Nat) (c : Int32 × Nat), cs[i]? = some c → c.1.toInt = lo + i) → cs[j]? = some (k, t) → x = k → swt x d cs = t
  | [], lo, j, k, t, _, h, _ => by simp at h
  | (k0, t0) :: rest, lo, j, k, t, hk, h, hx => by
    cases j with
    | zero => simp at h; unfold swt; rw [if_pos (by rw [hx, h.1])]; exact h.2
    | succ j =>
      have h' : rest[j]? = some (k, t) := by simpa using h
      have h0 := hk 0 (k0, t0) rfl
      have h1 := hk (j + 1) (k, t) h
      unfold swt
      rw [if_neg (fun q => by rw [← hx, q] at h1; simp only at h0 h1; omega)]
      exact swt_in rest (lo + 1) j k t (fun i c hc => by have := hk (i + 1) c (by simpa using hc); omega) h' hx
theorem xs_tsw (F : XFx p s m meth c args Rm cc own nL ini law sc mc ms A sV) {x : Int32} {cs : List (Int32 × Nat)} {d len : Nat} {df lo hi : Int} {offs : Array Int} (hd : decode cc pc = .ok (.tableswitch df lo hi offs, len)) (h1 : (pc : Int) + df = d) (h2 : hi = lo + cs.length - 1) (h3 : ∀ j, j < cs.length → (cs.getD j (0, 0)).1.toInt = lo + j ∧ ∃ off, offs[j]? = some off ∧ (pc : Int) + off = (cs.getD j (0, 0)).2)
    (k : XW p l e Rm s m args below meth c dC dI A a0 n0 sV nL mc ms Zf (swt x d cs) L st S I J r cu su) : XW p l e Rm s m args below meth c dC dI A a0 n0 sV nL mc ms Zf pc L (.int x :: st) S I J r cu su := by
  intro ls H locs ws tys h
  have k1 := k ls H locs ws tys (h.push (ok_tl h.2.2.2.1))
  have hkk : ∀ (i : Nat) (c : Int32 × Nat), cs[i]? = some c → c.1.toInt = lo + i := fun i c hc => by
    have h4 := (h3 i (List.getElem?_eq_some_iff.mp hc).1).1
    rw [List.getD_eq_getElem?_getD, hc] at h4
    exact h4
  by_cases e : x.toInt < lo ∨ hi < x.toInt
  · have e2 : swt x d cs = d := swt_out cs fun c hc => by
      obtain ⟨i, hi'⟩ := List.getElem?_of_mem hc
      have h4 := hkk i c hi'
      have h5 := (List.getElem?_eq_some_iff.mp hi').1
      intro q
      rw [q] at e
      omega
    rw [e2] at k1
    exact lv_tableOut F.1 F.2.1 hd e h1 k1
  · have hj : (x.toInt - lo).toNat < cs.length := by omega
    obtain ⟨g1, off, g2, g3⟩ := h3 _ hj
    have e3 : cs[(x.toInt - lo).toNat]? = some (cs.getD (x.toInt - lo).toNat (0, 0)) := by
      rw [List.getD_eq_getElem?_getD, List.getElem?_eq_getElem hj]; rfl
    have e2 : swt x d cs = (cs.getD (x.toInt - lo).toNat (0, 0)).2 := swt_in cs lo _ (cs.getD (x.toInt - lo).toNat (0, 0)).1 _ hkk e3 (Int32.toInt_inj.mp (by rw [g1]; omega))
    rw [e2] at k1
    exact lv_tableIn F.1 F.2.1 hd (fun q => e (Or.inl q)) (fun q => e (Or.inr q)) g2 g3 k1
theorem lsw_off {x : Int32} {d pc : Nat} : ∀ cs : List (Int32 × Nat), Op.lookupswitch.offset (cs.map fun c => (c.1.toInt, (c.2 : Int) - pc)) ((d : Int) - pc) x.toInt = (swt x d cs : Int) - pc
  | [] => rfl
  | (k, t) :: rest => by
    by_cases e : x = k
    · subst e
      simp [Op.lookupswitch.offset, swt]
    · rw [List.map_cons, lv_osw e rfl, lsw_off rest, show swt x d ((k, t) :: rest) = if x = k then t else swt x d rest from rfl, if_neg e]
theorem xs_lsw (F : XFx p s m meth c args Rm cc own nL ini law sc mc ms A sV) {x : Int32} {cs : List (Int32 × Nat)} {d len : Nat} {df : Int} {ps : Array (Int × Int)} (hd : decode cc pc = .ok (.lookupswitch df ps, len)) (h1 : df = (d : Int) - pc) (h2 : ps.toList = cs.map fun c => (c.1.toInt, (c.2 : Int) - pc)) (h3 : (ps.toList.zip (ps.toList.drop 1)).all (fun (a, next) => a.1 < next.1) = true)
    (k : XW p l e Rm s m args below meth c dC dI A a0 n0 sV nL mc ms Zf (swt x d cs) L st S I J r cu su) : XW p l e Rm s m args below meth c dC dI A a0 n0 sV nL mc ms Zf pc L (.int x :: st) S I J r cu su := by
  intro ls H locs ws tys h
  have k1 := k ls H locs ws tys (h.push (ok_tl h.2.2.2.1))
  exact lv_lookup (off := (swt x d cs : Int) - pc) F.1 F.2.1 hd h3 (by rw [h2, h1]; exact lsw_off cs) (by omega) k1
end XOps
end
section
section XOps
variable {p : Program} {l : Launch} {e : Env} {Rm : Room} {s : State} {m : MethodId} {args : Array Value} {below : List Frame} {meth : Method} {c : Code} {dC : Nat → ClassId} {dI : Nat → Nat → Nat} {A : Nat → Prop} {a0 : Nat → Nat} {n0 : Nat} {sV : Nat → Value} {nL mc ms : Nat} {Zf : State → Prop} {cc : ByteArray} {own : String} {ini law : Bool} {sc : Nat × (Nat → Int32)} {K : XK} {pc pc' : Nat} {L st : XV} {S : XS} {I : XI} {J : XJ} {r : XR} {cu su : Nat}
def xwk (k : Nat) : List Cond := Cond.code (xm k).1 (xm k).2.1 (xm k).2.2.1 (xm k).2.2.2 :: xW
def xroom (d k : Nat) : Room := { frames := d, cells := mck k, slots := msk k, locals := 40 * d }
abbrev XU : Type := XS × XI × XJ × XR × va_W × List (ClassId × FieldType)
def xpo (Q : XQ) (v : Option Value) (u : XU) : Prop := Q v u.1 u.2.1 u.2.2.1 u.2.2.2.1
def xB1 (dC : Nat → ClassId) (dI : Nat → Nat → Nat) (A : Nat → Prop) (n0 : Nat) (a0 : Nat → Nat) (u : XU) (t : State) : Prop := va_P (dC, dI) xcl u.2.2.2.2.1 t.heap ∧ va_K (dC, dI) xcl u.2.2.2.2.2 t ∧ va_D A u.2.2.2.2.1 ∧ XRel a0 n0 u.2.2.2.2.2 u.2.2.2.2.1 u.1 u.2.1 u.2.2.1 u.2.2.2.1
def xQc (ret : Option FieldType) (Q : XQ) (B : XU → State → Prop) (A : Nat → Prop) : Array Value → State → Outcome → State → Prop := match ret with
  | none => va_Qv (xpo Q none) B A
  | some .long => va_Ql (fun v => xpo Q (some (.long v))) B A
  | some _ => va_Qi (fun v => xpo Q (some (.int v))) B A
def xB0 (dC : Nat → ClassId) (dI : Nat → Nat → Nat) (sV : Nat → Value) (sz : Nat) (ws : va_W) (tys : List (ClassId × FieldType)) (args : XV) (S : XS) (I : XI) (J : XJ) (r : XR) (U : State) : Prop :=
  U.heap.size = sz ∧ va_P (dC, dI) xcl ws U.heap ∧ va_K (dC, dI) xcl tys U ∧ va_D (fun _ => True) ws ∧ XRel (xadr ws) S.length tys ws S I J r ∧ XStr (va_A ws sz) sV U U.heap ∧ ∀ v ∈ args, xok S v
/-- a method's contract, out of what the abstract machine does -/
def XMt (l : Launch) (d : Nat) (dC : Nat → ClassId) (dI : Nat → Nat → Nat) (sV : Nat → Value) (k : Nat) (args : XV) (S : XS) (I : XI) (J : XJ) (r : XR) (Q : XQ) : Prop :=
  ∀ (ws : va_W) (tys : List (ClassId × FieldType)) (sz : Nat), Met l (xm k).1 (xwk k) (xroom d k) (va_Pc (args.map (xtr (xadr ws) sV)) (xB0 dC dI sV sz ws tys args S I J r)) (xQc (xm k).2.2.2 Q (xB1 dC dI (va_A ws sz) S.length (xadr ws)) (va_A ws sz)) (mck k) (msk k) (va_A ws sz)
theorem XStr.calling {A : Nat → Prop} {U : State} {g : JFrame} {mk : MethodId} {a : Array Value} (h : XStr A sV U U.heap) : XStr A sV (U.calling g mk a) (U.calling g mk a).heap := by
  obtain ⟨⟨adK, adV, h1, h2⟩, h3, h4, h5, h6, h7, h8⟩ := h
  exact ⟨⟨adK, adV, h1.moved (u := U) (U := U.calling g mk a) (Vm.Alike.refl U.vm), fun i hi => ⟨fun x hx => vk_R.same (u := U) rfl ((h2 i hi).1 x hx), (h2 i hi).2⟩⟩, va_Z.moved (u := U) (U := U.calling g mk a) (Vm.Alike.refl U.vm) h3, va_Z.moved (u := U) (U := U.calling g mk a) (Vm.Alike.refl U.vm) h4, h5, va_AO.moved (u := U) (U := U.calling g mk a) (Vm.Alike.refl U.vm) h6, va_AOA.moved (u := U) (U := U.calling g mk a) (Vm.Alike.refl U.vm) h7, fun q hq => va_Nw.same (u := U) (U := U.calling g mk a) rfl rfl (h8 q hq)⟩
theorem XStr.at {A B : Nat → Prop} {H : Heap} {locs : List Loc} {U : State} (h : XStr A sV s s.heap) (hS : va_S A s.heap H locs) (hAB : ∀ q, B q → A q) (hU : U.heap = H) (hW : s.WarmedH U.vm) : XStr B sV U U.heap := by
  obtain ⟨⟨adK, adV, h1, h2⟩, h3, h4, h5, h6, h7, h8⟩ := h
  rw [hU]
  exact ⟨⟨adK, adV, ((h1.kept hS.2.1).narrow hAB).moved hW.alike, fun i hi => ⟨fun x hx => vk_R.warm hW ((h2 i hi).1 x hx), (h2 i hi).2⟩⟩, ((h3.kept hS.2.1).narrow hAB).moved hW.alike, ((h4.kept hS.2.1).narrow hAB).moved hW.alike, h5, h6.moved hW.alike, h7.moved hW.alike, fun q hq => va_Nw.warmM hW (h8 q hq)⟩
theorem xB0_blind {vs : List Value} {sz : Nat} {ws : va_W} {tys : List (ClassId × FieldType)} {as : XV} : FrameBlind (va_Pc vs (xB0 dC dI sV sz ws tys as S I J r)) := by
  intro a U g mk ⟨h0, h1, h2, h3, h4, h5, h6, h7⟩
  exact ⟨h0, h1, h2, va_K.moved (u := U) (U := U.calling g mk a) (Vm.Alike.refl U.vm) h3, h4, h5, h6.calling, h7⟩
theorem va_A_sub {H : Heap} {locs : List Loc} {ws : va_W} (hD : va_D A ws) (hS : va_S A s.heap H locs) (hA : ∀ q : Nat, s.heap.size ≤ q → A q) : ∀ q, va_A ws H.size q → A q := by
  intro q h
  rcases h with ⟨k, e, h⟩ | h
  · exact hD.2 k (q, e) h
  · exact hA q (Nat.le_trans hS.1 h)
theorem XRel.base {a0 : Nat → Nat} {n0 : Nat} {tys tys' : List (ClassId × FieldType)} {ws ws' : va_W} {S' : XS} {I' : XI} {J' : XJ} {r' : XR} (h1 : XRel a0 n0 tys ws S I J r) (h2 : XRel (xadr ws) S.length tys' ws' S' I' J' r') : XRel a0 n0 tys' ws' S' I' J' r' :=
  ⟨h2.1, h2.2.1, h2.2.2.1, h2.2.2.2.1, Nat.le_trans h1.2.2.2.2.1 h2.2.2.2.2.1, fun k hk => (h2.2.2.2.2.2 k (Nat.lt_of_lt_of_le hk h1.2.2.2.2.1)).trans (h1.2.2.2.2.2 k hk)⟩
theorem XRel.self {a0 : Nat → Nat} {n0 : Nat} {tys : List (ClassId × FieldType)} {ws : va_W} (h : XRel a0 n0 tys ws S I J r) : XRel (xadr ws) S.length tys ws S I J r := ⟨h.1, h.2.1, h.2.2.1, h.2.2.2.1, Nat.le_refl _, fun _ _ => rfl⟩
/-- the start of a call: what holds there -/
theorem xB0_start (F : XFx p s m meth c args Rm cc own nL ini law sc mc ms A sV) {ls : Array Slot} {H : Heap} {locs : List Loc} {ws : va_W} {tys : List (ClassId × FieldType)} (h : XH dC dI A s a0 n0 sV nL mc ms ls H locs ws tys L st S I J r cu su) {as : XV} (has : ∀ v ∈ as, xok S v) {U : State} (hU : U.heap = H) (hW : s.WarmedH U.vm) : xB0 dC dI sV H.size ws tys as S I J r U := by
  obtain ⟨-, ⟨hK, hP, hD, hS, hX⟩, -⟩ := h
  exact ⟨by rw [hU], by rw [hU]; exact hP, va_K.moved hW.alike hK, hD.weaken (fun _ _ _ _ => trivial), hX.self, F.2.2.2.2.2.2.2.1.at hS (va_A_sub hD hS F.2.2.2.2.2.2.1) hU hW, has⟩
/-- behind a call -/
theorem xs_after (F : XFx p s m meth c args Rm cc own nL ini law sc mc ms A sV) {k : Nat} {rest : XV} {Q' : XQ} (hrest : ∀ v ∈ rest, v ∈ st)
    (hcu : cu + mck k ≤ mc) (hsu : su + msk k ≤ ms)
    (hrun : ∀ (ls : Array Slot) (H : Heap) (locs : List Loc) (ws : va_W) (tys : List (ClassId × FieldType)), XH dC dI A s a0 n0 sV nL mc ms ls H locs ws tys L st S I J r cu su → ∃ a : Array Value, va_Run p l e Rm s m args below meth c H locs cu su (mck k) (msk k) (F0 m pc ls (st.map (xtr (xadr ws) sV))) (rest.map (xtr (xadr ws) sV)) (xQc (xm k).2.2.2 Q' (xB1 dC dI (va_A ws H.size) S.length (xadr ws)) (va_A ws H.size) a) (va_A ws H.size))
    (hK : ∀ (v : Option Value) (S' : XS) (I' : XI) (J' : XJ) (r' : XR), Q' v S' I' J' r' → XW p l e Rm s m args below meth c dC dI A a0 n0 sV nL mc ms Zf (pc + 3) L (v.toList ++ rest) S' I' J' r' (cu + mck k) (su + msk k)) : XW p l e Rm s m args below meth c dC dI A a0 n0 sV nL mc ms Zf pc L st S I J r cu su := by
  intro ls H locs ws tys h
  obtain ⟨a, hr⟩ := hrun ls H locs ws tys h
  obtain ⟨hL, ⟨hKn, hP, hD, hS, hX⟩, hLo, hso, -, -⟩ := h
  have hF := va_A_sub hD hS F.2.2.2.2.2.2.1
  have hro : ∀ v ∈ rest, xok S v := fun v hv => hso v (hrest v hv)
  have go : ∀ (v : Option Value) (hv : ∀ w ∈ v.toList, ∀ (S : XS) (ad ad' : Nat → Nat), xok S w ∧ xtr ad sV w = w) (u : XU) (t : State) (H1 : Heap) (locs1 : List Loc), t.heap = H1 → s.vm.Alike t.vm → xpo Q' v u → xB1 dC dI (va_A ws H.size) S.length (xadr ws) u t → va_S A s.heap H1 locs1 → W p l e Rm s m args below meth c H1 locs1 (cu + mck k) (su + msk k) Zf (F0 m (pc + 3) ls (v.toList ++ rest.map (xtr (xadr ws) sV))) := by
    intro v hv u t H1 locs1 ht hvm hw ⟨hP1, hK1, hD1, hX1⟩ hS1
    rw [ht] at hP1
    have hK1 := va_K.moved hvm.symm hK1
    have had : ∀ k, k < S.length → xadr u.2.2.2.2.1 k = xadr ws k := hX1.2.2.2.2.2
    have hle : S.length ≤ u.1.length := hX1.2.2.2.2.1
    have k1 := hK v u.1 u.2.1 u.2.2.1 u.2.2.2.1 hw ls H1 locs1 u.2.2.2.2.1 u.2.2.2.2.2 ⟨hL.congr hLo had, ⟨hK1, hP1, hD1.weaken (fun _ q _ hq => hF q.1 hq), hS1, hX.base hX1⟩, fun w hw => xok_mono hle (hLo w hw), fun w hw => by
      rcases List.mem_append.mp hw with hw | hw
      · exact (hv w hw u.1 (xadr ws) (xadr ws)).1
      · exact xok_mono hle (hro w hw), hcu, hsu⟩
    have e1 : (v.toList ++ rest).map (xtr (xadr u.2.2.2.2.1) sV) = v.toList ++ rest.map (xtr (xadr ws) sV) := by
      rw [List.map_append, map_congr hro had]
      congr 1
      exact (List.map_congr_left (g := id) fun w hw => (hv w hw u.1 _ (xadr ws)).2).trans (List.map_id _)
    rw [e1] at k1
    exact k1
  cases hret : (xm k).2.2.2 with
  | none =>
    rw [hret] at hr
    exact va_callv (a := a) hr hS (fun q _ hq => hF q hq) hF (fun u t H1 locs1 ht hvm hw hB hz hk hS1 => go none (fun w hw => by cases hw) u t H1 locs1 ht hvm hw hB hS1)
  | some ty =>
    rw [hret] at hr
    by_cases hty : ty = .long
    · subst hty
      exact va_calll (a := a) hr hS (fun q _ hq => hF q hq) hF (fun v u t H1 locs1 ht hvm hw hB hz hk hS1 => go (some (.long v)) (fun w hw S ad ad' => by simp at hw; subst hw; exact ⟨trivial, rfl⟩) u t H1 locs1 ht hvm hw hB hS1)
    · have e : xQc (some ty) Q' (xB1 dC dI (va_A ws H.size) S.length (xadr ws)) (va_A ws H.size) = va_Qi (fun v => xpo Q' (some (.int v))) (xB1 dC dI (va_A ws H.size) S.length (xadr ws)) (va_A ws H.size) := by
        unfold xQc
        cases ty <;> first | rfl | exact absurd rfl hty
      rw [e] at hr
      exact va_calli (a := a) hr hS (fun q _ hq => hF q hq) hF (fun v u t H1 locs1 ht hvm hw hB hz hk hS1 => go (some (.int v)) (fun w hw S ad ad' => by simp at hw; subst hw; exact ⟨trivial, rfl⟩) u t H1 locs1 ht hvm hw hB hS1)
/-! what is asked of a callee -/
def okC (k : Nat) : Bool := match xh k with
  | (_, ii, ix, isel, n, kd) => xmok k && xw ii (.initialized (xm k).1.cls) && decide ((xm k).1.cls ≠ "java/lang/invoke/MethodHandle" ∧ (xm k).1.cls ≠ "java/lang/invoke/VarHandle") && decide ((parseMethodDescriptor (xm k).1.desc).map (fun d => d.parameters.length) = some n) && decide ((xm k).2.2.1 ≤ 21) && (match kd with
    | 0 => xw ix (.instanceMethod (xm k).1) && xw isel (.selects (xm k).1.cls (xm k).1 (xm k).1)
    | 1 => xw ix (.static (xm k).1)
    | _ => xw ix (.instanceMethod (xm k).1) && decide ((xm k).1.name = "<init>") && decide ((xm k).2.2.2 = none))
theorem goodIn_xW {w : Cond} (h : w ∈ xW) : w ∈ xW ∧ ((w.onTables && w.keeps) = true ∨ ∃ ty, w = .arrayClass ty) := ⟨h, good_of_word (List.mem_filter.mp h).2⟩
theorem goodIn_wk {k : Nat} (h : Cond.code (xm k).1 (xm k).2.1 (xm k).2.2.1 (xm k).2.2.2 ∈ xW) : GoodIn xW (xwk k) := fun w hw => by
  rcases List.mem_cons.mp hw with rfl | hw
  · exact goodIn_xW h
  · exact goodIn_xW hw
theorem okC_base {k : Nat} (h : okC k = true) (hts : ∀ w ∈ xW, w.before args s = true) {d0 : Nat} (hfr : d0 + 1 ≤ Rm.frames) (hlo : 40 * (d0 + 1) ≤ Rm.locals) : ((xroom d0 k).cells = mck k ∧ (xroom d0 k).slots = msk k ∧ (xroom d0 k).frames + 1 ≤ Rm.frames ∧ 8 + ((xm k).2.2.1 + 11) + (xroom d0 k).locals ≤ Rm.locals ∧ (∀ w ∈ xwk k, ∀ (a' : Array Value) (U : State), s.WarmedH U.vm → w.before a' U = true) ∧ Cond.code (xm k).1 (xm k).2.1 (xm k).2.2.1 (xm k).2.2.2 ∈ xwk k) ∧
    (Cond.code (xm k).1 (xm k).2.1 (xm k).2.2.1 (xm k).2.2.2).before args s = true ∧ (Cond.initialized (xm k).1.cls).before args s = true ∧ ((xm k).1.cls ≠ "java/lang/invoke/MethodHandle" ∧ (xm k).1.cls ≠ "java/lang/invoke/VarHandle") ∧ (∀ sig, parseMethodDescriptor (xm k).1.desc = some sig → (xh k).2.2.2.2.1 = sig.parameters.length) := by
  unfold okC at h
  have h0 : xmok k = true := by
    simp only [Bool.and_eq_true] at h
    exact h.1.1.1.1.1
  generalize xh k = z at h ⊢
  obtain ⟨ic, ii, ix, isel, n, kd⟩ := z
  simp only [Bool.and_eq_true, decide_eq_true_eq] at h
  obtain ⟨⟨⟨⟨⟨-, h2⟩, h3⟩, h4⟩, h5⟩, -⟩ := h
  have h1 := xm_in h0
  refine ⟨⟨rfl, rfl, hfr, by show 8 + (_ + 11) + 40 * d0 ≤ _; omega, pay_in hts (goodIn_wk h1), List.mem_cons_self⟩, hts _ h1, hts _ (xw_in h2), h3, fun sig hs => ?_⟩
  rw [hs] at h4
  exact (Option.some.inj h4).symm
theorem okC_virt {k : Nat} (h : okC k = true) (hk : (xh k).2.2.2.2.2 = 0) : Cond.instanceMethod (xm k).1 ∈ xW ∧ Cond.selects (xm k).1.cls (xm k).1 (xm k).1 ∈ xW := by
  unfold okC at h
  generalize xh k = z at h hk
  obtain ⟨ic, ii, ix, isel, n, kd⟩ := z
  simp only at hk
  subst hk
  simp only [Bool.and_eq_true] at h
  exact ⟨xw_in h.2.1, xw_in h.2.2⟩
theorem okC_stat {k : Nat} (h : okC k = true) (hk : (xh k).2.2.2.2.2 = 1) : Cond.static (xm k).1 ∈ xW := by
  unfold okC at h
  generalize xh k = z at h hk
  obtain ⟨ic, ii, ix, isel, n, kd⟩ := z
  simp only at hk
  subst hk
  simp only [Bool.and_eq_true] at h
  exact xw_in h.2
theorem okC_init {k : Nat} (h : okC k = true) (hk : (xh k).2.2.2.2.2 = 2) : Cond.instanceMethod (xm k).1 ∈ xW ∧ (xm k).1.name = "<init>" ∧ (xm k).2.2.2 = none := by
  unfold okC at h
  generalize xh k = z at h hk
  obtain ⟨ic, ii, ix, isel, n, kd⟩ := z
  simp only at hk
  subst hk
  simp only [Bool.and_eq_true, decide_eq_true_eq] at h
  exact ⟨xw_in h.2.1.1, h.2.1.2, h.2.2⟩
theorem rev_split {n q : Nat} {v : Value} {As : XV} (h : (st.take n).reverse = v :: As) {f : Value → Value} : st.map f = (As.map f).reverse ++ f v :: (st.drop n).map f := by
  have h1 : st.take n = As.reverse ++ [v] := by
    have h2 := congrArg List.reverse h
    simpa using h2
  have h3 : st = As.reverse ++ v :: st.drop n := by
    conv => lhs; rw [← List.take_append_drop n st, h1]
    simp
  conv => lhs; rw [h3]
  simp
theorem stat_split {n : Nat} {f : Value → Value} : st.map f = ((st.take n).reverse.map f).reverse ++ (st.drop n).map f := by
  rw [← List.map_reverse, List.reverse_reverse, ← List.map_append, List.take_append_drop]
theorem rev_len {n : Nat} {v : Value} {As : XV} (h : (st.take n).reverse = v :: As) (hn : n ≤ st.length) : As.length + 1 = n := by
  have h2 := congrArg List.length h
  simp at h2
  omega
theorem rest_ok {ad : Nat → Nat} (F : XFx p s m meth c args Rm cc own nL ini law sc mc ms A sV) {rest : XV} {ls : Array Slot} {v : List Value} (h8 : xsz rest ≤ 8) : 2 * (F0 m pc ls v).monitorRoom + ((rest.map (xtr ad sV)).map fun v => v.category).sum ≤ 8 := lv_room (by rw [xsz_sum F.cat]; exact h8)
/-- a virtual call of ours -/
theorem xs_callV (F : XFx p s m meth c args Rm cc own nL ini law sc mc ms A sV) {d0 k a n b q : Nat} {As : XV} {Q' : XQ} (hfr : d0 + 1 ≤ Rm.frames) (hlo : 40 * (d0 + 1) ≤ Rm.locals) (hok : okC k = true) (hkd : (xh k).2.2.2.2.2 = 0) (hl : Cond.methodLink own a (xm k).1 ∈ xW) (hb : b < 11) (hbk : (xC b).1 = (xm k).1.cls) (hn : n = (xh k).2.2.2.2.1 + 1) (hnl : n ≤ st.length) (hd : decode cc pc = .ok (.invokevirtual a, 3)) (hs8 : xsz (st.drop n) ≤ 8) (hcu : cu + mck k ≤ mc) (hsu : su + msk k ≤ ms)
    (hA : (st.take n).reverse = .ref q :: As) (hS : S[q]? = some (b, 0)) (hM : XMt l d0 dC dI sV k (st.take n).reverse S I J r Q')
    (hK : ∀ (v : Option Value) (S' : XS) (I' : XI) (J' : XJ) (r' : XR), Q' v S' I' J' r' → XW p l e Rm s m args below meth c dC dI A a0 n0 sV nL mc ms Zf (pc + 3) L (v.toList ++ st.drop n) S' I' J' r' (cu + mck k) (su + msk k)) : XW p l e Rm s m args below meth c dC dI A a0 n0 sV nL mc ms Zf pc L st S I J r cu su := by
  refine xs_after F (fun v hv => List.mem_of_mem_drop hv) hcu hsu (fun ls H locs ws tys h => ?_) hK
  obtain ⟨hb0, hcode, hini, hnm, hpar⟩ := okC_base hok F.2.2.2.2.1 hfr hlo
  obtain ⟨hi, hse⟩ := okC_virt hok hkd
  obtain ⟨cA, g1, -⟩ := h.2.1.2.2.2.2.at hS
  rw [xcell_obj hb] at g1
  have hts := F.2.2.2.2.1
  have hrec := va_recv h.2.1.1 h.2.1.2.1 (xC_at hb) g1
  rw [hA] at hM
  have hM1 := hM ws tys H.size
  have has : ∀ v ∈ (Value.ref q :: As), xok S v := fun v hv => h.2.2.2.1 v (by rw [← hA] at hv; exact List.mem_of_mem_take (List.mem_reverse.mp hv))
  have hlen : As.length + 1 = n := rev_len hA hnl
  refine ⟨_, va_runV (C := (xm k).1.cls) (b := xadr ws q) (As := As.map (xtr (xadr ws) sV)) (rest := (st.drop n).map (xtr (xadr ws) sV)) (Ts := xW) (n := (xh k).2.2.2.2.1) ⟨F.1, F.2.1, F.2.2.1, F.2.2.2.1, hts⟩ hM1 ⟨⟨hb0.1, hb0.2.1, hb0.2.2.1, hb0.2.2.2.1, hb0.2.2.2.2.1, hb0.2.2.2.2.2, hcode, hini, hnm, hpar, hts _ hl⟩, hts _ hi, hts _ hse⟩ ⟨xB0_blind, by rw [← hbk]; exact hrec, fun U hU hW => ⟨rfl, xB0_start F h has hU hW⟩⟩ rfl (by rw [List.length_map]; omega) h.1.1 (rev_split (q := q) hA) (rest_ok F hs8) hd ⟨by have := F.2.2.2.2.2.2.2.2.2.2.2.1; omega, by have := F.2.2.2.2.2.2.2.2.2.2.2.2; omega⟩⟩
theorem xs_callS (F : XFx p s m meth c args Rm cc own nL ini law sc mc ms A sV) {d0 k a n : Nat} {Q' : XQ} (hfr : d0 + 1 ≤ Rm.frames) (hlo : 40 * (d0 + 1) ≤ Rm.locals) (hok : okC k = true) (hkd : (xh k).2.2.2.2.2 = 1) (hl : Cond.methodLink own a (xm k).1 ∈ xW) (hn : n = (xh k).2.2.2.2.1) (hnl : n ≤ st.length) (hd : decode cc pc = .ok (.invokestatic a, 3)) (hs8 : xsz (st.drop n) ≤ 8) (hcu : cu + mck k ≤ mc) (hsu : su + msk k ≤ ms)
    (hM : XMt l d0 dC dI sV k (st.take n).reverse S I J r Q')
    (hK : ∀ (v : Option Value) (S' : XS) (I' : XI) (J' : XJ) (r' : XR), Q' v S' I' J' r' → XW p l e Rm s m args below meth c dC dI A a0 n0 sV nL mc ms Zf (pc + 3) L (v.toList ++ st.drop n) S' I' J' r' (cu + mck k) (su + msk k)) : XW p l e Rm s m args below meth c dC dI A a0 n0 sV nL mc ms Zf pc L st S I J r cu su := by
  refine xs_after F (fun v hv => List.mem_of_mem_drop hv) hcu hsu (fun ls H locs ws tys h => ?_) hK
  obtain ⟨hb0, hcode, hini, hnm, hpar⟩ := okC_base hok F.2.2.2.2.1 hfr hlo
  have hst := okC_stat hok hkd
  have hts := F.2.2.2.2.1
  have hM1 := hM ws tys H.size
  have has : ∀ v ∈ (st.take n).reverse, xok S v := fun v hv => h.2.2.2.1 v (List.mem_of_mem_take (List.mem_reverse.mp hv))
  refine ⟨_, va_runS (As := (st.take n).reverse.map (xtr (xadr ws) sV)) (rest := (st.drop n).map (xtr (xadr ws) sV)) (Ts := xW) (n := (xh k).2.2.2.2.1) ⟨F.1, F.2.1, F.2.2.1, F.2.2.2.1, hts⟩ hM1 ⟨⟨hb0.1, hb0.2.1, hb0.2.2.1, hb0.2.2.2.1, hb0.2.2.2.2.1, hb0.2.2.2.2.2, hcode, hini, hnm, hpar, hts _ hl⟩, hts _ hst⟩ ⟨xB0_blind, fun U hU hW => ⟨rfl, xB0_start F h has hU hW⟩⟩ rfl (by simp; omega) h.1.1 stat_split (rest_ok F hs8) hd ⟨by have := F.2.2.2.2.2.2.2.2.2.2.2.1; omega, by have := F.2.2.2.2.2.2.2.2.2.2.2.2; omega⟩⟩
theorem xs_callI (F : XFx p s m meth c args Rm cc own nL ini law sc mc ms A sV) {d0 k a n q : Nat} {As : XV} {Q' : XQ} (hfr : d0 + 1 ≤ Rm.frames) (hlo : 40 * (d0 + 1) ≤ Rm.locals) (hok : okC k = true) (hkd : (xh k).2.2.2.2.2 = 2) (hl : Cond.methodLink own a (xm k).1 ∈ xW ∨ (own, a, (xm k).1) ∈ xnl) (hn : n = (xh k).2.2.2.2.1 + 1) (hnl : n ≤ st.length) (hd : decode cc pc = .ok (.invokespecial a, 3)) (hs8 : xsz (st.drop n) ≤ 8) (hcu : cu + mck k ≤ mc) (hsu : su + msk k ≤ ms)
    (hA : (st.take n).reverse = .ref q :: As) (hM : XMt l d0 dC dI sV k (st.take n).reverse S I J r Q')
    (hK : ∀ (v : Option Value) (S' : XS) (I' : XI) (J' : XJ) (r' : XR), Q' v S' I' J' r' → XW p l e Rm s m args below meth c dC dI A a0 n0 sV nL mc ms Zf (pc + 3) L (v.toList ++ st.drop n) S' I' J' r' (cu + mck k) (su + msk k)) : XW p l e Rm s m args below meth c dC dI A a0 n0 sV nL mc ms Zf pc L st S I J r cu su := by
  refine xs_after F (fun v hv => List.mem_of_mem_drop hv) hcu hsu (fun ls H locs ws tys h => ?_) hK
  obtain ⟨hb0, hcode, hini, hnm, hpar⟩ := okC_base hok F.2.2.2.2.1 hfr hlo
  obtain ⟨hi, hnam, hret⟩ := okC_init hok hkd
  have hts := F.2.2.2.2.1
  rw [hA] at hM
  have hM1 := hM ws tys H.size
  rw [hret] at hb0 hcode
  have has : ∀ v ∈ (Value.ref q :: As), xok S v := fun v hv => h.2.2.2.1 v (by rw [← hA] at hv; exact List.mem_of_mem_take (List.mem_reverse.mp hv))
  have hlen : As.length + 1 = n := rev_len hA hnl
  rcases hl with hl | hl
  · refine ⟨_, va_runI (b := xadr ws q) (As := As.map (xtr (xadr ws) sV)) (rest := (st.drop n).map (xtr (xadr ws) sV)) (Ts := xW) (n := (xh k).2.2.2.2.1) ⟨F.1, F.2.1, F.2.2.1, F.2.2.2.1, hts⟩ hM1 ⟨⟨hb0.1, hb0.2.1, hb0.2.2.1, hb0.2.2.2.1, hb0.2.2.2.2.1, hb0.2.2.2.2.2, hcode, hini, hnm, hpar, hts _ hl⟩, hnam, hts _ hi⟩ ⟨xB0_blind, fun U hU hW => ⟨rfl, xB0_start F h has hU hW⟩⟩ rfl (by rw [List.length_map]; omega) h.1.1 (rev_split (q := q) hA) (rest_ok F hs8) hd ⟨by have := F.2.2.2.2.2.2.2.2.2.2.2.1; omega, by have := F.2.2.2.2.2.2.2.2.2.2.2.2; omega⟩⟩
  · refine ⟨_, va_runIN (host := "FreckleChart") (b := xadr ws q) (As := As.map (xtr (xadr ws) sV)) (rest := (st.drop n).map (xtr (xadr ws) sV)) (Ts := xW) (n := (xh k).2.2.2.2.1) ⟨F.1, F.2.1, F.2.2.1, F.2.2.2.1, hts⟩ hM1 ⟨⟨hb0, hcode, hini, hnm, hpar, va_Nw.use rfl (F.2.2.2.2.2.2.2.1.2.2.2.2.2.2 _ hl)⟩, hnam, hts _ hi⟩ ⟨xB0_blind, fun U hU hW => ⟨rfl, xB0_start F h has hU hW⟩⟩ rfl (by rw [List.length_map]; omega) h.1.1 (rev_split (q := q) hA) (rest_ok F hs8) hd ⟨by have := F.2.2.2.2.2.2.2.2.2.2.2.1; omega, by have := F.2.2.2.2.2.2.2.2.2.2.2.2; omega⟩⟩
/-- a call of a string constant's own -/
theorem xs_callX (F : XFx p s m meth c args Rm cc own nL ini law sc mc ms A sV) {d0 k a n i : Nat} {As : XV} {Q' : XQ} (hfr : d0 + 1 ≤ Rm.frames) (hlo : 40 * (d0 + 1) ≤ Rm.locals) (hok : okC k = true) (hkd : (xh k).2.2.2.2.2 = 0) (hl : Cond.methodLink own a (xm k).1 ∈ xW) (hbk : "java/lang/String" = (xm k).1.cls) (hn : n = (xh k).2.2.2.2.1 + 1) (hnl : n ≤ st.length) (hd : decode cc pc = .ok (.invokevirtual a, 3)) (hs8 : xsz (st.drop n) ≤ 8) (hcu : cu + mck k ≤ mc) (hsu : su + msk k ≤ ms)
    (hA : (st.take n).reverse = .retAddr i :: As) (hi29 : i < 29) (hM : XMt l d0 dC dI sV k (st.take n).reverse S I J r Q')
    (hK : ∀ (v : Option Value) (S' : XS) (I' : XI) (J' : XJ) (r' : XR), Q' v S' I' J' r' → XW p l e Rm s m args below meth c dC dI A a0 n0 sV nL mc ms Zf (pc + 3) L (v.toList ++ st.drop n) S' I' J' r' (cu + mck k) (su + msk k)) : XW p l e Rm s m args below meth c dC dI A a0 n0 sV nL mc ms Zf pc L st S I J r cu su := by
  refine xs_after F (fun v hv => List.mem_of_mem_drop hv) hcu hsu (fun ls H locs ws tys h => ?_) hK
  obtain ⟨hb0, hcode, hini, hnm, hpar⟩ := okC_base hok F.2.2.2.2.1 hfr hlo
  obtain ⟨hi, hse⟩ := okC_virt hok hkd
  have hts := F.2.2.2.2.1
  obtain ⟨adK, adV, hE, h9⟩ := F.2.2.2.2.2.2.2.1.1
  obtain ⟨-, e1, -⟩ := h9 i hi29
  have hrec := vk_recv hE hi29 h.2.1.2.2.2.1
  rw [hA] at hM
  have hM1 := hM ws tys H.size
  have eA : (Value.retAddr i :: As).map (xtr (xadr ws) sV) = .ref (adK i) :: As.map (xtr (xadr ws) sV) := by
    rw [List.map_cons]
    show sV i :: _ = _
    rw [e1]
  rw [eA] at hM1
  have has : ∀ v ∈ (Value.retAddr i :: As), xok S v := fun v hv => h.2.2.2.1 v (by rw [← hA] at hv; exact List.mem_of_mem_take (List.mem_reverse.mp hv))
  have hlen : As.length + 1 = n := rev_len hA hnl
  have hsp := rev_split (q := 0) (f := xtr (xadr ws) sV) hA
  have e2 : xtr (xadr ws) sV (.retAddr i) = .ref (adK i) := e1
  rw [e2] at hsp
  refine ⟨_, va_runV (C := (xm k).1.cls) (b := adK i) (As := As.map (xtr (xadr ws) sV)) (rest := (st.drop n).map (xtr (xadr ws) sV)) (Ts := xW) (n := (xh k).2.2.2.2.1) ⟨F.1, F.2.1, F.2.2.1, F.2.2.2.1, hts⟩ hM1 ⟨⟨hb0.1, hb0.2.1, hb0.2.2.1, hb0.2.2.2.1, hb0.2.2.2.2.1, hb0.2.2.2.2.2, hcode, hini, hnm, hpar, hts _ hl⟩, hts _ hi, hts _ hse⟩ ⟨xB0_blind, by rw [← hbk]; exact hrec, fun U hU hW => ⟨rfl, xB0_start F h has hU hW⟩⟩ rfl (by rw [List.length_map]; omega) h.1.1 hsp (rest_ok F hs8) hd ⟨by have := F.2.2.2.2.2.2.2.2.2.2.2.1; omega, by have := F.2.2.2.2.2.2.2.2.2.2.2.2; omega⟩⟩
end XOps
end
section
def okCs (k : Nat) : Bool := decide (k < 351) && !([1,48,49,50,51].contains k)
theorem okC_a0 : ∀ k, k < 39 → (okCs (k + 0) = true → okC (k + 0) = true) := by decide +kernel
theorem okC_a1 : ∀ k, k < 39 → (okCs (k + 39) = true → okC (k + 39) = true) := by decide +kernel
theorem okC_a2 : ∀ k, k < 39 → (okCs (k + 78) = true → okC (k + 78) = true) := by decide +kernel
theorem okC_a3 : ∀ k, k < 39 → (okCs (k + 117) = true → okC (k + 117) = true) := by decide +kernel
theorem okC_a4 : ∀ k, k < 39 → (okCs (k + 156) = true → okC (k + 156) = true) := by decide +kernel
theorem okC_a5 : ∀ k, k < 39 → (okCs (k + 195) = true → okC (k + 195) = true) := by decide +kernel
theorem okC_a6 : ∀ k, k < 39 → (okCs (k + 234) = true → okC (k + 234) = true) := by decide +kernel
theorem okC_a7 : ∀ k, k < 39 → (okCs (k + 273) = true → okC (k + 273) = true) := by decide +kernel
theorem okC_a8 : ∀ k, k < 39 → (okCs (k + 312) = true → okC (k + 312) = true) := by decide +kernel
theorem okC_all : ∀ k, k < 351 → (okCs k = true → okC k = true) := by
  intro k hk
  by_cases h0 : k < 39
  · have h9 := okC_a0 (k - 0) (by omega)
    rwa [show k - 0 + 0 = k by omega] at h9
  by_cases h1 : k < 78
  · have h9 := okC_a1 (k - 39) (by omega)
    rwa [show k - 39 + 39 = k by omega] at h9
  by_cases h2 : k < 117
  · have h9 := okC_a2 (k - 78) (by omega)
    rwa [show k - 78 + 78 = k by omega] at h9
  by_cases h3 : k < 156
  · have h9 := okC_a3 (k - 117) (by omega)
    rwa [show k - 117 + 117 = k by omega] at h9
  by_cases h4 : k < 195
  · have h9 := okC_a4 (k - 156) (by omega)
    rwa [show k - 156 + 156 = k by omega] at h9
  by_cases h5 : k < 234
  · have h9 := okC_a5 (k - 195) (by omega)
    rwa [show k - 195 + 195 = k by omega] at h9
  by_cases h6 : k < 273
  · have h9 := okC_a6 (k - 234) (by omega)
    rwa [show k - 234 + 234 = k by omega] at h9
  by_cases h7 : k < 312
  · have h9 := okC_a7 (k - 273) (by omega)
    rwa [show k - 273 + 273 = k by omega] at h9
  by_cases h8 : k < 351
  · have h9 := okC_a8 (k - 312) (by omega)
    rwa [show k - 312 + 312 = k by omega] at h9
  omega
end
section
section XOps
variable {p : Program} {l : Launch} {e9 : Env} {Rm : Room} {s : State} {m : MethodId} {args : Array Value} {below : List Frame} {meth : Method} {c : Code} {dC : Nat → ClassId} {dI : Nat → Nat → Nat} {A : Nat → Prop} {a0 : Nat → Nat} {n0 : Nat} {sV : Nat → Value} {nL mc ms : Nat} {Zf : State → Prop} {cc : ByteArray} {own : String} {ini law : Bool} {sc : Nat × (Nat → Int32)} {K : XK} {pc pc' : Nat} {L st : XV} {S : XS} {I : XI} {J : XJ} {r : XR} {cu su : Nat}
def xretOk (rt : Option FieldType) (v : Option Value) : Prop := match rt, v with
  | none, none => True
  | some .long, some (.long _) => True
  | some .long, _ => False
  | some ty, some (.int x) => narrow ty (.int x) = .int x
  | _, _ => False
def xri : Option Value → Instr
  | none => .return_
  | some (.long _) => .lreturn
  | _ => .ireturn
theorem okCs_ok {k : Nat} (h : okCs k = true) : okC k = true := by
  have h1 := h
  unfold okCs at h1
  rw [Bool.and_eq_true] at h1
  exact okC_all k (of_decide_eq_true h1.1) h
def okK (b : Nat) : Bool := xw (xkhl.getD b (0, 0)).1 (.instantiable (xC b).1 (xC b).2.2) && xw (xkhl.getD b (0, 0)).2 (.initialized (xC b).1)
theorem okK_all : ∀ b, b < 11 → okK b = true := by decide +kernel
theorem okK_in {b : Nat} (h : b < 11) : Cond.instantiable (xC b).1 (xC b).2.2 ∈ xW ∧ Cond.initialized (xC b).1 ∈ xW := by
  have h1 := okK_all b h
  unfold okK at h1
  rw [Bool.and_eq_true] at h1
  exact ⟨xw_in h1.1, xw_in h1.2⟩
theorem xc_ai : Cond.arrayClass .int ∈ xW := xw_in (h := xah.getD 0 0) (by decide +kernel)
theorem xc_al : Cond.arrayClass .long ∈ xW := xw_in (h := xah.getD 1 0) (by decide +kernel)
theorem xc_ab : Cond.arrayClass .byte ∈ xW := xw_in (h := xah.getD 2 0) (by decide +kernel)
theorem xc_n : Cond.native arraycopyName ∈ xW := xw_in (h := xch.getD 0 0) (by decide +kernel)
theorem xc_s : Cond.static arraycopyName ∈ xW := xw_in (h := xch.getD 1 0) (by decide +kernel)
theorem xc_i : Cond.initialized "java/lang/System" ∈ xW := xw_in (h := xch.getD 2 0) (by decide +kernel)
theorem xc_oi : Cond.instanceMethod Lib.objectInit ∈ xW := xw_in (h := xch.getD 3 0) (by decide +kernel)
theorem xc_oc : Cond.code Lib.objectInit ⟨#[0xb1]⟩ 1 none ∈ xW := xw_in (h := xch.getD 4 0) (by decide +kernel)
theorem fin4 {a : Nat} (h : a < 4) : ((Fin.ofNat 4 a : Fin 4) : Nat) = a := Nat.mod_eq_of_lt h
def ck0 (own : String) (cc : ByteArray) (nL : Nat) (rt : Option FieldType) (ini law : Bool) (pc len a b d h n e : Nat) (z : Int32) (w : Int64) : Bool := (d == 0 && len == 1 && xdec cc pc (.iconst z.toInt) 1) || (d == 1 && len == 2 && xdec cc pc (.bipush z.toInt) 2 && decide ((Int8.ofInt z.toInt).toInt32 = z)) || (d == 2 && len == 3 && xdec cc pc (.sipush z.toInt) 3 && decide ((Int16.ofInt z.toInt).toInt32 = z)) || (d == 3 && len == 2 && xdec cc pc (.ldc a) 2 && xw h (.constant own a z)) || (d == 4 && len == 3 && xdec cc pc (.ldc_w a) 3 && xw h (.constant own a z))
def ck1 (own : String) (cc : ByteArray) (nL : Nat) (rt : Option FieldType) (ini law : Bool) (pc len a b d h n e : Nat) (z : Int32) (w : Int64) : Bool := (d == 0 && len == 1 && ((decide (w = 0) && xdec cc pc (.lconst 0) 1) || (decide (w = 1) && xdec cc pc (.lconst 1) 1))) || (d == 1 && len == 3 && xdec cc pc (.ldc2_w a) 3 && xw h (.constantLong own a w))
def ck2 (own : String) (cc : ByteArray) (nL : Nat) (rt : Option FieldType) (ini law : Bool) (pc len a b d h n e : Nat) (z : Int32) (w : Int64) : Bool := len == 2 && decide (b < 29) && xdec cc pc (.ldc a) 2 && (match xstl[b]? with
    | some x => decide (x.1 = own) && decide (x.2.1 = a)
    | none => false)
def ck3 (own : String) (cc : ByteArray) (nL : Nat) (rt : Option FieldType) (ini law : Bool) (pc len a b d h n e : Nat) (z : Int32) (w : Int64) : Bool := len == 1 && xdec cc pc .aconst_null 1
def ck4 (own : String) (cc : ByteArray) (nL : Nat) (rt : Option FieldType) (ini law : Bool) (pc len a b d h n e : Nat) (z : Int32) (w : Int64) : Bool := (len == 1 && decide (a < 4) && xdec cc pc (.iload_n (Fin.ofNat 4 a)) 1) || (len == 2 && xdec cc pc (.iload a) 2)
def ck5 (own : String) (cc : ByteArray) (nL : Nat) (rt : Option FieldType) (ini law : Bool) (pc len a b d h n e : Nat) (z : Int32) (w : Int64) : Bool := (len == 1 && decide (a < 4) && xdec cc pc (.lload_n (Fin.ofNat 4 a)) 1) || (len == 2 && xdec cc pc (.lload a) 2)
def ck6 (own : String) (cc : ByteArray) (nL : Nat) (rt : Option FieldType) (ini law : Bool) (pc len a b d h n e : Nat) (z : Int32) (w : Int64) : Bool := (len == 1 && decide (a < 4) && xdec cc pc (.aload_n (Fin.ofNat 4 a)) 1) || (len == 2 && xdec cc pc (.aload a) 2)
def ck7 (own : String) (cc : ByteArray) (nL : Nat) (rt : Option FieldType) (ini law : Bool) (pc len a b d h n e : Nat) (z : Int32) (w : Int64) : Bool := decide (a < nL) && ((len == 1 && decide (a < 4) && xdec cc pc (.istore_n (Fin.ofNat 4 a)) 1) || (len == 2 && xdec cc pc (.istore a) 2))
def ck8 (own : String) (cc : ByteArray) (nL : Nat) (rt : Option FieldType) (ini law : Bool) (pc len a b d h n e : Nat) (z : Int32) (w : Int64) : Bool := decide (a + 1 < nL) && ((len == 1 && decide (a < 4) && xdec cc pc (.lstore_n (Fin.ofNat 4 a)) 1) || (len == 2 && xdec cc pc (.lstore a) 2))
def ck9 (own : String) (cc : ByteArray) (nL : Nat) (rt : Option FieldType) (ini law : Bool) (pc len a b d h n e : Nat) (z : Int32) (w : Int64) : Bool := decide (a < nL) && ((len == 1 && decide (a < 4) && xdec cc pc (.astore_n (Fin.ofNat 4 a)) 1) || (len == 2 && xdec cc pc (.astore a) 2))
def ck10 (own : String) (cc : ByteArray) (nL : Nat) (rt : Option FieldType) (ini law : Bool) (pc len a b d h n e : Nat) (z : Int32) (w : Int64) : Bool := len == 3 && decide (a < nL) && xdec cc pc (.iinc a z.toInt) 3
def ck11 (own : String) (cc : ByteArray) (nL : Nat) (rt : Option FieldType) (ini law : Bool) (pc len a b d h n e : Nat) (z : Int32) (w : Int64) : Bool := len == 1 && ((d == 0 && xdec cc pc .iadd 1) || (d == 1 && xdec cc pc .isub 1) || (d == 2 && xdec cc pc .imul 1) || (d == 3 && xdec cc pc .iand 1) || (d == 4 && xdec cc pc .ior 1) || (d == 5 && xdec cc pc .ixor 1) || (d == 6 && xdec cc pc .ishl 1) || (d == 7 && xdec cc pc .ishr 1) || (d == 8 && xdec cc pc .iushr 1))
def ck12 (own : String) (cc : ByteArray) (nL : Nat) (rt : Option FieldType) (ini law : Bool) (pc len a b d h n e : Nat) (z : Int32) (w : Int64) : Bool := len == 1 && ((d == 0 && xdec cc pc .idiv 1) || (d == 1 && xdec cc pc .irem 1))
def ck13 (own : String) (cc : ByteArray) (nL : Nat) (rt : Option FieldType) (ini law : Bool) (pc len a b d h n e : Nat) (z : Int32) (w : Int64) : Bool := len == 1 && xdec cc pc .ineg 1
def ck14 (own : String) (cc : ByteArray) (nL : Nat) (rt : Option FieldType) (ini law : Bool) (pc len a b d h n e : Nat) (z : Int32) (w : Int64) : Bool := len == 1 && ((d == 0 && xdec cc pc .ladd 1) || (d == 1 && xdec cc pc .lsub 1) || (d == 2 && xdec cc pc .lmul 1) || (d == 3 && xdec cc pc .land 1) || (d == 4 && xdec cc pc .lor 1))
def ck15 (own : String) (cc : ByteArray) (nL : Nat) (rt : Option FieldType) (ini law : Bool) (pc len a b d h n e : Nat) (z : Int32) (w : Int64) : Bool := len == 1 && ((d == 0 && xdec cc pc .ldiv 1) || (d == 1 && xdec cc pc .lrem 1))
def ck16 (own : String) (cc : ByteArray) (nL : Nat) (rt : Option FieldType) (ini law : Bool) (pc len a b d h n e : Nat) (z : Int32) (w : Int64) : Bool := len == 1 && xdec cc pc .lshl 1
def ck17 (own : String) (cc : ByteArray) (nL : Nat) (rt : Option FieldType) (ini law : Bool) (pc len a b d h n e : Nat) (z : Int32) (w : Int64) : Bool := len == 1 && ((d == 0 && xdec cc pc .i2l 1) || (d == 1 && xdec cc pc .l2i 1) || (d == 2 && xdec cc pc .i2b 1) || (d == 3 && xdec cc pc .i2s 1) || (d == 4 && xdec cc pc .i2c 1) || (d == 5 && xdec cc pc .lneg 1))
def ck18 (own : String) (cc : ByteArray) (nL : Nat) (rt : Option FieldType) (ini law : Bool) (pc len a b d h n e : Nat) (z : Int32) (w : Int64) : Bool := len == 1 && xdec cc pc .lcmp 1
def ck19 (own : String) (cc : ByteArray) (nL : Nat) (rt : Option FieldType) (ini law : Bool) (pc len a b d h n e : Nat) (z : Int32) (w : Int64) : Bool := len == 1 && xdec cc pc .dup 1
def ck20 (own : String) (cc : ByteArray) (nL : Nat) (rt : Option FieldType) (ini law : Bool) (pc len a b d h n e : Nat) (z : Int32) (w : Int64) : Bool := len == 1 && xdec cc pc .dup2 1
def ck21 (own : String) (cc : ByteArray) (nL : Nat) (rt : Option FieldType) (ini law : Bool) (pc len a b d h n e : Nat) (z : Int32) (w : Int64) : Bool := len == 1 && xdec cc pc .pop 1
def ck22 (own : String) (cc : ByteArray) (nL : Nat) (rt : Option FieldType) (ini law : Bool) (pc len a b d h n e : Nat) (z : Int32) (w : Int64) : Bool := len == 3 && decide (d < 6) && xdec cc pc (.ifCond (xcnd d) ((a : Int) - pc)) 3
def ck23 (own : String) (cc : ByteArray) (nL : Nat) (rt : Option FieldType) (ini law : Bool) (pc len a b d h n e : Nat) (z : Int32) (w : Int64) : Bool := len == 3 && decide (d < 6) && xdec cc pc (.if_icmp (xcnd d) ((a : Int) - pc)) 3
def ck24 (own : String) (cc : ByteArray) (nL : Nat) (rt : Option FieldType) (ini law : Bool) (pc len a b d h n e : Nat) (z : Int32) (w : Int64) : Bool := (d == 1 && a == pc) || (d == 0 && len == 3 && xdec cc pc (.goto ((a : Int) - pc)) 3)
def ck25 (own : String) (cc : ByteArray) (nL : Nat) (rt : Option FieldType) (ini law : Bool) (pc len a b d h n e : Nat) (z : Int32) (w : Int64) : Bool := len == 3 && ((d == 0 && xdec cc pc (.ifnull ((a : Int) - pc)) 3) || (d == 1 && xdec cc pc (.ifnonnull ((a : Int) - pc)) 3))
def ck26 (own : String) (cc : ByteArray) (nL : Nat) (rt : Option FieldType) (ini law : Bool) (pc len a b d h n e : Nat) (z : Int32) (w : Int64) : Bool := (match decode cc pc with
    | .ok (.tableswitch df lo hi offs, _) => decide ((pc : Int) + df = (xswt b).2) && decide (hi = lo + (xswt b).1.length - 1) && (List.range (xswt b).1.length).all fun j => decide (((xswt b).1.getD j (0, 0)).1.toInt = lo + j) && (match offs[j]? with
      | some off => decide ((pc : Int) + off = ((xswt b).1.getD j (0, 0)).2)
      | none => false)
    | .ok (.lookupswitch df ps, _) => decide (df = ((xswt b).2 : Int) - pc) && decide (ps.toList = (xswt b).1.map fun c => (c.1.toInt, (c.2 : Int) - pc)) && (ps.toList.zip (ps.toList.drop 1)).all (fun (a, next) => a.1 < next.1)
    | _ => false)
def ck27 (own : String) (cc : ByteArray) (nL : Nat) (rt : Option FieldType) (ini law : Bool) (pc len a b d h n e : Nat) (z : Int32) (w : Int64) : Bool := len == 1 && ((d == 0 && decide (rt = some .int) && xdec cc pc .ireturn 1) || (d == 1 && decide (rt = some .boolean) && xdec cc pc .ireturn 1) || (d == 2 && decide (rt = some .long) && xdec cc pc .lreturn 1) || (d == 3 && decide (rt = none) && xdec cc pc .return_ 1) || (d == 4 && decide (rt = some .byte) && xdec cc pc .ireturn 1) || (d == 5 && decide (rt = some .char) && xdec cc pc .ireturn 1))
def ck28 (own : String) (cc : ByteArray) (nL : Nat) (rt : Option FieldType) (ini law : Bool) (pc len a b d h n e : Nat) (z : Int32) (w : Int64) : Bool := len == 3 && decide (b < 11) && xw h (.classLink own a (xC b).1) && xdec cc pc (.new a) 3
def ck29 (own : String) (cc : ByteArray) (nL : Nat) (rt : Option FieldType) (ini law : Bool) (pc len a b d h n e : Nat) (z : Int32) (w : Int64) : Bool := len == 2 && ((b == 100 && xdec cc pc (.newarray .int) 2) || (b == 101 && xdec cc pc (.newarray .long) 2) || (b == 102 && xdec cc pc (.newarray .byte) 2))
def ck30 (own : String) (cc : ByteArray) (nL : Nat) (rt : Option FieldType) (ini law : Bool) (pc len a b d h n e : Nat) (z : Int32) (w : Int64) : Bool := len == 3 && xw h (.classLink own a "FreckleChart$Coast") && xdec cc pc (.anewarray a) 3
def ck31 (own : String) (cc : ByteArray) (nL : Nat) (rt : Option FieldType) (ini law : Bool) (pc len a b d h n e : Nat) (z : Int32) (w : Int64) : Bool := len == 4 && xw h (.classLink own a ("[" ++ (FieldType.array .long).toString)) && xdec cc pc (.multianewarray a 2) 4
def ck32 (own : String) (cc : ByteArray) (nL : Nat) (rt : Option FieldType) (ini law : Bool) (pc len a b d h n e : Nat) (z : Int32) (w : Int64) : Bool := len == 1 && xdec cc pc .arraylength 1
def ck33 (own : String) (cc : ByteArray) (nL : Nat) (rt : Option FieldType) (ini law : Bool) (pc len a b d h n e : Nat) (z : Int32) (w : Int64) : Bool := len == 1 && xdec cc pc .iaload 1
def ck34 (own : String) (cc : ByteArray) (nL : Nat) (rt : Option FieldType) (ini law : Bool) (pc len a b d h n e : Nat) (z : Int32) (w : Int64) : Bool := len == 1 && xdec cc pc .iastore 1
def ck35 (own : String) (cc : ByteArray) (nL : Nat) (rt : Option FieldType) (ini law : Bool) (pc len a b d h n e : Nat) (z : Int32) (w : Int64) : Bool := len == 1 && xdec cc pc .laload 1
def ck36 (own : String) (cc : ByteArray) (nL : Nat) (rt : Option FieldType) (ini law : Bool) (pc len a b d h n e : Nat) (z : Int32) (w : Int64) : Bool := len == 1 && xdec cc pc .lastore 1
def ck37 (own : String) (cc : ByteArray) (nL : Nat) (rt : Option FieldType) (ini law : Bool) (pc len a b d h n e : Nat) (z : Int32) (w : Int64) : Bool := len == 1 && xdec cc pc .baload 1
def ck38 (own : String) (cc : ByteArray) (nL : Nat) (rt : Option FieldType) (ini law : Bool) (pc len a b d h n e : Nat) (z : Int32) (w : Int64) : Bool := len == 1 && xdec cc pc .bastore 1
def ck39 (own : String) (cc : ByteArray) (nL : Nat) (rt : Option FieldType) (ini law : Bool) (pc len a b d h n e : Nat) (z : Int32) (w : Int64) : Bool := len == 1 && xdec cc pc .aaload 1
def ck40 (own : String) (cc : ByteArray) (nL : Nat) (rt : Option FieldType) (ini law : Bool) (pc len a b d h n e : Nat) (z : Int32) (w : Int64) : Bool := len == 1 && xdec cc pc .aastore 1
def ck42 (own : String) (cc : ByteArray) (nL : Nat) (rt : Option FieldType) (ini law : Bool) (pc len a b d h n e : Nat) (z : Int32) (w : Int64) : Bool := len == 3 && decide (b < 11) && decide (d < nfc b) && decide (xkd b d = 0) && xw h (.fieldLink own a ((xC b).2.1 d).1 ((xC b).2.1 d).2.1 ((xC b).2.1 d).2.2.1) && xdec cc pc (.getfield a) 3
def ck43 (own : String) (cc : ByteArray) (nL : Nat) (rt : Option FieldType) (ini law : Bool) (pc len a b d h n e : Nat) (z : Int32) (w : Int64) : Bool := len == 3 && decide (b < 11) && decide (d < nfc b) && decide (xkd b d = 1) && xw h (.fieldLink own a ((xC b).2.1 d).1 ((xC b).2.1 d).2.1 ((xC b).2.1 d).2.2.1) && xdec cc pc (.getfield a) 3
def ck44 (own : String) (cc : ByteArray) (nL : Nat) (rt : Option FieldType) (ini law : Bool) (pc len a b d h n e : Nat) (z : Int32) (w : Int64) : Bool := len == 3 && decide (b < 11) && decide (d < nfc b) && decide (xkd b d = 2) && xw h (.fieldLink own a ((xC b).2.1 d).1 ((xC b).2.1 d).2.1 ((xC b).2.1 d).2.2.1) && xdec cc pc (.getfield a) 3
def ck45 (own : String) (cc : ByteArray) (nL : Nat) (rt : Option FieldType) (ini law : Bool) (pc len a b d h n e : Nat) (z : Int32) (w : Int64) : Bool := len == 3 && decide (b < 11) && decide (d < nfc b) && decide (xkd b d = 0) && xw h (.fieldLink own a ((xC b).2.1 d).1 ((xC b).2.1 d).2.1 ((xC b).2.1 d).2.2.1) && xdec cc pc (.putfield a) 3 && (decide (((xC b).2.1 d).2.2.2 = false) || (decide (((xC b).2.1 d).2.2.2 = true) && decide (ini = true) && decide (((xC b).2.1 d).1 = own))) && decide (xty b d = .int)
def ck46 (own : String) (cc : ByteArray) (nL : Nat) (rt : Option FieldType) (ini law : Bool) (pc len a b d h n e : Nat) (z : Int32) (w : Int64) : Bool := len == 3 && decide (b < 11) && decide (d < nfc b) && decide (xkd b d = 1) && xw h (.fieldLink own a ((xC b).2.1 d).1 ((xC b).2.1 d).2.1 ((xC b).2.1 d).2.2.1) && xdec cc pc (.putfield a) 3 && (decide (((xC b).2.1 d).2.2.2 = false) || (decide (((xC b).2.1 d).2.2.2 = true) && decide (ini = true) && decide (((xC b).2.1 d).1 = own)))
def ck47 (own : String) (cc : ByteArray) (nL : Nat) (rt : Option FieldType) (ini law : Bool) (pc len a b d h n e : Nat) (z : Int32) (w : Int64) : Bool := len == 3 && decide (b < 11) && decide (d < nfc b) && decide (xkd b d = 2) && xw h (.fieldLink own a ((xC b).2.1 d).1 ((xC b).2.1 d).2.1 ((xC b).2.1 d).2.2.1) && xdec cc pc (.putfield a) 3 && (decide (((xC b).2.1 d).2.2.2 = false) || (decide (((xC b).2.1 d).2.2.2 = true) && decide (ini = true) && decide (((xC b).2.1 d).1 = own)))
def ck48 (own : String) (cc : ByteArray) (nL : Nat) (rt : Option FieldType) (ini law : Bool) (pc len a b d h n e : Nat) (z : Int32) (w : Int64) : Bool := len == 3 && okCs b && decide (mck b = 0) && decide (msk b = 0) && ((decide (d = 0) && decide ((xh b).2.2.2.2.2 = 0) && xw h (.methodLink own a (xm b).1) && decide (e < 11) && decide ((xC e).1 = (xm b).1.cls) && decide (n = (xh b).2.2.2.2.1 + 1) && xdec cc pc (.invokevirtual a) 3) || (decide (d = 1) && decide ((xh b).2.2.2.2.2 = 1) && xw h (.methodLink own a (xm b).1) && decide (n = (xh b).2.2.2.2.1) && xdec cc pc (.invokestatic a) 3) || (decide (d = 2) && decide ((xh b).2.2.2.2.2 = 2) && xw h (.methodLink own a (xm b).1) && decide (n = (xh b).2.2.2.2.1 + 1) && xdec cc pc (.invokespecial a) 3) || (decide (d = 3) && decide ((xh b).2.2.2.2.2 = 2) && decide ((own, a, (xm b).1) ∈ xnl) && decide (n = (xh b).2.2.2.2.1 + 1) && xdec cc pc (.invokespecial a) 3))
def ck49 (own : String) (cc : ByteArray) (nL : Nat) (rt : Option FieldType) (ini law : Bool) (pc len a b d h n e : Nat) (z : Int32) (w : Int64) : Bool := len == 3 && xw h (.methodLink own a Lib.objectInit) && xdec cc pc (.invokespecial a) 3
def ck50 (own : String) (cc : ByteArray) (nL : Nat) (rt : Option FieldType) (ini law : Bool) (pc len a b d h n e : Nat) (z : Int32) (w : Int64) : Bool := len == 3 && decide (d < 3) && xw h (.methodLink own a arraycopyName) && xdec cc pc (.invokestatic a) 3
def ck51 (own : String) (cc : ByteArray) (nL : Nat) (rt : Option FieldType) (ini law : Bool) (pc len a b d h n e : Nat) (z : Int32) (w : Int64) : Bool := len == 3 && xw h (.fieldLink own a "java/lang/String" "value" "[B") && xdec cc pc (.getfield a) 3
def ck52 (own : String) (cc : ByteArray) (nL : Nat) (rt : Option FieldType) (ini law : Bool) (pc len a b d h n e : Nat) (z : Int32) (w : Int64) : Bool := len == 3 && xw h (.fieldLink own a "java/lang/String" "coder" "B") && xdec cc pc (.getfield a) 3
def ck53 (own : String) (cc : ByteArray) (nL : Nat) (rt : Option FieldType) (ini law : Bool) (pc len a b d h n e : Nat) (z : Int32) (w : Int64) : Bool := len == 1 && law && xdec cc pc .arraylength 1
def ck54 (own : String) (cc : ByteArray) (nL : Nat) (rt : Option FieldType) (ini law : Bool) (pc len a b d h n e : Nat) (z : Int32) (w : Int64) : Bool := len == 1 && law && xdec cc pc .iaload 1
def ck55 (own : String) (cc : ByteArray) (nL : Nat) (rt : Option FieldType) (ini law : Bool) (pc len a b d h n e : Nat) (z : Int32) (w : Int64) : Bool := len == 3 && okCs b && ((decide (d = 0) && decide ((xh b).2.2.2.2.2 = 0) && xw h (.methodLink own a (xm b).1) && decide (e < 11) && decide ((xC e).1 = (xm b).1.cls) && decide (n = (xh b).2.2.2.2.1 + 1) && xdec cc pc (.invokevirtual a) 3) || (decide (d = 1) && decide ((xh b).2.2.2.2.2 = 1) && xw h (.methodLink own a (xm b).1) && decide (n = (xh b).2.2.2.2.1) && xdec cc pc (.invokestatic a) 3) || (decide (d = 2) && decide ((xh b).2.2.2.2.2 = 2) && xw h (.methodLink own a (xm b).1) && decide (n = (xh b).2.2.2.2.1 + 1) && xdec cc pc (.invokespecial a) 3) || (decide (d = 3) && decide ((xh b).2.2.2.2.2 = 2) && decide ((own, a, (xm b).1) ∈ xnl) && decide (n = (xh b).2.2.2.2.1 + 1) && xdec cc pc (.invokespecial a) 3))
def ck56 (own : String) (cc : ByteArray) (nL : Nat) (rt : Option FieldType) (ini law : Bool) (pc len a b d h n e : Nat) (z : Int32) (w : Int64) : Bool := len == 1 && xdec cc pc .arraylength 1
def ck57 (own : String) (cc : ByteArray) (nL : Nat) (rt : Option FieldType) (ini law : Bool) (pc len a b d h n e : Nat) (z : Int32) (w : Int64) : Bool := len == 1 && xdec cc pc .baload 1
def ck58 (own : String) (cc : ByteArray) (nL : Nat) (rt : Option FieldType) (ini law : Bool) (pc len a b d h n e : Nat) (z : Int32) (w : Int64) : Bool := len == 3 && xw h (.fieldLink own a "java/lang/String" "COMPACT_STRINGS" "Z") && xdec cc pc (.getstatic a) 3
def ck59 (own : String) (cc : ByteArray) (nL : Nat) (rt : Option FieldType) (ini law : Bool) (pc len a b d h n e : Nat) (z : Int32) (w : Int64) : Bool := len == 3 && xw h (.fieldLink own a "jdk/internal/util/Preconditions" "SIOOBE_FORMATTER" "Ljava/util/function/BiFunction;") && xdec cc pc (.getstatic a) 3
def ck60 (own : String) (cc : ByteArray) (nL : Nat) (rt : Option FieldType) (ini law : Bool) (pc len a b d h n e : Nat) (z : Int32) (w : Int64) : Bool := len == 3 && okCs b && decide (mck b = 0) && decide (msk b = 0) && decide ((xh b).2.2.2.2.2 = 0) && xw h (.methodLink own a (xm b).1) && decide ("java/lang/String" = (xm b).1.cls) && decide (n = (xh b).2.2.2.2.1 + 1) && xdec cc pc (.invokevirtual a) 3
def ck61 (own : String) (cc : ByteArray) (nL : Nat) (rt : Option FieldType) (ini law : Bool) (pc len a b d h n e : Nat) (z : Int32) (w : Int64) : Bool := len == 3 && decide (b < 11) && decide (d < nfc b) && decide (xkd b d = 0) && xw h (.fieldLink own a ((xC b).2.1 d).1 ((xC b).2.1 d).2.1 ((xC b).2.1 d).2.2.1) && xdec cc pc (.putfield a) 3 && (decide (((xC b).2.1 d).2.2.2 = false) || (decide (((xC b).2.1 d).2.2.2 = true) && decide (ini = true) && decide (((xC b).2.1 d).1 = own))) && decide (xty b d = .boolean)
def xins (own : String) (cc : ByteArray) (nL : Nat) (rt : Option FieldType) (ini law : Bool) (pc : Nat) : XO → Bool
  | (op, len, a, b, d, h, n, e, z, w) => match op with
    | 0 => ck0 own cc nL rt ini law pc len a b d h n e z w
    | 1 => ck1 own cc nL rt ini law pc len a b d h n e z w
    | 2 => ck2 own cc nL rt ini law pc len a b d h n e z w
    | 3 => ck3 own cc nL rt ini law pc len a b d h n e z w
    | 4 => ck4 own cc nL rt ini law pc len a b d h n e z w
    | 5 => ck5 own cc nL rt ini law pc len a b d h n e z w
    | 6 => ck6 own cc nL rt ini law pc len a b d h n e z w
    | 7 => ck7 own cc nL rt ini law pc len a b d h n e z w
    | 8 => ck8 own cc nL rt ini law pc len a b d h n e z w
    | 9 => ck9 own cc nL rt ini law pc len a b d h n e z w
    | 10 => ck10 own cc nL rt ini law pc len a b d h n e z w
    | 11 => ck11 own cc nL rt ini law pc len a b d h n e z w
    | 12 => ck12 own cc nL rt ini law pc len a b d h n e z w
    | 13 => ck13 own cc nL rt ini law pc len a b d h n e z w
    | 14 => ck14 own cc nL rt ini law pc len a b d h n e z w
    | 15 => ck15 own cc nL rt ini law pc len a b d h n e z w
    | 16 => ck16 own cc nL rt ini law pc len a b d h n e z w
    | 17 => ck17 own cc nL rt ini law pc len a b d h n e z w
    | 18 => ck18 own cc nL rt ini law pc len a b d h n e z w
    | 19 => ck19 own cc nL rt ini law pc len a b d h n e z w
    | 20 => ck20 own cc nL rt ini law pc len a b d h n e z w
    | 21 => ck21 own cc nL rt ini law pc len a b d h n e z w
    | 22 => ck22 own cc nL rt ini law pc len a b d h n e z w
    | 23 => ck23 own cc nL rt ini law pc len a b d h n e z w
    | 24 => ck24 own cc nL rt ini law pc len a b d h n e z w
    | 25 => ck25 own cc nL rt ini law pc len a b d h n e z w
    | 26 => ck26 own cc nL rt ini law pc len a b d h n e z w
    | 27 => ck27 own cc nL rt ini law pc len a b d h n e z w
    | 28 => ck28 own cc nL rt ini law pc len a b d h n e z w
    | 29 => ck29 own cc nL rt ini law pc len a b d h n e z w
    | 30 => ck30 own cc nL rt ini law pc len a b d h n e z w
    | 31 => ck31 own cc nL rt ini law pc len a b d h n e z w
    | 32 => ck32 own cc nL rt ini law pc len a b d h n e z w
    | 33 => ck33 own cc nL rt ini law pc len a b d h n e z w
    | 34 => ck34 own cc nL rt ini law pc len a b d h n e z w
    | 35 => ck35 own cc nL rt ini law pc len a b d h n e z w
    | 36 => ck36 own cc nL rt ini law pc len a b d h n e z w
    | 37 => ck37 own cc nL rt ini law pc len a b d h n e z w
    | 38 => ck38 own cc nL rt ini law pc len a b d h n e z w
    | 39 => ck39 own cc nL rt ini law pc len a b d h n e z w
    | 40 => ck40 own cc nL rt ini law pc len a b d h n e z w
    | 42 => ck42 own cc nL rt ini law pc len a b d h n e z w
    | 43 => ck43 own cc nL rt ini law pc len a b d h n e z w
    | 44 => ck44 own cc nL rt ini law pc len a b d h n e z w
    | 45 => ck45 own cc nL rt ini law pc len a b d h n e z w
    | 46 => ck46 own cc nL rt ini law pc len a b d h n e z w
    | 47 => ck47 own cc nL rt ini law pc len a b d h n e z w
    | 48 => ck48 own cc nL rt ini law pc len a b d h n e z w
    | 49 => ck49 own cc nL rt ini law pc len a b d h n e z w
    | 50 => ck50 own cc nL rt ini law pc len a b d h n e z w
    | 51 => ck51 own cc nL rt ini law pc len a b d h n e z w
    | 52 => ck52 own cc nL rt ini law pc len a b d h n e z w
    | 53 => ck53 own cc nL rt ini law pc len a b d h n e z w
    | 54 => ck54 own cc nL rt ini law pc len a b d h n e z w
    | 55 => ck55 own cc nL rt ini law pc len a b d h n e z w
    | 56 => ck56 own cc nL rt ini law pc len a b d h n e z w
    | 57 => ck57 own cc nL rt ini law pc len a b d h n e z w
    | 58 => ck58 own cc nL rt ini law pc len a b d h n e z w
    | 59 => ck59 own cc nL rt ini law pc len a b d h n e z w
    | 60 => ck60 own cc nL rt ini law pc len a b d h n e z w
    | 61 => ck61 own cc nL rt ini law pc len a b d h n e z w
    | _ => false
theorem xi_0 (F : XFx p s m meth c args Rm cc own nL ini law sc mc ms A sV) {rt : Option FieldType} {d0 : Nat} {cl : XC} {nx : XN} {Q : XQ} (hfr : d0 + 1 ≤ Rm.frames) (hlo : 40 * (d0 + 1) ≤ Rm.locals)
    (hcl : ∀ (k : Nat) (as : XV) (S : XS) (I : XI) (J : XJ) (r : XR) (Q : XQ), cl k as S I J r Q → XMt l d0 dC dI sV k as S I J r Q)
    (hnx : ∀ (pc : Nat) (L st : XV) (S : XS) (I : XI) (J : XJ) (r : XR) (cu su : Nat), nx pc L st S I J r cu su → XW p l e9 Rm s m args below meth c dC dI A a0 n0 sV nL mc ms Zf pc L st S I J r cu su)
    (hret : ∀ (pc : Nat) (L : XV) (cu su : Nat) (v : Option Value) (S : XS) (I : XI) (J : XJ) (r : XR), Q v S I J r → xretOk rt v → decode cc pc = .ok (xri v, 1) → XW p l e9 Rm s m args below meth c dC dI A a0 n0 sV nL mc ms Zf pc L v.toList S I J r cu su) {len a b d h n e : Nat} {z : Int32} {w : Int64} (hK : ∀ (L st : XV) (S : XS) (I : XI) (J : XJ) (r : XR) (cu su : Nat), K L st S I J r cu su → XW p l e9 Rm s m args below meth c dC dI A a0 n0 sV nL mc ms Zf (pc + len) L st S I J r cu su) (hok : ck0 own cc nL rt ini law pc len a b d h n e z w = true) (hst : xst sc cl nx Q mc ms K (0, len, a, b, d, h, n, e, z, w) L st S I J r cu su) : XW p l e9 Rm s m args below meth c dC dI A a0 n0 sV nL mc ms Zf pc L st S I J r cu su := by
  unfold ck0 at hok
  simp only [Bool.or_eq_true, Bool.and_eq_true, beq_iff_eq, decide_eq_true_eq, Bool.not_eq_true'] at hok
  refine xs_iconst (d := d) (a := a) F ?_ (hK _ _ _ _ _ _ _ _ hst)
  rcases hok with (((⟨⟨h1, h2⟩, h3⟩ | ⟨⟨⟨h1, h2⟩, h3⟩, h4⟩) | ⟨⟨⟨h1, h2⟩, h3⟩, h4⟩) | ⟨⟨⟨h1, h2⟩, h3⟩, h4⟩) | ⟨⟨⟨h1, h2⟩, h3⟩, h4⟩
  · exact Or.inl ⟨h1, by rw [h2], xdec_ok h3⟩
  · exact Or.inr (Or.inl ⟨h1, by rw [h2], xdec_ok h3, h4⟩)
  · exact Or.inr (Or.inr (Or.inl ⟨h1, by rw [h2], xdec_ok h3, h4⟩))
  · exact Or.inr (Or.inr (Or.inr (Or.inl ⟨h1, by rw [h2], xdec_ok h3, xw_in h4⟩)))
  · exact Or.inr (Or.inr (Or.inr (Or.inr ⟨h1, by rw [h2], xdec_ok h3, xw_in h4⟩)))
theorem xi_1 (F : XFx p s m meth c args Rm cc own nL ini law sc mc ms A sV) {rt : Option FieldType} {d0 : Nat} {cl : XC} {nx : XN} {Q : XQ} (hfr : d0 + 1 ≤ Rm.frames) (hlo : 40 * (d0 + 1) ≤ Rm.locals)
    (hcl : ∀ (k : Nat) (as : XV) (S : XS) (I : XI) (J : XJ) (r : XR) (Q : XQ), cl k as S I J r Q → XMt l d0 dC dI sV k as S I J r Q)
    (hnx : ∀ (pc : Nat) (L st : XV) (S : XS) (I : XI) (J : XJ) (r : XR) (cu su : Nat), nx pc L st S I J r cu su → XW p l e9 Rm s m args below meth c dC dI A a0 n0 sV nL mc ms Zf pc L st S I J r cu su)
    (hret : ∀ (pc : Nat) (L : XV) (cu su : Nat) (v : Option Value) (S : XS) (I : XI) (J : XJ) (r : XR), Q v S I J r → xretOk rt v → decode cc pc = .ok (xri v, 1) → XW p l e9 Rm s m args below meth c dC dI A a0 n0 sV nL mc ms Zf pc L v.toList S I J r cu su) {len a b d h n e : Nat} {z : Int32} {w : Int64} (hK : ∀ (L st : XV) (S : XS) (I : XI) (J : XJ) (r : XR) (cu su : Nat), K L st S I J r cu su → XW p l e9 Rm s m args below meth c dC dI A a0 n0 sV nL mc ms Zf (pc + len) L st S I J r cu su) (hok : ck1 own cc nL rt ini law pc len a b d h n e z w = true) (hst : xst sc cl nx Q mc ms K (1, len, a, b, d, h, n, e, z, w) L st S I J r cu su) : XW p l e9 Rm s m args below meth c dC dI A a0 n0 sV nL mc ms Zf pc L st S I J r cu su := by
  unfold ck1 at hok
  simp only [Bool.or_eq_true, Bool.and_eq_true, beq_iff_eq, decide_eq_true_eq, Bool.not_eq_true'] at hok
  refine xs_lconst (a := a) F ?_ (hK _ _ _ _ _ _ _ _ hst)
  rcases hok with ⟨⟨h1, h2⟩, h3 | h3⟩ | ⟨⟨⟨h1, h2⟩, h3⟩, h4⟩
  · exact Or.inl ⟨by rw [h2], Or.inl ⟨h3.1, xdec_ok h3.2⟩⟩
  · exact Or.inl ⟨by rw [h2], Or.inr ⟨h3.1, xdec_ok h3.2⟩⟩
  · exact Or.inr ⟨by rw [h2], xdec_ok h3, xw_in h4⟩
theorem xi_2 (F : XFx p s m meth c args Rm cc own nL ini law sc mc ms A sV) {rt : Option FieldType} {d0 : Nat} {cl : XC} {nx : XN} {Q : XQ} (hfr : d0 + 1 ≤ Rm.frames) (hlo : 40 * (d0 + 1) ≤ Rm.locals)
    (hcl : ∀ (k : Nat) (as : XV) (S : XS) (I : XI) (J : XJ) (r : XR) (Q : XQ), cl k as S I J r Q → XMt l d0 dC dI sV k as S I J r Q)
    (hnx : ∀ (pc : Nat) (L st : XV) (S : XS) (I : XI) (J : XJ) (r : XR) (cu su : Nat), nx pc L st S I J r cu su → XW p l e9 Rm s m args below meth c dC dI A a0 n0 sV nL mc ms Zf pc L st S I J r cu su)
    (hret : ∀ (pc : Nat) (L : XV) (cu su : Nat) (v : Option Value) (S : XS) (I : XI) (J : XJ) (r : XR), Q v S I J r → xretOk rt v → decode cc pc = .ok (xri v, 1) → XW p l e9 Rm s m args below meth c dC dI A a0 n0 sV nL mc ms Zf pc L v.toList S I J r cu su) {len a b d h n e : Nat} {z : Int32} {w : Int64} (hK : ∀ (L st : XV) (S : XS) (I : XI) (J : XJ) (r : XR) (cu su : Nat), K L st S I J r cu su → XW p l e9 Rm s m args below meth c dC dI A a0 n0 sV nL mc ms Zf (pc + len) L st S I J r cu su) (hok : ck2 own cc nL rt ini law pc len a b d h n e z w = true) (hst : xst sc cl nx Q mc ms K (2, len, a, b, d, h, n, e, z, w) L st S I J r cu su) : XW p l e9 Rm s m args below meth c dC dI A a0 n0 sV nL mc ms Zf pc L st S I J r cu su := by
  unfold ck2 at hok
  simp only [Bool.or_eq_true, Bool.and_eq_true, beq_iff_eq, decide_eq_true_eq, Bool.not_eq_true'] at hok
  obtain ⟨⟨⟨rfl, h2⟩, h3⟩, h4⟩ := hok
  cases hx : xstl[b]? with
  | none => rw [hx] at h4; cases h4
  | some x =>
    rw [hx] at h4
    simp only [Bool.and_eq_true, decide_eq_true_eq] at h4
    exact xs_ldcS F h2 (tx := x.2.2) (by rw [hx, ← h4.1, ← h4.2]) (xdec_ok h3) (hK _ _ _ _ _ _ _ _ hst)
theorem xi_3 (F : XFx p s m meth c args Rm cc own nL ini law sc mc ms A sV) {rt : Option FieldType} {d0 : Nat} {cl : XC} {nx : XN} {Q : XQ} (hfr : d0 + 1 ≤ Rm.frames) (hlo : 40 * (d0 + 1) ≤ Rm.locals)
    (hcl : ∀ (k : Nat) (as : XV) (S : XS) (I : XI) (J : XJ) (r : XR) (Q : XQ), cl k as S I J r Q → XMt l d0 dC dI sV k as S I J r Q)
    (hnx : ∀ (pc : Nat) (L st : XV) (S : XS) (I : XI) (J : XJ) (r : XR) (cu su : Nat), nx pc L st S I J r cu su → XW p l e9 Rm s m args below meth c dC dI A a0 n0 sV nL mc ms Zf pc L st S I J r cu su)
    (hret : ∀ (pc : Nat) (L : XV) (cu su : Nat) (v : Option Value) (S : XS) (I : XI) (J : XJ) (r : XR), Q v S I J r → xretOk rt v → decode cc pc = .ok (xri v, 1) → XW p l e9 Rm s m args below meth c dC dI A a0 n0 sV nL mc ms Zf pc L v.toList S I J r cu su) {len a b d h n e : Nat} {z : Int32} {w : Int64} (hK : ∀ (L st : XV) (S : XS) (I : XI) (J : XJ) (r : XR) (cu su : Nat), K L st S I J r cu su → XW p l e9 Rm s m args below meth c dC dI A a0 n0 sV nL mc ms Zf (pc + len) L st S I J r cu su) (hok : ck3 own cc nL rt ini law pc len a b d h n e z w = true) (hst : xst sc cl nx Q mc ms K (3, len, a, b, d, h, n, e, z, w) L st S I J r cu su) : XW p l e9 Rm s m args below meth c dC dI A a0 n0 sV nL mc ms Zf pc L st S I J r cu su := by
  unfold ck3 at hok
  simp only [Bool.or_eq_true, Bool.and_eq_true, beq_iff_eq, decide_eq_true_eq, Bool.not_eq_true'] at hok
  obtain ⟨rfl, h2⟩ := hok
  exact xs_null F (xdec_ok h2) (hK _ _ _ _ _ _ _ _ hst)
theorem xi_4 (F : XFx p s m meth c args Rm cc own nL ini law sc mc ms A sV) {rt : Option FieldType} {d0 : Nat} {cl : XC} {nx : XN} {Q : XQ} (hfr : d0 + 1 ≤ Rm.frames) (hlo : 40 * (d0 + 1) ≤ Rm.locals)
    (hcl : ∀ (k : Nat) (as : XV) (S : XS) (I : XI) (J : XJ) (r : XR) (Q : XQ), cl k as S I J r Q → XMt l d0 dC dI sV k as S I J r Q)
    (hnx : ∀ (pc : Nat) (L st : XV) (S : XS) (I : XI) (J : XJ) (r : XR) (cu su : Nat), nx pc L st S I J r cu su → XW p l e9 Rm s m args below meth c dC dI A a0 n0 sV nL mc ms Zf pc L st S I J r cu su)
    (hret : ∀ (pc : Nat) (L : XV) (cu su : Nat) (v : Option Value) (S : XS) (I : XI) (J : XJ) (r : XR), Q v S I J r → xretOk rt v → decode cc pc = .ok (xri v, 1) → XW p l e9 Rm s m args below meth c dC dI A a0 n0 sV nL mc ms Zf pc L v.toList S I J r cu su) {len a b d h n e : Nat} {z : Int32} {w : Int64} (hK : ∀ (L st : XV) (S : XS) (I : XI) (J : XJ) (r : XR) (cu su : Nat), K L st S I J r cu su → XW p l e9 Rm s m args below meth c dC dI A a0 n0 sV nL mc ms Zf (pc + len) L st S I J r cu su) (hok : ck4 own cc nL rt ini law pc len a b d h n e z w = true) (hst : xst sc cl nx Q mc ms K (4, len, a, b, d, h, n, e, z, w) L st S I J r cu su) : XW p l e9 Rm s m args below meth c dC dI A a0 n0 sV nL mc ms Zf pc L st S I J r cu su := by
  unfold ck4 at hok
  simp only [Bool.or_eq_true, Bool.and_eq_true, beq_iff_eq, decide_eq_true_eq, Bool.not_eq_true'] at hok
  have hdd : (pc + len = pc + 1 ∧ ∃ k : Fin 4, (k : Nat) = a ∧ decode cc pc = .ok (.iload_n k, 1)) ∨ (pc + len = pc + 2 ∧ decode cc pc = .ok (.iload a, 2)) := by
    rcases hok with ⟨⟨h1, h2⟩, h3⟩ | ⟨h1, h2⟩
    · exact Or.inl ⟨by rw [h1], _, fin4 h2, xdec_ok h3⟩
    · exact Or.inr ⟨by rw [h1], xdec_ok h2⟩
  simp only [xst] at hst
  split at hst
  · rename_i x hx
    exact xs_iload F hx hdd (hK _ _ _ _ _ _ _ _ hst)
  · exact hst.elim
theorem xi_5 (F : XFx p s m meth c args Rm cc own nL ini law sc mc ms A sV) {rt : Option FieldType} {d0 : Nat} {cl : XC} {nx : XN} {Q : XQ} (hfr : d0 + 1 ≤ Rm.frames) (hlo : 40 * (d0 + 1) ≤ Rm.locals)
    (hcl : ∀ (k : Nat) (as : XV) (S : XS) (I : XI) (J : XJ) (r : XR) (Q : XQ), cl k as S I J r Q → XMt l d0 dC dI sV k as S I J r Q)
    (hnx : ∀ (pc : Nat) (L st : XV) (S : XS) (I : XI) (J : XJ) (r : XR) (cu su : Nat), nx pc L st S I J r cu su → XW p l e9 Rm s m args below meth c dC dI A a0 n0 sV nL mc ms Zf pc L st S I J r cu su)
    (hret : ∀ (pc : Nat) (L : XV) (cu su : Nat) (v : Option Value) (S : XS) (I : XI) (J : XJ) (r : XR), Q v S I J r → xretOk rt v → decode cc pc = .ok (xri v, 1) → XW p l e9 Rm s m args below meth c dC dI A a0 n0 sV nL mc ms Zf pc L v.toList S I J r cu su) {len a b d h n e : Nat} {z : Int32} {w : Int64} (hK : ∀ (L st : XV) (S : XS) (I : XI) (J : XJ) (r : XR) (cu su : Nat), K L st S I J r cu su → XW p l e9 Rm s m args below meth c dC dI A a0 n0 sV nL mc ms Zf (pc + len) L st S I J r cu su) (hok : ck5 own cc nL rt ini law pc len a b d h n e z w = true) (hst : xst sc cl nx Q mc ms K (5, len, a, b, d, h, n, e, z, w) L st S I J r cu su) : XW p l e9 Rm s m args below meth c dC dI A a0 n0 sV nL mc ms Zf pc L st S I J r cu su := by
  unfold ck5 at hok
  simp only [Bool.or_eq_true, Bool.and_eq_true, beq_iff_eq, decide_eq_true_eq, Bool.not_eq_true'] at hok
  have hdd : (pc + len = pc + 1 ∧ ∃ k : Fin 4, (k : Nat) = a ∧ decode cc pc = .ok (.lload_n k, 1)) ∨ (pc + len = pc + 2 ∧ decode cc pc = .ok (.lload a, 2)) := by
    rcases hok with ⟨⟨h1, h2⟩, h3⟩ | ⟨h1, h2⟩
    · exact Or.inl ⟨by rw [h1], _, fin4 h2, xdec_ok h3⟩
    · exact Or.inr ⟨by rw [h1], xdec_ok h2⟩
  simp only [xst] at hst
  split at hst
  · rename_i x hx
    exact xs_lload F hx hdd (hK _ _ _ _ _ _ _ _ hst)
  · exact hst.elim
theorem xi_6 (F : XFx p s m meth c args Rm cc own nL ini law sc mc ms A sV) {rt : Option FieldType} {d0 : Nat} {cl : XC} {nx : XN} {Q : XQ} (hfr : d0 + 1 ≤ Rm.frames) (hlo : 40 * (d0 + 1) ≤ Rm.locals)
    (hcl : ∀ (k : Nat) (as : XV) (S : XS) (I : XI) (J : XJ) (r : XR) (Q : XQ), cl k as S I J r Q → XMt l d0 dC dI sV k as S I J r Q)
    (hnx : ∀ (pc : Nat) (L st : XV) (S : XS) (I : XI) (J : XJ) (r : XR) (cu su : Nat), nx pc L st S I J r cu su → XW p l e9 Rm s m args below meth c dC dI A a0 n0 sV nL mc ms Zf pc L st S I J r cu su)
    (hret : ∀ (pc : Nat) (L : XV) (cu su : Nat) (v : Option Value) (S : XS) (I : XI) (J : XJ) (r : XR), Q v S I J r → xretOk rt v → decode cc pc = .ok (xri v, 1) → XW p l e9 Rm s m args below meth c dC dI A a0 n0 sV nL mc ms Zf pc L v.toList S I J r cu su) {len a b d h n e : Nat} {z : Int32} {w : Int64} (hK : ∀ (L st : XV) (S : XS) (I : XI) (J : XJ) (r : XR) (cu su : Nat), K L st S I J r cu su → XW p l e9 Rm s m args below meth c dC dI A a0 n0 sV nL mc ms Zf (pc + len) L st S I J r cu su) (hok : ck6 own cc nL rt ini law pc len a b d h n e z w = true) (hst : xst sc cl nx Q mc ms K (6, len, a, b, d, h, n, e, z, w) L st S I J r cu su) : XW p l e9 Rm s m args below meth c dC dI A a0 n0 sV nL mc ms Zf pc L st S I J r cu su := by
  unfold ck6 at hok
  simp only [Bool.or_eq_true, Bool.and_eq_true, beq_iff_eq, decide_eq_true_eq, Bool.not_eq_true'] at hok
  have hdd : (pc + len = pc + 1 ∧ ∃ k : Fin 4, (k : Nat) = a ∧ decode cc pc = .ok (.aload_n k, 1)) ∨ (pc + len = pc + 2 ∧ decode cc pc = .ok (.aload a, 2)) := by
    rcases hok with ⟨⟨h1, h2⟩, h3⟩ | ⟨h1, h2⟩
    · exact Or.inl ⟨by rw [h1], _, fin4 h2, xdec_ok h3⟩
    · exact Or.inr ⟨by rw [h1], xdec_ok h2⟩
  simp only [xst] at hst
  split at hst
  · rename_i x hx
    exact xs_aload F hx hdd (hK _ _ _ _ _ _ _ _ hst)
  · rename_i x hx
    exact xs_aloadR F hx (F.2.2.2.2.2.2.2.1.2.2.2.1 x) hdd (hK _ _ _ _ _ _ _ _ hst)
  · exact hst.elim
theorem xi_7 (F : XFx p s m meth c args Rm cc own nL ini law sc mc ms A sV) {rt : Option FieldType} {d0 : Nat} {cl : XC} {nx : XN} {Q : XQ} (hfr : d0 + 1 ≤ Rm.frames) (hlo : 40 * (d0 + 1) ≤ Rm.locals)
    (hcl : ∀ (k : Nat) (as : XV) (S : XS) (I : XI) (J : XJ) (r : XR) (Q : XQ), cl k as S I J r Q → XMt l d0 dC dI sV k as S I J r Q)
    (hnx : ∀ (pc : Nat) (L st : XV) (S : XS) (I : XI) (J : XJ) (r : XR) (cu su : Nat), nx pc L st S I J r cu su → XW p l e9 Rm s m args below meth c dC dI A a0 n0 sV nL mc ms Zf pc L st S I J r cu su)
    (hret : ∀ (pc : Nat) (L : XV) (cu su : Nat) (v : Option Value) (S : XS) (I : XI) (J : XJ) (r : XR), Q v S I J r → xretOk rt v → decode cc pc = .ok (xri v, 1) → XW p l e9 Rm s m args below meth c dC dI A a0 n0 sV nL mc ms Zf pc L v.toList S I J r cu su) {len a b d h n e : Nat} {z : Int32} {w : Int64} (hK : ∀ (L st : XV) (S : XS) (I : XI) (J : XJ) (r : XR) (cu su : Nat), K L st S I J r cu su → XW p l e9 Rm s m args below meth c dC dI A a0 n0 sV nL mc ms Zf (pc + len) L st S I J r cu su) (hok : ck7 own cc nL rt ini law pc len a b d h n e z w = true) (hst : xst sc cl nx Q mc ms K (7, len, a, b, d, h, n, e, z, w) L st S I J r cu su) : XW p l e9 Rm s m args below meth c dC dI A a0 n0 sV nL mc ms Zf pc L st S I J r cu su := by
  unfold ck7 at hok
  simp only [Bool.or_eq_true, Bool.and_eq_true, beq_iff_eq, decide_eq_true_eq, Bool.not_eq_true'] at hok
  obtain ⟨hlt, hok⟩ := hok
  have hdd : (pc + len = pc + 1 ∧ ∃ k : Fin 4, (k : Nat) = a ∧ decode cc pc = .ok (.istore_n k, 1)) ∨ (pc + len = pc + 2 ∧ decode cc pc = .ok (.istore a, 2)) := by
    rcases hok with ⟨⟨h1, h2⟩, h3⟩ | ⟨h1, h2⟩
    · exact Or.inl ⟨by rw [h1], _, fin4 h2, xdec_ok h3⟩
    · exact Or.inr ⟨by rw [h1], xdec_ok h2⟩
  simp only [xst] at hst
  split at hst
  · exact xs_istore F hlt hdd (hK _ _ _ _ _ _ _ _ hst)
  · exact hst.elim
theorem xi_8 (F : XFx p s m meth c args Rm cc own nL ini law sc mc ms A sV) {rt : Option FieldType} {d0 : Nat} {cl : XC} {nx : XN} {Q : XQ} (hfr : d0 + 1 ≤ Rm.frames) (hlo : 40 * (d0 + 1) ≤ Rm.locals)
    (hcl : ∀ (k : Nat) (as : XV) (S : XS) (I : XI) (J : XJ) (r : XR) (Q : XQ), cl k as S I J r Q → XMt l d0 dC dI sV k as S I J r Q)
    (hnx : ∀ (pc : Nat) (L st : XV) (S : XS) (I : XI) (J : XJ) (r : XR) (cu su : Nat), nx pc L st S I J r cu su → XW p l e9 Rm s m args below meth c dC dI A a0 n0 sV nL mc ms Zf pc L st S I J r cu su)
    (hret : ∀ (pc : Nat) (L : XV) (cu su : Nat) (v : Option Value) (S : XS) (I : XI) (J : XJ) (r : XR), Q v S I J r → xretOk rt v → decode cc pc = .ok (xri v, 1) → XW p l e9 Rm s m args below meth c dC dI A a0 n0 sV nL mc ms Zf pc L v.toList S I J r cu su) {len a b d h n e : Nat} {z : Int32} {w : Int64} (hK : ∀ (L st : XV) (S : XS) (I : XI) (J : XJ) (r : XR) (cu su : Nat), K L st S I J r cu su → XW p l e9 Rm s m args below meth c dC dI A a0 n0 sV nL mc ms Zf (pc + len) L st S I J r cu su) (hok : ck8 own cc nL rt ini law pc len a b d h n e z w = true) (hst : xst sc cl nx Q mc ms K (8, len, a, b, d, h, n, e, z, w) L st S I J r cu su) : XW p l e9 Rm s m args below meth c dC dI A a0 n0 sV nL mc ms Zf pc L st S I J r cu su := by
  unfold ck8 at hok
  simp only [Bool.or_eq_true, Bool.and_eq_true, beq_iff_eq, decide_eq_true_eq, Bool.not_eq_true'] at hok
  obtain ⟨hlt, hok⟩ := hok
  have hdd : (pc + len = pc + 1 ∧ ∃ k : Fin 4, (k : Nat) = a ∧ decode cc pc = .ok (.lstore_n k, 1)) ∨ (pc + len = pc + 2 ∧ decode cc pc = .ok (.lstore a, 2)) := by
    rcases hok with ⟨⟨h1, h2⟩, h3⟩ | ⟨h1, h2⟩
    · exact Or.inl ⟨by rw [h1], _, fin4 h2, xdec_ok h3⟩
    · exact Or.inr ⟨by rw [h1], xdec_ok h2⟩
  simp only [xst] at hst
  split at hst
  · exact xs_lstore F hlt hdd (hK _ _ _ _ _ _ _ _ hst)
  · exact hst.elim
theorem xi_9 (F : XFx p s m meth c args Rm cc own nL ini law sc mc ms A sV) {rt : Option FieldType} {d0 : Nat} {cl : XC} {nx : XN} {Q : XQ} (hfr : d0 + 1 ≤ Rm.frames) (hlo : 40 * (d0 + 1) ≤ Rm.locals)
    (hcl : ∀ (k : Nat) (as : XV) (S : XS) (I : XI) (J : XJ) (r : XR) (Q : XQ), cl k as S I J r Q → XMt l d0 dC dI sV k as S I J r Q)
    (hnx : ∀ (pc : Nat) (L st : XV) (S : XS) (I : XI) (J : XJ) (r : XR) (cu su : Nat), nx pc L st S I J r cu su → XW p l e9 Rm s m args below meth c dC dI A a0 n0 sV nL mc ms Zf pc L st S I J r cu su)
    (hret : ∀ (pc : Nat) (L : XV) (cu su : Nat) (v : Option Value) (S : XS) (I : XI) (J : XJ) (r : XR), Q v S I J r → xretOk rt v → decode cc pc = .ok (xri v, 1) → XW p l e9 Rm s m args below meth c dC dI A a0 n0 sV nL mc ms Zf pc L v.toList S I J r cu su) {len a b d h n e : Nat} {z : Int32} {w : Int64} (hK : ∀ (L st : XV) (S : XS) (I : XI) (J : XJ) (r : XR) (cu su : Nat), K L st S I J r cu su → XW p l e9 Rm s m args below meth c dC dI A a0 n0 sV nL mc ms Zf (pc + len) L st S I J r cu su) (hok : ck9 own cc nL rt ini law pc len a b d h n e z w = true) (hst : xst sc cl nx Q mc ms K (9, len, a, b, d, h, n, e, z, w) L st S I J r cu su) : XW p l e9 Rm s m args below meth c dC dI A a0 n0 sV nL mc ms Zf pc L st S I J r cu su := by
  unfold ck9 at hok
  simp only [Bool.or_eq_true, Bool.and_eq_true, beq_iff_eq, decide_eq_true_eq, Bool.not_eq_true'] at hok
  obtain ⟨hlt, hok⟩ := hok
  have hdd : (pc + len = pc + 1 ∧ ∃ k : Fin 4, (k : Nat) = a ∧ decode cc pc = .ok (.astore_n k, 1)) ∨ (pc + len = pc + 2 ∧ decode cc pc = .ok (.astore a, 2)) := by
    rcases hok with ⟨⟨h1, h2⟩, h3⟩ | ⟨h1, h2⟩
    · exact Or.inl ⟨by rw [h1], _, fin4 h2, xdec_ok h3⟩
    · exact Or.inr ⟨by rw [h1], xdec_ok h2⟩
  simp only [xst] at hst
  split at hst
  · exact xs_astore F hlt hdd (hK _ _ _ _ _ _ _ _ hst)
  · exact xs_astoreN F hlt hdd (hK _ _ _ _ _ _ _ _ hst)
  · exact hst.elim
theorem xi_10 (F : XFx p s m meth c args Rm cc own nL ini law sc mc ms A sV) {rt : Option FieldType} {d0 : Nat} {cl : XC} {nx : XN} {Q : XQ} (hfr : d0 + 1 ≤ Rm.frames) (hlo : 40 * (d0 + 1) ≤ Rm.locals)
    (hcl : ∀ (k : Nat) (as : XV) (S : XS) (I : XI) (J : XJ) (r : XR) (Q : XQ), cl k as S I J r Q → XMt l d0 dC dI sV k as S I J r Q)
    (hnx : ∀ (pc : Nat) (L st : XV) (S : XS) (I : XI) (J : XJ) (r : XR) (cu su : Nat), nx pc L st S I J r cu su → XW p l e9 Rm s m args below meth c dC dI A a0 n0 sV nL mc ms Zf pc L st S I J r cu su)
    (hret : ∀ (pc : Nat) (L : XV) (cu su : Nat) (v : Option Value) (S : XS) (I : XI) (J : XJ) (r : XR), Q v S I J r → xretOk rt v → decode cc pc = .ok (xri v, 1) → XW p l e9 Rm s m args below meth c dC dI A a0 n0 sV nL mc ms Zf pc L v.toList S I J r cu su) {len a b d h n e : Nat} {z : Int32} {w : Int64} (hK : ∀ (L st : XV) (S : XS) (I : XI) (J : XJ) (r : XR) (cu su : Nat), K L st S I J r cu su → XW p l e9 Rm s m args below meth c dC dI A a0 n0 sV nL mc ms Zf (pc + len) L st S I J r cu su) (hok : ck10 own cc nL rt ini law pc len a b d h n e z w = true) (hst : xst sc cl nx Q mc ms K (10, len, a, b, d, h, n, e, z, w) L st S I J r cu su) : XW p l e9 Rm s m args below meth c dC dI A a0 n0 sV nL mc ms Zf pc L st S I J r cu su := by
  unfold ck10 at hok
  simp only [Bool.or_eq_true, Bool.and_eq_true, beq_iff_eq, decide_eq_true_eq, Bool.not_eq_true'] at hok
  obtain ⟨⟨rfl, h2⟩, h3⟩ := hok
  simp only [xst] at hst
  split at hst
  · rename_i x hx
    exact xs_iinc F hx h2 (xdec_ok h3) (hK _ _ _ _ _ _ _ _ hst)
  · exact hst.elim
theorem xi_11 (F : XFx p s m meth c args Rm cc own nL ini law sc mc ms A sV) {rt : Option FieldType} {d0 : Nat} {cl : XC} {nx : XN} {Q : XQ} (hfr : d0 + 1 ≤ Rm.frames) (hlo : 40 * (d0 + 1) ≤ Rm.locals)
    (hcl : ∀ (k : Nat) (as : XV) (S : XS) (I : XI) (J : XJ) (r : XR) (Q : XQ), cl k as S I J r Q → XMt l d0 dC dI sV k as S I J r Q)
    (hnx : ∀ (pc : Nat) (L st : XV) (S : XS) (I : XI) (J : XJ) (r : XR) (cu su : Nat), nx pc L st S I J r cu su → XW p l e9 Rm s m args below meth c dC dI A a0 n0 sV nL mc ms Zf pc L st S I J r cu su)
    (hret : ∀ (pc : Nat) (L : XV) (cu su : Nat) (v : Option Value) (S : XS) (I : XI) (J : XJ) (r : XR), Q v S I J r → xretOk rt v → decode cc pc = .ok (xri v, 1) → XW p l e9 Rm s m args below meth c dC dI A a0 n0 sV nL mc ms Zf pc L v.toList S I J r cu su) {len a b d h n e : Nat} {z : Int32} {w : Int64} (hK : ∀ (L st : XV) (S : XS) (I : XI) (J : XJ) (r : XR) (cu su : Nat), K L st S I J r cu su → XW p l e9 Rm s m args below meth c dC dI A a0 n0 sV nL mc ms Zf (pc + len) L st S I J r cu su) (hok : ck11 own cc nL rt ini law pc len a b d h n e z w = true) (hst : xst sc cl nx Q mc ms K (11, len, a, b, d, h, n, e, z, w) L st S I J r cu su) : XW p l e9 Rm s m args below meth c dC dI A a0 n0 sV nL mc ms Zf pc L st S I J r cu su := by
  unfold ck11 at hok
  simp only [Bool.or_eq_true, Bool.and_eq_true, beq_iff_eq, decide_eq_true_eq, Bool.not_eq_true'] at hok
  obtain ⟨rfl, hok⟩ := hok
  simp only [xst] at hst
  split at hst
  · rcases hok with ((((((((⟨rfl, h3⟩) | ⟨rfl, h3⟩) | ⟨rfl, h3⟩) | ⟨rfl, h3⟩) | ⟨rfl, h3⟩) | ⟨rfl, h3⟩) | ⟨rfl, h3⟩) | ⟨rfl, h3⟩) | ⟨rfl, h3⟩
    · exact xs_iadd F (xdec_ok h3) (hK _ _ _ _ _ _ _ _ hst)
    · exact xs_isub F (xdec_ok h3) (hK _ _ _ _ _ _ _ _ hst)
    · exact xs_imul F (xdec_ok h3) (hK _ _ _ _ _ _ _ _ hst)
    · exact xs_iand F (xdec_ok h3) (hK _ _ _ _ _ _ _ _ hst)
    · exact xs_ior F (xdec_ok h3) (hK _ _ _ _ _ _ _ _ hst)
    · exact xs_ixor F (xdec_ok h3) (hK _ _ _ _ _ _ _ _ hst)
    · exact xs_ishl F (xdec_ok h3) (hK _ _ _ _ _ _ _ _ hst)
    · exact xs_ishr F (xdec_ok h3) (hK _ _ _ _ _ _ _ _ hst)
    · exact xs_iushr F (xdec_ok h3) (hK _ _ _ _ _ _ _ _ hst)
  · exact hst.elim
theorem xi_12 (F : XFx p s m meth c args Rm cc own nL ini law sc mc ms A sV) {rt : Option FieldType} {d0 : Nat} {cl : XC} {nx : XN} {Q : XQ} (hfr : d0 + 1 ≤ Rm.frames) (hlo : 40 * (d0 + 1) ≤ Rm.locals)
    (hcl : ∀ (k : Nat) (as : XV) (S : XS) (I : XI) (J : XJ) (r : XR) (Q : XQ), cl k as S I J r Q → XMt l d0 dC dI sV k as S I J r Q)
    (hnx : ∀ (pc : Nat) (L st : XV) (S : XS) (I : XI) (J : XJ) (r : XR) (cu su : Nat), nx pc L st S I J r cu su → XW p l e9 Rm s m args below meth c dC dI A a0 n0 sV nL mc ms Zf pc L st S I J r cu su)
    (hret : ∀ (pc : Nat) (L : XV) (cu su : Nat) (v : Option Value) (S : XS) (I : XI) (J : XJ) (r : XR), Q v S I J r → xretOk rt v → decode cc pc = .ok (xri v, 1) → XW p l e9 Rm s m args below meth c dC dI A a0 n0 sV nL mc ms Zf pc L v.toList S I J r cu su) {len a b d h n e : Nat} {z : Int32} {w : Int64} (hK : ∀ (L st : XV) (S : XS) (I : XI) (J : XJ) (r : XR) (cu su : Nat), K L st S I J r cu su → XW p l e9 Rm s m args below meth c dC dI A a0 n0 sV nL mc ms Zf (pc + len) L st S I J r cu su) (hok : ck12 own cc nL rt ini law pc len a b d h n e z w = true) (hst : xst sc cl nx Q mc ms K (12, len, a, b, d, h, n, e, z, w) L st S I J r cu su) : XW p l e9 Rm s m args below meth c dC dI A a0 n0 sV nL mc ms Zf pc L st S I J r cu su := by
  unfold ck12 at hok
  simp only [Bool.or_eq_true, Bool.and_eq_true, beq_iff_eq, decide_eq_true_eq, Bool.not_eq_true'] at hok
  obtain ⟨rfl, hok⟩ := hok
  simp only [xst] at hst
  split at hst
  · obtain ⟨hy, hst⟩ := hst
    rcases hok with (⟨rfl, h3⟩) | ⟨rfl, h3⟩
    · exact xs_idiv F hy (xdec_ok h3) (hK _ _ _ _ _ _ _ _ hst)
    · exact xs_irem F hy (xdec_ok h3) (hK _ _ _ _ _ _ _ _ hst)
  · exact hst.elim
theorem xi_13 (F : XFx p s m meth c args Rm cc own nL ini law sc mc ms A sV) {rt : Option FieldType} {d0 : Nat} {cl : XC} {nx : XN} {Q : XQ} (hfr : d0 + 1 ≤ Rm.frames) (hlo : 40 * (d0 + 1) ≤ Rm.locals)
    (hcl : ∀ (k : Nat) (as : XV) (S : XS) (I : XI) (J : XJ) (r : XR) (Q : XQ), cl k as S I J r Q → XMt l d0 dC dI sV k as S I J r Q)
    (hnx : ∀ (pc : Nat) (L st : XV) (S : XS) (I : XI) (J : XJ) (r : XR) (cu su : Nat), nx pc L st S I J r cu su → XW p l e9 Rm s m args below meth c dC dI A a0 n0 sV nL mc ms Zf pc L st S I J r cu su)
    (hret : ∀ (pc : Nat) (L : XV) (cu su : Nat) (v : Option Value) (S : XS) (I : XI) (J : XJ) (r : XR), Q v S I J r → xretOk rt v → decode cc pc = .ok (xri v, 1) → XW p l e9 Rm s m args below meth c dC dI A a0 n0 sV nL mc ms Zf pc L v.toList S I J r cu su) {len a b d h n e : Nat} {z : Int32} {w : Int64} (hK : ∀ (L st : XV) (S : XS) (I : XI) (J : XJ) (r : XR) (cu su : Nat), K L st S I J r cu su → XW p l e9 Rm s m args below meth c dC dI A a0 n0 sV nL mc ms Zf (pc + len) L st S I J r cu su) (hok : ck13 own cc nL rt ini law pc len a b d h n e z w = true) (hst : xst sc cl nx Q mc ms K (13, len, a, b, d, h, n, e, z, w) L st S I J r cu su) : XW p l e9 Rm s m args below meth c dC dI A a0 n0 sV nL mc ms Zf pc L st S I J r cu su := by
  unfold ck13 at hok
  simp only [Bool.or_eq_true, Bool.and_eq_true, beq_iff_eq, decide_eq_true_eq, Bool.not_eq_true'] at hok
  obtain ⟨rfl, h3⟩ := hok
  simp only [xst] at hst
  split at hst
  · exact xs_ineg F (xdec_ok h3) (hK _ _ _ _ _ _ _ _ hst)
  · exact hst.elim
theorem xi_14 (F : XFx p s m meth c args Rm cc own nL ini law sc mc ms A sV) {rt : Option FieldType} {d0 : Nat} {cl : XC} {nx : XN} {Q : XQ} (hfr : d0 + 1 ≤ Rm.frames) (hlo : 40 * (d0 + 1) ≤ Rm.locals)
    (hcl : ∀ (k : Nat) (as : XV) (S : XS) (I : XI) (J : XJ) (r : XR) (Q : XQ), cl k as S I J r Q → XMt l d0 dC dI sV k as S I J r Q)
    (hnx : ∀ (pc : Nat) (L st : XV) (S : XS) (I : XI) (J : XJ) (r : XR) (cu su : Nat), nx pc L st S I J r cu su → XW p l e9 Rm s m args below meth c dC dI A a0 n0 sV nL mc ms Zf pc L st S I J r cu su)
    (hret : ∀ (pc : Nat) (L : XV) (cu su : Nat) (v : Option Value) (S : XS) (I : XI) (J : XJ) (r : XR), Q v S I J r → xretOk rt v → decode cc pc = .ok (xri v, 1) → XW p l e9 Rm s m args below meth c dC dI A a0 n0 sV nL mc ms Zf pc L v.toList S I J r cu su) {len a b d h n e : Nat} {z : Int32} {w : Int64} (hK : ∀ (L st : XV) (S : XS) (I : XI) (J : XJ) (r : XR) (cu su : Nat), K L st S I J r cu su → XW p l e9 Rm s m args below meth c dC dI A a0 n0 sV nL mc ms Zf (pc + len) L st S I J r cu su) (hok : ck14 own cc nL rt ini law pc len a b d h n e z w = true) (hst : xst sc cl nx Q mc ms K (14, len, a, b, d, h, n, e, z, w) L st S I J r cu su) : XW p l e9 Rm s m args below meth c dC dI A a0 n0 sV nL mc ms Zf pc L st S I J r cu su := by
  unfold ck14 at hok
  simp only [Bool.or_eq_true, Bool.and_eq_true, beq_iff_eq, decide_eq_true_eq, Bool.not_eq_true'] at hok
  obtain ⟨rfl, hok⟩ := hok
  simp only [xst] at hst
  split at hst
  · rcases hok with ((((⟨rfl, h3⟩) | ⟨rfl, h3⟩) | ⟨rfl, h3⟩) | ⟨rfl, h3⟩) | ⟨rfl, h3⟩
    · exact xs_ladd F (xdec_ok h3) (hK _ _ _ _ _ _ _ _ hst)
    · exact xs_lsub F (xdec_ok h3) (hK _ _ _ _ _ _ _ _ hst)
    · exact xs_lmul F (xdec_ok h3) (hK _ _ _ _ _ _ _ _ hst)
    · exact xs_land F (xdec_ok h3) (hK _ _ _ _ _ _ _ _ hst)
    · exact xs_lor F (xdec_ok h3) (hK _ _ _ _ _ _ _ _ hst)
  · exact hst.elim
theorem xi_15 (F : XFx p s m meth c args Rm cc own nL ini law sc mc ms A sV) {rt : Option FieldType} {d0 : Nat} {cl : XC} {nx : XN} {Q : XQ} (hfr : d0 + 1 ≤ Rm.frames) (hlo : 40 * (d0 + 1) ≤ Rm.locals)
    (hcl : ∀ (k : Nat) (as : XV) (S : XS) (I : XI) (J : XJ) (r : XR) (Q : XQ), cl k as S I J r Q → XMt l d0 dC dI sV k as S I J r Q)
    (hnx : ∀ (pc : Nat) (L st : XV) (S : XS) (I : XI) (J : XJ) (r : XR) (cu su : Nat), nx pc L st S I J r cu su → XW p l e9 Rm s m args below meth c dC dI A a0 n0 sV nL mc ms Zf pc L st S I J r cu su)
    (hret : ∀ (pc : Nat) (L : XV) (cu su : Nat) (v : Option Value) (S : XS) (I : XI) (J : XJ) (r : XR), Q v S I J r → xretOk rt v → decode cc pc = .ok (xri v, 1) → XW p l e9 Rm s m args below meth c dC dI A a0 n0 sV nL mc ms Zf pc L v.toList S I J r cu su) {len a b d h n e : Nat} {z : Int32} {w : Int64} (hK : ∀ (L st : XV) (S : XS) (I : XI) (J : XJ) (r : XR) (cu su : Nat), K L st S I J r cu su → XW p l e9 Rm s m args below meth c dC dI A a0 n0 sV nL mc ms Zf (pc + len) L st S I J r cu su) (hok : ck15 own cc nL rt ini law pc len a b d h n e z w = true) (hst : xst sc cl nx Q mc ms K (15, len, a, b, d, h, n, e, z, w) L st S I J r cu su) : XW p l e9 Rm s m args below meth c dC dI A a0 n0 sV nL mc ms Zf pc L st S I J r cu su := by
  unfold ck15 at hok
  simp only [Bool.or_eq_true, Bool.and_eq_true, beq_iff_eq, decide_eq_true_eq, Bool.not_eq_true'] at hok
  obtain ⟨rfl, hok⟩ := hok
  simp only [xst] at hst
  split at hst
  · obtain ⟨hy, hst⟩ := hst
    rcases hok with (⟨rfl, h3⟩) | ⟨rfl, h3⟩
    · exact xs_ldiv F hy (xdec_ok h3) (hK _ _ _ _ _ _ _ _ hst)
    · exact xs_lrem F hy (xdec_ok h3) (hK _ _ _ _ _ _ _ _ hst)
  · exact hst.elim
theorem xi_16 (F : XFx p s m meth c args Rm cc own nL ini law sc mc ms A sV) {rt : Option FieldType} {d0 : Nat} {cl : XC} {nx : XN} {Q : XQ} (hfr : d0 + 1 ≤ Rm.frames) (hlo : 40 * (d0 + 1) ≤ Rm.locals)
    (hcl : ∀ (k : Nat) (as : XV) (S : XS) (I : XI) (J : XJ) (r : XR) (Q : XQ), cl k as S I J r Q → XMt l d0 dC dI sV k as S I J r Q)
    (hnx : ∀ (pc : Nat) (L st : XV) (S : XS) (I : XI) (J : XJ) (r : XR) (cu su : Nat), nx pc L st S I J r cu su → XW p l e9 Rm s m args below meth c dC dI A a0 n0 sV nL mc ms Zf pc L st S I J r cu su)
    (hret : ∀ (pc : Nat) (L : XV) (cu su : Nat) (v : Option Value) (S : XS) (I : XI) (J : XJ) (r : XR), Q v S I J r → xretOk rt v → decode cc pc = .ok (xri v, 1) → XW p l e9 Rm s m args below meth c dC dI A a0 n0 sV nL mc ms Zf pc L v.toList S I J r cu su) {len a b d h n e : Nat} {z : Int32} {w : Int64} (hK : ∀ (L st : XV) (S : XS) (I : XI) (J : XJ) (r : XR) (cu su : Nat), K L st S I J r cu su → XW p l e9 Rm s m args below meth c dC dI A a0 n0 sV nL mc ms Zf (pc + len) L st S I J r cu su) (hok : ck16 own cc nL rt ini law pc len a b d h n e z w = true) (hst : xst sc cl nx Q mc ms K (16, len, a, b, d, h, n, e, z, w) L st S I J r cu su) : XW p l e9 Rm s m args below meth c dC dI A a0 n0 sV nL mc ms Zf pc L st S I J r cu su := by
  unfold ck16 at hok
  simp only [Bool.or_eq_true, Bool.and_eq_true, beq_iff_eq, decide_eq_true_eq, Bool.not_eq_true'] at hok
  obtain ⟨rfl, h3⟩ := hok
  simp only [xst] at hst
  split at hst
  · exact xs_lshl F (xdec_ok h3) (hK _ _ _ _ _ _ _ _ hst)
  · exact hst.elim
theorem xi_17 (F : XFx p s m meth c args Rm cc own nL ini law sc mc ms A sV) {rt : Option FieldType} {d0 : Nat} {cl : XC} {nx : XN} {Q : XQ} (hfr : d0 + 1 ≤ Rm.frames) (hlo : 40 * (d0 + 1) ≤ Rm.locals)
    (hcl : ∀ (k : Nat) (as : XV) (S : XS) (I : XI) (J : XJ) (r : XR) (Q : XQ), cl k as S I J r Q → XMt l d0 dC dI sV k as S I J r Q)
    (hnx : ∀ (pc : Nat) (L st : XV) (S : XS) (I : XI) (J : XJ) (r : XR) (cu su : Nat), nx pc L st S I J r cu su → XW p l e9 Rm s m args below meth c dC dI A a0 n0 sV nL mc ms Zf pc L st S I J r cu su)
    (hret : ∀ (pc : Nat) (L : XV) (cu su : Nat) (v : Option Value) (S : XS) (I : XI) (J : XJ) (r : XR), Q v S I J r → xretOk rt v → decode cc pc = .ok (xri v, 1) → XW p l e9 Rm s m args below meth c dC dI A a0 n0 sV nL mc ms Zf pc L v.toList S I J r cu su) {len a b d h n e : Nat} {z : Int32} {w : Int64} (hK : ∀ (L st : XV) (S : XS) (I : XI) (J : XJ) (r : XR) (cu su : Nat), K L st S I J r cu su → XW p l e9 Rm s m args below meth c dC dI A a0 n0 sV nL mc ms Zf (pc + len) L st S I J r cu su) (hok : ck17 own cc nL rt ini law pc len a b d h n e z w = true) (hst : xst sc cl nx Q mc ms K (17, len, a, b, d, h, n, e, z, w) L st S I J r cu su) : XW p l e9 Rm s m args below meth c dC dI A a0 n0 sV nL mc ms Zf pc L st S I J r cu su := by
  unfold ck17 at hok
  simp only [Bool.or_eq_true, Bool.and_eq_true, beq_iff_eq, decide_eq_true_eq, Bool.not_eq_true'] at hok
  obtain ⟨rfl, hok⟩ := hok
  rcases hok with (((((⟨rfl, h3⟩) | ⟨rfl, h3⟩) | ⟨rfl, h3⟩) | ⟨rfl, h3⟩) | ⟨rfl, h3⟩) | ⟨rfl, h3⟩
  · simp only [xst] at hst
    split at hst <;> first | exact hst.elim | (rename_i q9 _; cases q9; done) | skip
    all_goals first | exact xs_i2l F (xdec_ok h3) (hK _ _ _ _ _ _ _ _ hst) | (simp at *; done)
  · simp only [xst] at hst
    split at hst <;> first | exact hst.elim | (rename_i q9 _; cases q9; done) | skip
    all_goals first | exact xs_l2i F (xdec_ok h3) (hK _ _ _ _ _ _ _ _ hst) | (simp at *; done)
  · simp only [xst] at hst
    split at hst <;> first | exact hst.elim | (rename_i q9 _; cases q9; done) | skip
    all_goals first | exact xs_i2b F (xdec_ok h3) (hK _ _ _ _ _ _ _ _ hst) | (simp at *; done)
  · simp only [xst] at hst
    split at hst <;> first | exact hst.elim | (rename_i q9 _; cases q9; done) | skip
    all_goals first | exact xs_i2s F (xdec_ok h3) (hK _ _ _ _ _ _ _ _ hst) | (simp at *; done)
  · simp only [xst] at hst
    split at hst <;> first | exact hst.elim | (rename_i q9 _; cases q9; done) | skip
    all_goals first | exact xs_i2c F (xdec_ok h3) (hK _ _ _ _ _ _ _ _ hst) | (simp at *; done)
  · simp only [xst] at hst
    split at hst <;> first | exact hst.elim | (rename_i q9 _; cases q9; done) | skip
    all_goals first | exact xs_lneg F (xdec_ok h3) (hK _ _ _ _ _ _ _ _ hst) | (simp at *; done)
theorem xi_18 (F : XFx p s m meth c args Rm cc own nL ini law sc mc ms A sV) {rt : Option FieldType} {d0 : Nat} {cl : XC} {nx : XN} {Q : XQ} (hfr : d0 + 1 ≤ Rm.frames) (hlo : 40 * (d0 + 1) ≤ Rm.locals)
    (hcl : ∀ (k : Nat) (as : XV) (S : XS) (I : XI) (J : XJ) (r : XR) (Q : XQ), cl k as S I J r Q → XMt l d0 dC dI sV k as S I J r Q)
    (hnx : ∀ (pc : Nat) (L st : XV) (S : XS) (I : XI) (J : XJ) (r : XR) (cu su : Nat), nx pc L st S I J r cu su → XW p l e9 Rm s m args below meth c dC dI A a0 n0 sV nL mc ms Zf pc L st S I J r cu su)
    (hret : ∀ (pc : Nat) (L : XV) (cu su : Nat) (v : Option Value) (S : XS) (I : XI) (J : XJ) (r : XR), Q v S I J r → xretOk rt v → decode cc pc = .ok (xri v, 1) → XW p l e9 Rm s m args below meth c dC dI A a0 n0 sV nL mc ms Zf pc L v.toList S I J r cu su) {len a b d h n e : Nat} {z : Int32} {w : Int64} (hK : ∀ (L st : XV) (S : XS) (I : XI) (J : XJ) (r : XR) (cu su : Nat), K L st S I J r cu su → XW p l e9 Rm s m args below meth c dC dI A a0 n0 sV nL mc ms Zf (pc + len) L st S I J r cu su) (hok : ck18 own cc nL rt ini law pc len a b d h n e z w = true) (hst : xst sc cl nx Q mc ms K (18, len, a, b, d, h, n, e, z, w) L st S I J r cu su) : XW p l e9 Rm s m args below meth c dC dI A a0 n0 sV nL mc ms Zf pc L st S I J r cu su := by
  unfold ck18 at hok
  simp only [Bool.or_eq_true, Bool.and_eq_true, beq_iff_eq, decide_eq_true_eq, Bool.not_eq_true'] at hok
  obtain ⟨rfl, h3⟩ := hok
  simp only [xst] at hst
  split at hst
  · exact xs_lcmp F (xdec_ok h3) (hK _ _ _ _ _ _ _ _ hst)
  · exact hst.elim
theorem xi_19 (F : XFx p s m meth c args Rm cc own nL ini law sc mc ms A sV) {rt : Option FieldType} {d0 : Nat} {cl : XC} {nx : XN} {Q : XQ} (hfr : d0 + 1 ≤ Rm.frames) (hlo : 40 * (d0 + 1) ≤ Rm.locals)
    (hcl : ∀ (k : Nat) (as : XV) (S : XS) (I : XI) (J : XJ) (r : XR) (Q : XQ), cl k as S I J r Q → XMt l d0 dC dI sV k as S I J r Q)
    (hnx : ∀ (pc : Nat) (L st : XV) (S : XS) (I : XI) (J : XJ) (r : XR) (cu su : Nat), nx pc L st S I J r cu su → XW p l e9 Rm s m args below meth c dC dI A a0 n0 sV nL mc ms Zf pc L st S I J r cu su)
    (hret : ∀ (pc : Nat) (L : XV) (cu su : Nat) (v : Option Value) (S : XS) (I : XI) (J : XJ) (r : XR), Q v S I J r → xretOk rt v → decode cc pc = .ok (xri v, 1) → XW p l e9 Rm s m args below meth c dC dI A a0 n0 sV nL mc ms Zf pc L v.toList S I J r cu su) {len a b d h n e : Nat} {z : Int32} {w : Int64} (hK : ∀ (L st : XV) (S : XS) (I : XI) (J : XJ) (r : XR) (cu su : Nat), K L st S I J r cu su → XW p l e9 Rm s m args below meth c dC dI A a0 n0 sV nL mc ms Zf (pc + len) L st S I J r cu su) (hok : ck19 own cc nL rt ini law pc len a b d h n e z w = true) (hst : xst sc cl nx Q mc ms K (19, len, a, b, d, h, n, e, z, w) L st S I J r cu su) : XW p l e9 Rm s m args below meth c dC dI A a0 n0 sV nL mc ms Zf pc L st S I J r cu su := by
  unfold ck19 at hok
  simp only [Bool.or_eq_true, Bool.and_eq_true, beq_iff_eq, decide_eq_true_eq, Bool.not_eq_true'] at hok
  obtain ⟨rfl, h3⟩ := hok
  simp only [xst] at hst
  split at hst
  · exact xs_dup F hst.1 (xdec_ok h3) (hK _ _ _ _ _ _ _ _ hst.2)
  · exact hst.elim
theorem xi_20 (F : XFx p s m meth c args Rm cc own nL ini law sc mc ms A sV) {rt : Option FieldType} {d0 : Nat} {cl : XC} {nx : XN} {Q : XQ} (hfr : d0 + 1 ≤ Rm.frames) (hlo : 40 * (d0 + 1) ≤ Rm.locals)
    (hcl : ∀ (k : Nat) (as : XV) (S : XS) (I : XI) (J : XJ) (r : XR) (Q : XQ), cl k as S I J r Q → XMt l d0 dC dI sV k as S I J r Q)
    (hnx : ∀ (pc : Nat) (L st : XV) (S : XS) (I : XI) (J : XJ) (r : XR) (cu su : Nat), nx pc L st S I J r cu su → XW p l e9 Rm s m args below meth c dC dI A a0 n0 sV nL mc ms Zf pc L st S I J r cu su)
    (hret : ∀ (pc : Nat) (L : XV) (cu su : Nat) (v : Option Value) (S : XS) (I : XI) (J : XJ) (r : XR), Q v S I J r → xretOk rt v → decode cc pc = .ok (xri v, 1) → XW p l e9 Rm s m args below meth c dC dI A a0 n0 sV nL mc ms Zf pc L v.toList S I J r cu su) {len a b d h n e : Nat} {z : Int32} {w : Int64} (hK : ∀ (L st : XV) (S : XS) (I : XI) (J : XJ) (r : XR) (cu su : Nat), K L st S I J r cu su → XW p l e9 Rm s m args below meth c dC dI A a0 n0 sV nL mc ms Zf (pc + len) L st S I J r cu su) (hok : ck20 own cc nL rt ini law pc len a b d h n e z w = true) (hst : xst sc cl nx Q mc ms K (20, len, a, b, d, h, n, e, z, w) L st S I J r cu su) : XW p l e9 Rm s m args below meth c dC dI A a0 n0 sV nL mc ms Zf pc L st S I J r cu su := by
  unfold ck20 at hok
  simp only [Bool.or_eq_true, Bool.and_eq_true, beq_iff_eq, decide_eq_true_eq, Bool.not_eq_true'] at hok
  obtain ⟨rfl, h3⟩ := hok
  simp only [xst] at hst
  split at hst
  · exact xs_dup2 F hst.1 hst.2.1 (xdec_ok h3) (hK _ _ _ _ _ _ _ _ hst.2.2)
  · exact hst.elim
theorem xi_21 (F : XFx p s m meth c args Rm cc own nL ini law sc mc ms A sV) {rt : Option FieldType} {d0 : Nat} {cl : XC} {nx : XN} {Q : XQ} (hfr : d0 + 1 ≤ Rm.frames) (hlo : 40 * (d0 + 1) ≤ Rm.locals)
    (hcl : ∀ (k : Nat) (as : XV) (S : XS) (I : XI) (J : XJ) (r : XR) (Q : XQ), cl k as S I J r Q → XMt l d0 dC dI sV k as S I J r Q)
    (hnx : ∀ (pc : Nat) (L st : XV) (S : XS) (I : XI) (J : XJ) (r : XR) (cu su : Nat), nx pc L st S I J r cu su → XW p l e9 Rm s m args below meth c dC dI A a0 n0 sV nL mc ms Zf pc L st S I J r cu su)
    (hret : ∀ (pc : Nat) (L : XV) (cu su : Nat) (v : Option Value) (S : XS) (I : XI) (J : XJ) (r : XR), Q v S I J r → xretOk rt v → decode cc pc = .ok (xri v, 1) → XW p l e9 Rm s m args below meth c dC dI A a0 n0 sV nL mc ms Zf pc L v.toList S I J r cu su) {len a b d h n e : Nat} {z : Int32} {w : Int64} (hK : ∀ (L st : XV) (S : XS) (I : XI) (J : XJ) (r : XR) (cu su : Nat), K L st S I J r cu su → XW p l e9 Rm s m args below meth c dC dI A a0 n0 sV nL mc ms Zf (pc + len) L st S I J r cu su) (hok : ck21 own cc nL rt ini law pc len a b d h n e z w = true) (hst : xst sc cl nx Q mc ms K (21, len, a, b, d, h, n, e, z, w) L st S I J r cu su) : XW p l e9 Rm s m args below meth c dC dI A a0 n0 sV nL mc ms Zf pc L st S I J r cu su := by
  unfold ck21 at hok
  simp only [Bool.or_eq_true, Bool.and_eq_true, beq_iff_eq, decide_eq_true_eq, Bool.not_eq_true'] at hok
  obtain ⟨rfl, h3⟩ := hok
  simp only [xst] at hst
  split at hst
  · exact xs_pop F hst.1 (xdec_ok h3) (hK _ _ _ _ _ _ _ _ hst.2)
  · exact hst.elim
theorem xi_22 (F : XFx p s m meth c args Rm cc own nL ini law sc mc ms A sV) {rt : Option FieldType} {d0 : Nat} {cl : XC} {nx : XN} {Q : XQ} (hfr : d0 + 1 ≤ Rm.frames) (hlo : 40 * (d0 + 1) ≤ Rm.locals)
    (hcl : ∀ (k : Nat) (as : XV) (S : XS) (I : XI) (J : XJ) (r : XR) (Q : XQ), cl k as S I J r Q → XMt l d0 dC dI sV k as S I J r Q)
    (hnx : ∀ (pc : Nat) (L st : XV) (S : XS) (I : XI) (J : XJ) (r : XR) (cu su : Nat), nx pc L st S I J r cu su → XW p l e9 Rm s m args below meth c dC dI A a0 n0 sV nL mc ms Zf pc L st S I J r cu su)
    (hret : ∀ (pc : Nat) (L : XV) (cu su : Nat) (v : Option Value) (S : XS) (I : XI) (J : XJ) (r : XR), Q v S I J r → xretOk rt v → decode cc pc = .ok (xri v, 1) → XW p l e9 Rm s m args below meth c dC dI A a0 n0 sV nL mc ms Zf pc L v.toList S I J r cu su) {len a b d h n e : Nat} {z : Int32} {w : Int64} (hK : ∀ (L st : XV) (S : XS) (I : XI) (J : XJ) (r : XR) (cu su : Nat), K L st S I J r cu su → XW p l e9 Rm s m args below meth c dC dI A a0 n0 sV nL mc ms Zf (pc + len) L st S I J r cu su) (hok : ck22 own cc nL rt ini law pc len a b d h n e z w = true) (hst : xst sc cl nx Q mc ms K (22, len, a, b, d, h, n, e, z, w) L st S I J r cu su) : XW p l e9 Rm s m args below meth c dC dI A a0 n0 sV nL mc ms Zf pc L st S I J r cu su := by
  unfold ck22 at hok
  simp only [Bool.or_eq_true, Bool.and_eq_true, beq_iff_eq, decide_eq_true_eq, Bool.not_eq_true'] at hok
  obtain ⟨⟨rfl, h2⟩, h3⟩ := hok
  simp only [xst] at hst
  split at hst
  · exact xs_if F h2 (xdec_ok h3) (by omega) (fun q => hnx _ _ _ _ _ _ _ _ _ (hst.1 q)) (fun q => hK _ _ _ _ _ _ _ _ (hst.2 q))
  · exact hst.elim
theorem xi_23 (F : XFx p s m meth c args Rm cc own nL ini law sc mc ms A sV) {rt : Option FieldType} {d0 : Nat} {cl : XC} {nx : XN} {Q : XQ} (hfr : d0 + 1 ≤ Rm.frames) (hlo : 40 * (d0 + 1) ≤ Rm.locals)
    (hcl : ∀ (k : Nat) (as : XV) (S : XS) (I : XI) (J : XJ) (r : XR) (Q : XQ), cl k as S I J r Q → XMt l d0 dC dI sV k as S I J r Q)
    (hnx : ∀ (pc : Nat) (L st : XV) (S : XS) (I : XI) (J : XJ) (r : XR) (cu su : Nat), nx pc L st S I J r cu su → XW p l e9 Rm s m args below meth c dC dI A a0 n0 sV nL mc ms Zf pc L st S I J r cu su)
    (hret : ∀ (pc : Nat) (L : XV) (cu su : Nat) (v : Option Value) (S : XS) (I : XI) (J : XJ) (r : XR), Q v S I J r → xretOk rt v → decode cc pc = .ok (xri v, 1) → XW p l e9 Rm s m args below meth c dC dI A a0 n0 sV nL mc ms Zf pc L v.toList S I J r cu su) {len a b d h n e : Nat} {z : Int32} {w : Int64} (hK : ∀ (L st : XV) (S : XS) (I : XI) (J : XJ) (r : XR) (cu su : Nat), K L st S I J r cu su → XW p l e9 Rm s m args below meth c dC dI A a0 n0 sV nL mc ms Zf (pc + len) L st S I J r cu su) (hok : ck23 own cc nL rt ini law pc len a b d h n e z w = true) (hst : xst sc cl nx Q mc ms K (23, len, a, b, d, h, n, e, z, w) L st S I J r cu su) : XW p l e9 Rm s m args below meth c dC dI A a0 n0 sV nL mc ms Zf pc L st S I J r cu su := by
  unfold ck23 at hok
  simp only [Bool.or_eq_true, Bool.and_eq_true, beq_iff_eq, decide_eq_true_eq, Bool.not_eq_true'] at hok
  obtain ⟨⟨rfl, h2⟩, h3⟩ := hok
  simp only [xst] at hst
  split at hst
  · exact xs_icmp F h2 (xdec_ok h3) (by omega) (fun q => hnx _ _ _ _ _ _ _ _ _ (hst.1 q)) (fun q => hK _ _ _ _ _ _ _ _ (hst.2 q))
  · exact hst.elim
theorem xi_24 (F : XFx p s m meth c args Rm cc own nL ini law sc mc ms A sV) {rt : Option FieldType} {d0 : Nat} {cl : XC} {nx : XN} {Q : XQ} (hfr : d0 + 1 ≤ Rm.frames) (hlo : 40 * (d0 + 1) ≤ Rm.locals)
    (hcl : ∀ (k : Nat) (as : XV) (S : XS) (I : XI) (J : XJ) (r : XR) (Q : XQ), cl k as S I J r Q → XMt l d0 dC dI sV k as S I J r Q)
    (hnx : ∀ (pc : Nat) (L st : XV) (S : XS) (I : XI) (J : XJ) (r : XR) (cu su : Nat), nx pc L st S I J r cu su → XW p l e9 Rm s m args below meth c dC dI A a0 n0 sV nL mc ms Zf pc L st S I J r cu su)
    (hret : ∀ (pc : Nat) (L : XV) (cu su : Nat) (v : Option Value) (S : XS) (I : XI) (J : XJ) (r : XR), Q v S I J r → xretOk rt v → decode cc pc = .ok (xri v, 1) → XW p l e9 Rm s m args below meth c dC dI A a0 n0 sV nL mc ms Zf pc L v.toList S I J r cu su) {len a b d h n e : Nat} {z : Int32} {w : Int64} (hK : ∀ (L st : XV) (S : XS) (I : XI) (J : XJ) (r : XR) (cu su : Nat), K L st S I J r cu su → XW p l e9 Rm s m args below meth c dC dI A a0 n0 sV nL mc ms Zf (pc + len) L st S I J r cu su) (hok : ck24 own cc nL rt ini law pc len a b d h n e z w = true) (hst : xst sc cl nx Q mc ms K (24, len, a, b, d, h, n, e, z, w) L st S I J r cu su) : XW p l e9 Rm s m args below meth c dC dI A a0 n0 sV nL mc ms Zf pc L st S I J r cu su := by
  unfold ck24 at hok
  simp only [Bool.or_eq_true, Bool.and_eq_true, beq_iff_eq, decide_eq_true_eq, Bool.not_eq_true'] at hok
  rcases hok with ⟨h1, rfl⟩ | ⟨⟨h1, h2⟩, h3⟩
  · exact hnx _ _ _ _ _ _ _ _ _ hst
  · exact xs_goto F (xdec_ok h3) (by omega) (hnx _ _ _ _ _ _ _ _ _ hst)
theorem xi_25 (F : XFx p s m meth c args Rm cc own nL ini law sc mc ms A sV) {rt : Option FieldType} {d0 : Nat} {cl : XC} {nx : XN} {Q : XQ} (hfr : d0 + 1 ≤ Rm.frames) (hlo : 40 * (d0 + 1) ≤ Rm.locals)
    (hcl : ∀ (k : Nat) (as : XV) (S : XS) (I : XI) (J : XJ) (r : XR) (Q : XQ), cl k as S I J r Q → XMt l d0 dC dI sV k as S I J r Q)
    (hnx : ∀ (pc : Nat) (L st : XV) (S : XS) (I : XI) (J : XJ) (r : XR) (cu su : Nat), nx pc L st S I J r cu su → XW p l e9 Rm s m args below meth c dC dI A a0 n0 sV nL mc ms Zf pc L st S I J r cu su)
    (hret : ∀ (pc : Nat) (L : XV) (cu su : Nat) (v : Option Value) (S : XS) (I : XI) (J : XJ) (r : XR), Q v S I J r → xretOk rt v → decode cc pc = .ok (xri v, 1) → XW p l e9 Rm s m args below meth c dC dI A a0 n0 sV nL mc ms Zf pc L v.toList S I J r cu su) {len a b d h n e : Nat} {z : Int32} {w : Int64} (hK : ∀ (L st : XV) (S : XS) (I : XI) (J : XJ) (r : XR) (cu su : Nat), K L st S I J r cu su → XW p l e9 Rm s m args below meth c dC dI A a0 n0 sV nL mc ms Zf (pc + len) L st S I J r cu su) (hok : ck25 own cc nL rt ini law pc len a b d h n e z w = true) (hst : xst sc cl nx Q mc ms K (25, len, a, b, d, h, n, e, z, w) L st S I J r cu su) : XW p l e9 Rm s m args below meth c dC dI A a0 n0 sV nL mc ms Zf pc L st S I J r cu su := by
  unfold ck25 at hok
  simp only [Bool.or_eq_true, Bool.and_eq_true, beq_iff_eq, decide_eq_true_eq, Bool.not_eq_true'] at hok
  obtain ⟨rfl, hok⟩ := hok
  simp only [xst] at hst
  rcases hok with ⟨rfl, h3⟩ | ⟨rfl, h3⟩
  · rcases st with _ | ⟨v, st⟩
    · exact hst.elim
    cases v with
    | null => exact xs_ifnull_N (a := a) (x := 0) F (xdec_ok h3) (by omega) (hnx _ _ _ _ _ _ _ _ _ hst)
    | ref x => exact xs_ifnull_R (a := a) F (xdec_ok h3) (by omega) (hK _ _ _ _ _ _ _ _ hst)
    | _ => exact hst.elim
  · rcases st with _ | ⟨v, st⟩
    · exact hst.elim
    cases v with
    | null => exact xs_ifnonnull_N (a := a) (x := 0) F (xdec_ok h3) (by omega) (hK _ _ _ _ _ _ _ _ hst)
    | ref x => exact xs_ifnonnull_R (a := a) F (xdec_ok h3) (by omega) (hnx _ _ _ _ _ _ _ _ _ hst)
    | _ => exact hst.elim
theorem xi_26 (F : XFx p s m meth c args Rm cc own nL ini law sc mc ms A sV) {rt : Option FieldType} {d0 : Nat} {cl : XC} {nx : XN} {Q : XQ} (hfr : d0 + 1 ≤ Rm.frames) (hlo : 40 * (d0 + 1) ≤ Rm.locals)
    (hcl : ∀ (k : Nat) (as : XV) (S : XS) (I : XI) (J : XJ) (r : XR) (Q : XQ), cl k as S I J r Q → XMt l d0 dC dI sV k as S I J r Q)
    (hnx : ∀ (pc : Nat) (L st : XV) (S : XS) (I : XI) (J : XJ) (r : XR) (cu su : Nat), nx pc L st S I J r cu su → XW p l e9 Rm s m args below meth c dC dI A a0 n0 sV nL mc ms Zf pc L st S I J r cu su)
    (hret : ∀ (pc : Nat) (L : XV) (cu su : Nat) (v : Option Value) (S : XS) (I : XI) (J : XJ) (r : XR), Q v S I J r → xretOk rt v → decode cc pc = .ok (xri v, 1) → XW p l e9 Rm s m args below meth c dC dI A a0 n0 sV nL mc ms Zf pc L v.toList S I J r cu su) {len a b d h n e : Nat} {z : Int32} {w : Int64} (hK : ∀ (L st : XV) (S : XS) (I : XI) (J : XJ) (r : XR) (cu su : Nat), K L st S I J r cu su → XW p l e9 Rm s m args below meth c dC dI A a0 n0 sV nL mc ms Zf (pc + len) L st S I J r cu su) (hok : ck26 own cc nL rt ini law pc len a b d h n e z w = true) (hst : xst sc cl nx Q mc ms K (26, len, a, b, d, h, n, e, z, w) L st S I J r cu su) : XW p l e9 Rm s m args below meth c dC dI A a0 n0 sV nL mc ms Zf pc L st S I J r cu su := by
  unfold ck26 at hok
  simp only [xst] at hst
  split at hst
  · have k1 := hnx _ _ _ _ _ _ _ _ _ (xsw_swt _ hst)
    split at hok
    · rename_i df lo hi offs l9 hdec
      simp only [Bool.and_eq_true, decide_eq_true_eq] at hok
      obtain ⟨⟨h1, h2⟩, h3⟩ := hok
      refine xs_tsw F hdec h1 h2 (fun j hj => ?_) k1
      have h4 := List.all_eq_true.mp h3 j (List.mem_range.mpr hj)
      rw [Bool.and_eq_true] at h4
      refine ⟨of_decide_eq_true h4.1, ?_⟩
      cases hx : offs[j]? with
      | none => rw [hx] at h4; cases h4.2
      | some off => rw [hx] at h4; exact ⟨off, rfl, of_decide_eq_true h4.2⟩
    · rename_i df ps l9 hdec
      simp only [Bool.and_eq_true, decide_eq_true_eq] at hok
      exact xs_lsw F hdec hok.1.1 hok.1.2 hok.2 k1
    · cases hok
  · exact hst.elim
theorem xi_27 (F : XFx p s m meth c args Rm cc own nL ini law sc mc ms A sV) {rt : Option FieldType} {d0 : Nat} {cl : XC} {nx : XN} {Q : XQ} (hfr : d0 + 1 ≤ Rm.frames) (hlo : 40 * (d0 + 1) ≤ Rm.locals)
    (hcl : ∀ (k : Nat) (as : XV) (S : XS) (I : XI) (J : XJ) (r : XR) (Q : XQ), cl k as S I J r Q → XMt l d0 dC dI sV k as S I J r Q)
    (hnx : ∀ (pc : Nat) (L st : XV) (S : XS) (I : XI) (J : XJ) (r : XR) (cu su : Nat), nx pc L st S I J r cu su → XW p l e9 Rm s m args below meth c dC dI A a0 n0 sV nL mc ms Zf pc L st S I J r cu su)
    (hret : ∀ (pc : Nat) (L : XV) (cu su : Nat) (v : Option Value) (S : XS) (I : XI) (J : XJ) (r : XR), Q v S I J r → xretOk rt v → decode cc pc = .ok (xri v, 1) → XW p l e9 Rm s m args below meth c dC dI A a0 n0 sV nL mc ms Zf pc L v.toList S I J r cu su) {len a b d h n e : Nat} {z : Int32} {w : Int64} (hK : ∀ (L st : XV) (S : XS) (I : XI) (J : XJ) (r : XR) (cu su : Nat), K L st S I J r cu su → XW p l e9 Rm s m args below meth c dC dI A a0 n0 sV nL mc ms Zf (pc + len) L st S I J r cu su) (hok : ck27 own cc nL rt ini law pc len a b d h n e z w = true) (hst : xst sc cl nx Q mc ms K (27, len, a, b, d, h, n, e, z, w) L st S I J r cu su) : XW p l e9 Rm s m args below meth c dC dI A a0 n0 sV nL mc ms Zf pc L st S I J r cu su := by
  unfold ck27 at hok
  simp only [Bool.or_eq_true, Bool.and_eq_true, beq_iff_eq, decide_eq_true_eq, Bool.not_eq_true'] at hok
  obtain ⟨-, hok⟩ := hok
  simp only [xst] at hst
  rcases hok with ((((⟨⟨rfl, h1⟩, h2⟩ | ⟨⟨rfl, h1⟩, h2⟩) | ⟨⟨rfl, h1⟩, h2⟩) | ⟨⟨rfl, h1⟩, h2⟩) | ⟨⟨rfl, h1⟩, h2⟩) | ⟨⟨rfl, h1⟩, h2⟩
  · rcases st with _ | ⟨v, _ | ⟨u, st⟩⟩
    · exact hst.elim
    · cases v <;> first | exact hst.elim | skip
      rename_i x
      exact hret pc L cu su (some (.int x)) _ _ _ _ hst (by rw [h1]; rfl) (xdec_ok h2)
    · cases v <;> exact hst.elim
  · rcases st with _ | ⟨v, _ | ⟨u, st⟩⟩
    · exact hst.elim
    · cases v <;> first | exact hst.elim | skip
      rename_i x
      exact hret pc L cu su (some (.int x)) _ _ _ _ hst.2 (by rw [h1]; rcases hst.1 with e | e <;> rw [e] <;> rfl) (xdec_ok h2)
    · cases v <;> exact hst.elim
  · rcases st with _ | ⟨v, _ | ⟨u, st⟩⟩
    · exact hst.elim
    · cases v <;> first | exact hst.elim | skip
      rename_i x
      exact hret pc L cu su (some (.long x)) _ _ _ _ hst (by rw [h1]; trivial) (xdec_ok h2)
    · cases v <;> exact hst.elim
  · rcases st with _ | ⟨v, st⟩
    · exact hret pc L cu su none _ _ _ _ hst (by rw [h1]; trivial) (xdec_ok h2)
    · cases v <;> exact hst.elim
  · rcases st with _ | ⟨v, _ | ⟨u, st⟩⟩
    · exact hst.elim
    · cases v <;> first | exact hst.elim | skip
      rename_i x
      exact hret pc L cu su (some (.int x)) _ _ _ _ hst.2 (by rw [h1]; exact congrArg Value.int hst.1) (xdec_ok h2)
    · cases v <;> exact hst.elim
  · rcases st with _ | ⟨v, _ | ⟨u, st⟩⟩
    · exact hst.elim
    · cases v <;> first | exact hst.elim | skip
      rename_i x
      exact hret pc L cu su (some (.int x)) _ _ _ _ hst.2 (by rw [h1]; exact congrArg Value.int hst.1) (xdec_ok h2)
    · cases v <;> exact hst.elim
theorem xi_28 (F : XFx p s m meth c args Rm cc own nL ini law sc mc ms A sV) {rt : Option FieldType} {d0 : Nat} {cl : XC} {nx : XN} {Q : XQ} (hfr : d0 + 1 ≤ Rm.frames) (hlo : 40 * (d0 + 1) ≤ Rm.locals)
    (hcl : ∀ (k : Nat) (as : XV) (S : XS) (I : XI) (J : XJ) (r : XR) (Q : XQ), cl k as S I J r Q → XMt l d0 dC dI sV k as S I J r Q)
    (hnx : ∀ (pc : Nat) (L st : XV) (S : XS) (I : XI) (J : XJ) (r : XR) (cu su : Nat), nx pc L st S I J r cu su → XW p l e9 Rm s m args below meth c dC dI A a0 n0 sV nL mc ms Zf pc L st S I J r cu su)
    (hret : ∀ (pc : Nat) (L : XV) (cu su : Nat) (v : Option Value) (S : XS) (I : XI) (J : XJ) (r : XR), Q v S I J r → xretOk rt v → decode cc pc = .ok (xri v, 1) → XW p l e9 Rm s m args below meth c dC dI A a0 n0 sV nL mc ms Zf pc L v.toList S I J r cu su) {len a b d h n e : Nat} {z : Int32} {w : Int64} (hK : ∀ (L st : XV) (S : XS) (I : XI) (J : XJ) (r : XR) (cu su : Nat), K L st S I J r cu su → XW p l e9 Rm s m args below meth c dC dI A a0 n0 sV nL mc ms Zf (pc + len) L st S I J r cu su) (hok : ck28 own cc nL rt ini law pc len a b d h n e z w = true) (hst : xst sc cl nx Q mc ms K (28, len, a, b, d, h, n, e, z, w) L st S I J r cu su) : XW p l e9 Rm s m args below meth c dC dI A a0 n0 sV nL mc ms Zf pc L st S I J r cu su := by
  unfold ck28 at hok
  simp only [Bool.or_eq_true, Bool.and_eq_true, beq_iff_eq, decide_eq_true_eq, Bool.not_eq_true'] at hok
  obtain ⟨⟨⟨rfl, h1⟩, h2⟩, h3⟩ := hok
  exact xs_new F h1 (xw_in h2) (okK_in h1).1 (okK_in h1).2 (xdec_ok h3) hst.1 hst.2.1 (hK _ _ _ _ _ _ _ _ hst.2.2)
theorem xi_29 (F : XFx p s m meth c args Rm cc own nL ini law sc mc ms A sV) {rt : Option FieldType} {d0 : Nat} {cl : XC} {nx : XN} {Q : XQ} (hfr : d0 + 1 ≤ Rm.frames) (hlo : 40 * (d0 + 1) ≤ Rm.locals)
    (hcl : ∀ (k : Nat) (as : XV) (S : XS) (I : XI) (J : XJ) (r : XR) (Q : XQ), cl k as S I J r Q → XMt l d0 dC dI sV k as S I J r Q)
    (hnx : ∀ (pc : Nat) (L st : XV) (S : XS) (I : XI) (J : XJ) (r : XR) (cu su : Nat), nx pc L st S I J r cu su → XW p l e9 Rm s m args below meth c dC dI A a0 n0 sV nL mc ms Zf pc L st S I J r cu su)
    (hret : ∀ (pc : Nat) (L : XV) (cu su : Nat) (v : Option Value) (S : XS) (I : XI) (J : XJ) (r : XR), Q v S I J r → xretOk rt v → decode cc pc = .ok (xri v, 1) → XW p l e9 Rm s m args below meth c dC dI A a0 n0 sV nL mc ms Zf pc L v.toList S I J r cu su) {len a b d h n e : Nat} {z : Int32} {w : Int64} (hK : ∀ (L st : XV) (S : XS) (I : XI) (J : XJ) (r : XR) (cu su : Nat), K L st S I J r cu su → XW p l e9 Rm s m args below meth c dC dI A a0 n0 sV nL mc ms Zf (pc + len) L st S I J r cu su) (hok : ck29 own cc nL rt ini law pc len a b d h n e z w = true) (hst : xst sc cl nx Q mc ms K (29, len, a, b, d, h, n, e, z, w) L st S I J r cu su) : XW p l e9 Rm s m args below meth c dC dI A a0 n0 sV nL mc ms Zf pc L st S I J r cu su := by
  unfold ck29 at hok
  simp only [Bool.or_eq_true, Bool.and_eq_true, beq_iff_eq, decide_eq_true_eq, Bool.not_eq_true'] at hok
  obtain ⟨rfl, hok⟩ := hok
  simp only [xst] at hst
  split at hst
  · obtain ⟨g1, g2, g3, g4, hst⟩ := hst
    rcases hok with (⟨rfl, h3⟩ | ⟨rfl, h3⟩) | ⟨rfl, h3⟩
    · exact xs_newa (atype := .int) F rfl (Or.inl rfl) xc_ai (xdec_ok h3) g1 g2 g3 g4 (hK _ _ _ _ _ _ _ _ hst)
    · exact xs_newa (atype := .long) F rfl (Or.inr (Or.inl rfl)) xc_al (xdec_ok h3) g1 g2 g3 g4 (hK _ _ _ _ _ _ _ _ hst)
    · exact xs_newa (atype := .byte) F rfl (Or.inr (Or.inr rfl)) xc_ab (xdec_ok h3) g1 g2 g3 g4 (hK _ _ _ _ _ _ _ _ hst)
  · exact hst.elim
theorem xi_30 (F : XFx p s m meth c args Rm cc own nL ini law sc mc ms A sV) {rt : Option FieldType} {d0 : Nat} {cl : XC} {nx : XN} {Q : XQ} (hfr : d0 + 1 ≤ Rm.frames) (hlo : 40 * (d0 + 1) ≤ Rm.locals)
    (hcl : ∀ (k : Nat) (as : XV) (S : XS) (I : XI) (J : XJ) (r : XR) (Q : XQ), cl k as S I J r Q → XMt l d0 dC dI sV k as S I J r Q)
    (hnx : ∀ (pc : Nat) (L st : XV) (S : XS) (I : XI) (J : XJ) (r : XR) (cu su : Nat), nx pc L st S I J r cu su → XW p l e9 Rm s m args below meth c dC dI A a0 n0 sV nL mc ms Zf pc L st S I J r cu su)
    (hret : ∀ (pc : Nat) (L : XV) (cu su : Nat) (v : Option Value) (S : XS) (I : XI) (J : XJ) (r : XR), Q v S I J r → xretOk rt v → decode cc pc = .ok (xri v, 1) → XW p l e9 Rm s m args below meth c dC dI A a0 n0 sV nL mc ms Zf pc L v.toList S I J r cu su) {len a b d h n e : Nat} {z : Int32} {w : Int64} (hK : ∀ (L st : XV) (S : XS) (I : XI) (J : XJ) (r : XR) (cu su : Nat), K L st S I J r cu su → XW p l e9 Rm s m args below meth c dC dI A a0 n0 sV nL mc ms Zf (pc + len) L st S I J r cu su) (hok : ck30 own cc nL rt ini law pc len a b d h n e z w = true) (hst : xst sc cl nx Q mc ms K (30, len, a, b, d, h, n, e, z, w) L st S I J r cu su) : XW p l e9 Rm s m args below meth c dC dI A a0 n0 sV nL mc ms Zf pc L st S I J r cu su := by
  unfold ck30 at hok
  simp only [Bool.or_eq_true, Bool.and_eq_true, beq_iff_eq, decide_eq_true_eq, Bool.not_eq_true'] at hok
  obtain ⟨⟨rfl, h2⟩, h3⟩ := hok
  simp only [xst] at hst
  split at hst
  · obtain ⟨g1, g2, g3, g4, hst⟩ := hst
    exact xs_anewa F (xw_in h2) (xdec_ok h3) g1 g2 g3 g4 (hK _ _ _ _ _ _ _ _ hst)
  · exact hst.elim
theorem xi_31 (F : XFx p s m meth c args Rm cc own nL ini law sc mc ms A sV) {rt : Option FieldType} {d0 : Nat} {cl : XC} {nx : XN} {Q : XQ} (hfr : d0 + 1 ≤ Rm.frames) (hlo : 40 * (d0 + 1) ≤ Rm.locals)
    (hcl : ∀ (k : Nat) (as : XV) (S : XS) (I : XI) (J : XJ) (r : XR) (Q : XQ), cl k as S I J r Q → XMt l d0 dC dI sV k as S I J r Q)
    (hnx : ∀ (pc : Nat) (L st : XV) (S : XS) (I : XI) (J : XJ) (r : XR) (cu su : Nat), nx pc L st S I J r cu su → XW p l e9 Rm s m args below meth c dC dI A a0 n0 sV nL mc ms Zf pc L st S I J r cu su)
    (hret : ∀ (pc : Nat) (L : XV) (cu su : Nat) (v : Option Value) (S : XS) (I : XI) (J : XJ) (r : XR), Q v S I J r → xretOk rt v → decode cc pc = .ok (xri v, 1) → XW p l e9 Rm s m args below meth c dC dI A a0 n0 sV nL mc ms Zf pc L v.toList S I J r cu su) {len a b d h n e : Nat} {z : Int32} {w : Int64} (hK : ∀ (L st : XV) (S : XS) (I : XI) (J : XJ) (r : XR) (cu su : Nat), K L st S I J r cu su → XW p l e9 Rm s m args below meth c dC dI A a0 n0 sV nL mc ms Zf (pc + len) L st S I J r cu su) (hok : ck31 own cc nL rt ini law pc len a b d h n e z w = true) (hst : xst sc cl nx Q mc ms K (31, len, a, b, d, h, n, e, z, w) L st S I J r cu su) : XW p l e9 Rm s m args below meth c dC dI A a0 n0 sV nL mc ms Zf pc L st S I J r cu su := by
  unfold ck31 at hok
  simp only [Bool.or_eq_true, Bool.and_eq_true, beq_iff_eq, decide_eq_true_eq, Bool.not_eq_true'] at hok
  obtain ⟨⟨rfl, h2⟩, h3⟩ := hok
  simp only [xst] at hst
  split at hst
  · obtain ⟨⟨q0, n1, g1⟩, rfl, rfl, g4, g5, hst⟩ := hst
    exact xs_mna F (xw_in h2) xc_al (xdec_ok h3) g1 g4 g5 (hK _ _ _ _ _ _ _ _ hst)
  · exact hst.elim
theorem xi_32 (F : XFx p s m meth c args Rm cc own nL ini law sc mc ms A sV) {rt : Option FieldType} {d0 : Nat} {cl : XC} {nx : XN} {Q : XQ} (hfr : d0 + 1 ≤ Rm.frames) (hlo : 40 * (d0 + 1) ≤ Rm.locals)
    (hcl : ∀ (k : Nat) (as : XV) (S : XS) (I : XI) (J : XJ) (r : XR) (Q : XQ), cl k as S I J r Q → XMt l d0 dC dI sV k as S I J r Q)
    (hnx : ∀ (pc : Nat) (L st : XV) (S : XS) (I : XI) (J : XJ) (r : XR) (cu su : Nat), nx pc L st S I J r cu su → XW p l e9 Rm s m args below meth c dC dI A a0 n0 sV nL mc ms Zf pc L st S I J r cu su)
    (hret : ∀ (pc : Nat) (L : XV) (cu su : Nat) (v : Option Value) (S : XS) (I : XI) (J : XJ) (r : XR), Q v S I J r → xretOk rt v → decode cc pc = .ok (xri v, 1) → XW p l e9 Rm s m args below meth c dC dI A a0 n0 sV nL mc ms Zf pc L v.toList S I J r cu su) {len a b d h n e : Nat} {z : Int32} {w : Int64} (hK : ∀ (L st : XV) (S : XS) (I : XI) (J : XJ) (r : XR) (cu su : Nat), K L st S I J r cu su → XW p l e9 Rm s m args below meth c dC dI A a0 n0 sV nL mc ms Zf (pc + len) L st S I J r cu su) (hok : ck32 own cc nL rt ini law pc len a b d h n e z w = true) (hst : xst sc cl nx Q mc ms K (32, len, a, b, d, h, n, e, z, w) L st S I J r cu su) : XW p l e9 Rm s m args below meth c dC dI A a0 n0 sV nL mc ms Zf pc L st S I J r cu su := by
  unfold ck32 at hok
  simp only [Bool.or_eq_true, Bool.and_eq_true, beq_iff_eq, decide_eq_true_eq, Bool.not_eq_true'] at hok
  obtain ⟨rfl, h3⟩ := hok
  simp only [xst] at hst
  split at hst
  · obtain ⟨t, n, g1, g2, hst⟩ := hst
    exact xs_alen F g1 g2 (xdec_ok h3) (hK _ _ _ _ _ _ _ _ hst)
  · exact hst.elim
theorem xi_33 (F : XFx p s m meth c args Rm cc own nL ini law sc mc ms A sV) {rt : Option FieldType} {d0 : Nat} {cl : XC} {nx : XN} {Q : XQ} (hfr : d0 + 1 ≤ Rm.frames) (hlo : 40 * (d0 + 1) ≤ Rm.locals)
    (hcl : ∀ (k : Nat) (as : XV) (S : XS) (I : XI) (J : XJ) (r : XR) (Q : XQ), cl k as S I J r Q → XMt l d0 dC dI sV k as S I J r Q)
    (hnx : ∀ (pc : Nat) (L st : XV) (S : XS) (I : XI) (J : XJ) (r : XR) (cu su : Nat), nx pc L st S I J r cu su → XW p l e9 Rm s m args below meth c dC dI A a0 n0 sV nL mc ms Zf pc L st S I J r cu su)
    (hret : ∀ (pc : Nat) (L : XV) (cu su : Nat) (v : Option Value) (S : XS) (I : XI) (J : XJ) (r : XR), Q v S I J r → xretOk rt v → decode cc pc = .ok (xri v, 1) → XW p l e9 Rm s m args below meth c dC dI A a0 n0 sV nL mc ms Zf pc L v.toList S I J r cu su) {len a b d h n e : Nat} {z : Int32} {w : Int64} (hK : ∀ (L st : XV) (S : XS) (I : XI) (J : XJ) (r : XR) (cu su : Nat), K L st S I J r cu su → XW p l e9 Rm s m args below meth c dC dI A a0 n0 sV nL mc ms Zf (pc + len) L st S I J r cu su) (hok : ck33 own cc nL rt ini law pc len a b d h n e z w = true) (hst : xst sc cl nx Q mc ms K (33, len, a, b, d, h, n, e, z, w) L st S I J r cu su) : XW p l e9 Rm s m args below meth c dC dI A a0 n0 sV nL mc ms Zf pc L st S I J r cu su := by
  unfold ck33 at hok
  simp only [Bool.or_eq_true, Bool.and_eq_true, beq_iff_eq, decide_eq_true_eq, Bool.not_eq_true'] at hok
  obtain ⟨rfl, h3⟩ := hok
  simp only [xst] at hst
  split at hst
  · obtain ⟨n, g1, g2, hst⟩ := hst
    exact xs_iald F g1 g2 (xdec_ok h3) (hK _ _ _ _ _ _ _ _ hst)
  · exact hst.elim
theorem xi_34 (F : XFx p s m meth c args Rm cc own nL ini law sc mc ms A sV) {rt : Option FieldType} {d0 : Nat} {cl : XC} {nx : XN} {Q : XQ} (hfr : d0 + 1 ≤ Rm.frames) (hlo : 40 * (d0 + 1) ≤ Rm.locals)
    (hcl : ∀ (k : Nat) (as : XV) (S : XS) (I : XI) (J : XJ) (r : XR) (Q : XQ), cl k as S I J r Q → XMt l d0 dC dI sV k as S I J r Q)
    (hnx : ∀ (pc : Nat) (L st : XV) (S : XS) (I : XI) (J : XJ) (r : XR) (cu su : Nat), nx pc L st S I J r cu su → XW p l e9 Rm s m args below meth c dC dI A a0 n0 sV nL mc ms Zf pc L st S I J r cu su)
    (hret : ∀ (pc : Nat) (L : XV) (cu su : Nat) (v : Option Value) (S : XS) (I : XI) (J : XJ) (r : XR), Q v S I J r → xretOk rt v → decode cc pc = .ok (xri v, 1) → XW p l e9 Rm s m args below meth c dC dI A a0 n0 sV nL mc ms Zf pc L v.toList S I J r cu su) {len a b d h n e : Nat} {z : Int32} {w : Int64} (hK : ∀ (L st : XV) (S : XS) (I : XI) (J : XJ) (r : XR) (cu su : Nat), K L st S I J r cu su → XW p l e9 Rm s m args below meth c dC dI A a0 n0 sV nL mc ms Zf (pc + len) L st S I J r cu su) (hok : ck34 own cc nL rt ini law pc len a b d h n e z w = true) (hst : xst sc cl nx Q mc ms K (34, len, a, b, d, h, n, e, z, w) L st S I J r cu su) : XW p l e9 Rm s m args below meth c dC dI A a0 n0 sV nL mc ms Zf pc L st S I J r cu su := by
  unfold ck34 at hok
  simp only [Bool.or_eq_true, Bool.and_eq_true, beq_iff_eq, decide_eq_true_eq, Bool.not_eq_true'] at hok
  obtain ⟨rfl, h3⟩ := hok
  simp only [xst] at hst
  split at hst
  · obtain ⟨n, g1, g2, hst⟩ := hst
    exact xs_iast F g1 g2 (xdec_ok h3) (hK _ _ _ _ _ _ _ _ hst)
  · exact hst.elim
theorem xi_35 (F : XFx p s m meth c args Rm cc own nL ini law sc mc ms A sV) {rt : Option FieldType} {d0 : Nat} {cl : XC} {nx : XN} {Q : XQ} (hfr : d0 + 1 ≤ Rm.frames) (hlo : 40 * (d0 + 1) ≤ Rm.locals)
    (hcl : ∀ (k : Nat) (as : XV) (S : XS) (I : XI) (J : XJ) (r : XR) (Q : XQ), cl k as S I J r Q → XMt l d0 dC dI sV k as S I J r Q)
    (hnx : ∀ (pc : Nat) (L st : XV) (S : XS) (I : XI) (J : XJ) (r : XR) (cu su : Nat), nx pc L st S I J r cu su → XW p l e9 Rm s m args below meth c dC dI A a0 n0 sV nL mc ms Zf pc L st S I J r cu su)
    (hret : ∀ (pc : Nat) (L : XV) (cu su : Nat) (v : Option Value) (S : XS) (I : XI) (J : XJ) (r : XR), Q v S I J r → xretOk rt v → decode cc pc = .ok (xri v, 1) → XW p l e9 Rm s m args below meth c dC dI A a0 n0 sV nL mc ms Zf pc L v.toList S I J r cu su) {len a b d h n e : Nat} {z : Int32} {w : Int64} (hK : ∀ (L st : XV) (S : XS) (I : XI) (J : XJ) (r : XR) (cu su : Nat), K L st S I J r cu su → XW p l e9 Rm s m args below meth c dC dI A a0 n0 sV nL mc ms Zf (pc + len) L st S I J r cu su) (hok : ck35 own cc nL rt ini law pc len a b d h n e z w = true) (hst : xst sc cl nx Q mc ms K (35, len, a, b, d, h, n, e, z, w) L st S I J r cu su) : XW p l e9 Rm s m args below meth c dC dI A a0 n0 sV nL mc ms Zf pc L st S I J r cu su := by
  unfold ck35 at hok
  simp only [Bool.or_eq_true, Bool.and_eq_true, beq_iff_eq, decide_eq_true_eq, Bool.not_eq_true'] at hok
  obtain ⟨rfl, h3⟩ := hok
  simp only [xst] at hst
  split at hst
  · obtain ⟨n, g1, g2, hst⟩ := hst
    exact xs_lald F g1 g2 (xdec_ok h3) (hK _ _ _ _ _ _ _ _ hst)
  · exact hst.elim
theorem xi_36 (F : XFx p s m meth c args Rm cc own nL ini law sc mc ms A sV) {rt : Option FieldType} {d0 : Nat} {cl : XC} {nx : XN} {Q : XQ} (hfr : d0 + 1 ≤ Rm.frames) (hlo : 40 * (d0 + 1) ≤ Rm.locals)
    (hcl : ∀ (k : Nat) (as : XV) (S : XS) (I : XI) (J : XJ) (r : XR) (Q : XQ), cl k as S I J r Q → XMt l d0 dC dI sV k as S I J r Q)
    (hnx : ∀ (pc : Nat) (L st : XV) (S : XS) (I : XI) (J : XJ) (r : XR) (cu su : Nat), nx pc L st S I J r cu su → XW p l e9 Rm s m args below meth c dC dI A a0 n0 sV nL mc ms Zf pc L st S I J r cu su)
    (hret : ∀ (pc : Nat) (L : XV) (cu su : Nat) (v : Option Value) (S : XS) (I : XI) (J : XJ) (r : XR), Q v S I J r → xretOk rt v → decode cc pc = .ok (xri v, 1) → XW p l e9 Rm s m args below meth c dC dI A a0 n0 sV nL mc ms Zf pc L v.toList S I J r cu su) {len a b d h n e : Nat} {z : Int32} {w : Int64} (hK : ∀ (L st : XV) (S : XS) (I : XI) (J : XJ) (r : XR) (cu su : Nat), K L st S I J r cu su → XW p l e9 Rm s m args below meth c dC dI A a0 n0 sV nL mc ms Zf (pc + len) L st S I J r cu su) (hok : ck36 own cc nL rt ini law pc len a b d h n e z w = true) (hst : xst sc cl nx Q mc ms K (36, len, a, b, d, h, n, e, z, w) L st S I J r cu su) : XW p l e9 Rm s m args below meth c dC dI A a0 n0 sV nL mc ms Zf pc L st S I J r cu su := by
  unfold ck36 at hok
  simp only [Bool.or_eq_true, Bool.and_eq_true, beq_iff_eq, decide_eq_true_eq, Bool.not_eq_true'] at hok
  obtain ⟨rfl, h3⟩ := hok
  simp only [xst] at hst
  split at hst
  · obtain ⟨n, g1, g2, hst⟩ := hst
    exact xs_last F g1 g2 (xdec_ok h3) (hK _ _ _ _ _ _ _ _ hst)
  · exact hst.elim
theorem xi_37 (F : XFx p s m meth c args Rm cc own nL ini law sc mc ms A sV) {rt : Option FieldType} {d0 : Nat} {cl : XC} {nx : XN} {Q : XQ} (hfr : d0 + 1 ≤ Rm.frames) (hlo : 40 * (d0 + 1) ≤ Rm.locals)
    (hcl : ∀ (k : Nat) (as : XV) (S : XS) (I : XI) (J : XJ) (r : XR) (Q : XQ), cl k as S I J r Q → XMt l d0 dC dI sV k as S I J r Q)
    (hnx : ∀ (pc : Nat) (L st : XV) (S : XS) (I : XI) (J : XJ) (r : XR) (cu su : Nat), nx pc L st S I J r cu su → XW p l e9 Rm s m args below meth c dC dI A a0 n0 sV nL mc ms Zf pc L st S I J r cu su)
    (hret : ∀ (pc : Nat) (L : XV) (cu su : Nat) (v : Option Value) (S : XS) (I : XI) (J : XJ) (r : XR), Q v S I J r → xretOk rt v → decode cc pc = .ok (xri v, 1) → XW p l e9 Rm s m args below meth c dC dI A a0 n0 sV nL mc ms Zf pc L v.toList S I J r cu su) {len a b d h n e : Nat} {z : Int32} {w : Int64} (hK : ∀ (L st : XV) (S : XS) (I : XI) (J : XJ) (r : XR) (cu su : Nat), K L st S I J r cu su → XW p l e9 Rm s m args below meth c dC dI A a0 n0 sV nL mc ms Zf (pc + len) L st S I J r cu su) (hok : ck37 own cc nL rt ini law pc len a b d h n e z w = true) (hst : xst sc cl nx Q mc ms K (37, len, a, b, d, h, n, e, z, w) L st S I J r cu su) : XW p l e9 Rm s m args below meth c dC dI A a0 n0 sV nL mc ms Zf pc L st S I J r cu su := by
  unfold ck37 at hok
  simp only [Bool.or_eq_true, Bool.and_eq_true, beq_iff_eq, decide_eq_true_eq, Bool.not_eq_true'] at hok
  obtain ⟨rfl, h3⟩ := hok
  simp only [xst] at hst
  split at hst
  · obtain ⟨n, g1, g2, hst⟩ := hst
    exact xs_bald F g1 g2 (xdec_ok h3) (hK _ _ _ _ _ _ _ _ hst)
  · exact hst.elim
theorem xi_38 (F : XFx p s m meth c args Rm cc own nL ini law sc mc ms A sV) {rt : Option FieldType} {d0 : Nat} {cl : XC} {nx : XN} {Q : XQ} (hfr : d0 + 1 ≤ Rm.frames) (hlo : 40 * (d0 + 1) ≤ Rm.locals)
    (hcl : ∀ (k : Nat) (as : XV) (S : XS) (I : XI) (J : XJ) (r : XR) (Q : XQ), cl k as S I J r Q → XMt l d0 dC dI sV k as S I J r Q)
    (hnx : ∀ (pc : Nat) (L st : XV) (S : XS) (I : XI) (J : XJ) (r : XR) (cu su : Nat), nx pc L st S I J r cu su → XW p l e9 Rm s m args below meth c dC dI A a0 n0 sV nL mc ms Zf pc L st S I J r cu su)
    (hret : ∀ (pc : Nat) (L : XV) (cu su : Nat) (v : Option Value) (S : XS) (I : XI) (J : XJ) (r : XR), Q v S I J r → xretOk rt v → decode cc pc = .ok (xri v, 1) → XW p l e9 Rm s m args below meth c dC dI A a0 n0 sV nL mc ms Zf pc L v.toList S I J r cu su) {len a b d h n e : Nat} {z : Int32} {w : Int64} (hK : ∀ (L st : XV) (S : XS) (I : XI) (J : XJ) (r : XR) (cu su : Nat), K L st S I J r cu su → XW p l e9 Rm s m args below meth c dC dI A a0 n0 sV nL mc ms Zf (pc + len) L st S I J r cu su) (hok : ck38 own cc nL rt ini law pc len a b d h n e z w = true) (hst : xst sc cl nx Q mc ms K (38, len, a, b, d, h, n, e, z, w) L st S I J r cu su) : XW p l e9 Rm s m args below meth c dC dI A a0 n0 sV nL mc ms Zf pc L st S I J r cu su := by
  unfold ck38 at hok
  simp only [Bool.or_eq_true, Bool.and_eq_true, beq_iff_eq, decide_eq_true_eq, Bool.not_eq_true'] at hok
  obtain ⟨rfl, h3⟩ := hok
  simp only [xst] at hst
  split at hst
  · obtain ⟨n, g1, g2, hst⟩ := hst
    exact xs_bast F g1 g2 (xdec_ok h3) (hK _ _ _ _ _ _ _ _ hst)
  · exact hst.elim
theorem xi_39 (F : XFx p s m meth c args Rm cc own nL ini law sc mc ms A sV) {rt : Option FieldType} {d0 : Nat} {cl : XC} {nx : XN} {Q : XQ} (hfr : d0 + 1 ≤ Rm.frames) (hlo : 40 * (d0 + 1) ≤ Rm.locals)
    (hcl : ∀ (k : Nat) (as : XV) (S : XS) (I : XI) (J : XJ) (r : XR) (Q : XQ), cl k as S I J r Q → XMt l d0 dC dI sV k as S I J r Q)
    (hnx : ∀ (pc : Nat) (L st : XV) (S : XS) (I : XI) (J : XJ) (r : XR) (cu su : Nat), nx pc L st S I J r cu su → XW p l e9 Rm s m args below meth c dC dI A a0 n0 sV nL mc ms Zf pc L st S I J r cu su)
    (hret : ∀ (pc : Nat) (L : XV) (cu su : Nat) (v : Option Value) (S : XS) (I : XI) (J : XJ) (r : XR), Q v S I J r → xretOk rt v → decode cc pc = .ok (xri v, 1) → XW p l e9 Rm s m args below meth c dC dI A a0 n0 sV nL mc ms Zf pc L v.toList S I J r cu su) {len a b d h n e : Nat} {z : Int32} {w : Int64} (hK : ∀ (L st : XV) (S : XS) (I : XI) (J : XJ) (r : XR) (cu su : Nat), K L st S I J r cu su → XW p l e9 Rm s m args below meth c dC dI A a0 n0 sV nL mc ms Zf (pc + len) L st S I J r cu su) (hok : ck39 own cc nL rt ini law pc len a b d h n e z w = true) (hst : xst sc cl nx Q mc ms K (39, len, a, b, d, h, n, e, z, w) L st S I J r cu su) : XW p l e9 Rm s m args below meth c dC dI A a0 n0 sV nL mc ms Zf pc L st S I J r cu su := by
  unfold ck39 at hok
  simp only [Bool.or_eq_true, Bool.and_eq_true, beq_iff_eq, decide_eq_true_eq, Bool.not_eq_true'] at hok
  obtain ⟨rfl, h3⟩ := hok
  simp only [xst] at hst
  split at hst
  · obtain ⟨t, n, g1, g2, g3, hst⟩ := hst
    exact xs_aald F g1 g2 g3 (xdec_ok h3) (hK _ _ _ _ _ _ _ _ hst)
  · exact hst.elim
theorem xi_40 (F : XFx p s m meth c args Rm cc own nL ini law sc mc ms A sV) {rt : Option FieldType} {d0 : Nat} {cl : XC} {nx : XN} {Q : XQ} (hfr : d0 + 1 ≤ Rm.frames) (hlo : 40 * (d0 + 1) ≤ Rm.locals)
    (hcl : ∀ (k : Nat) (as : XV) (S : XS) (I : XI) (J : XJ) (r : XR) (Q : XQ), cl k as S I J r Q → XMt l d0 dC dI sV k as S I J r Q)
    (hnx : ∀ (pc : Nat) (L st : XV) (S : XS) (I : XI) (J : XJ) (r : XR) (cu su : Nat), nx pc L st S I J r cu su → XW p l e9 Rm s m args below meth c dC dI A a0 n0 sV nL mc ms Zf pc L st S I J r cu su)
    (hret : ∀ (pc : Nat) (L : XV) (cu su : Nat) (v : Option Value) (S : XS) (I : XI) (J : XJ) (r : XR), Q v S I J r → xretOk rt v → decode cc pc = .ok (xri v, 1) → XW p l e9 Rm s m args below meth c dC dI A a0 n0 sV nL mc ms Zf pc L v.toList S I J r cu su) {len a b d h n e : Nat} {z : Int32} {w : Int64} (hK : ∀ (L st : XV) (S : XS) (I : XI) (J : XJ) (r : XR) (cu su : Nat), K L st S I J r cu su → XW p l e9 Rm s m args below meth c dC dI A a0 n0 sV nL mc ms Zf (pc + len) L st S I J r cu su) (hok : ck40 own cc nL rt ini law pc len a b d h n e z w = true) (hst : xst sc cl nx Q mc ms K (40, len, a, b, d, h, n, e, z, w) L st S I J r cu su) : XW p l e9 Rm s m args below meth c dC dI A a0 n0 sV nL mc ms Zf pc L st S I J r cu su := by
  unfold ck40 at hok
  simp only [Bool.or_eq_true, Bool.and_eq_true, beq_iff_eq, decide_eq_true_eq, Bool.not_eq_true'] at hok
  obtain ⟨rfl, h3⟩ := hok
  simp only [xst] at hst
  split at hst
  · obtain ⟨n, g1, g2, g3, hst⟩ := hst
    exact xs_aast F g1 g2 g3 (xdec_ok h3) (hK _ _ _ _ _ _ _ _ hst)
  · exact hst.elim
theorem xi_42 (F : XFx p s m meth c args Rm cc own nL ini law sc mc ms A sV) {rt : Option FieldType} {d0 : Nat} {cl : XC} {nx : XN} {Q : XQ} (hfr : d0 + 1 ≤ Rm.frames) (hlo : 40 * (d0 + 1) ≤ Rm.locals)
    (hcl : ∀ (k : Nat) (as : XV) (S : XS) (I : XI) (J : XJ) (r : XR) (Q : XQ), cl k as S I J r Q → XMt l d0 dC dI sV k as S I J r Q)
    (hnx : ∀ (pc : Nat) (L st : XV) (S : XS) (I : XI) (J : XJ) (r : XR) (cu su : Nat), nx pc L st S I J r cu su → XW p l e9 Rm s m args below meth c dC dI A a0 n0 sV nL mc ms Zf pc L st S I J r cu su)
    (hret : ∀ (pc : Nat) (L : XV) (cu su : Nat) (v : Option Value) (S : XS) (I : XI) (J : XJ) (r : XR), Q v S I J r → xretOk rt v → decode cc pc = .ok (xri v, 1) → XW p l e9 Rm s m args below meth c dC dI A a0 n0 sV nL mc ms Zf pc L v.toList S I J r cu su) {len a b d h n e : Nat} {z : Int32} {w : Int64} (hK : ∀ (L st : XV) (S : XS) (I : XI) (J : XJ) (r : XR) (cu su : Nat), K L st S I J r cu su → XW p l e9 Rm s m args below meth c dC dI A a0 n0 sV nL mc ms Zf (pc + len) L st S I J r cu su) (hok : ck42 own cc nL rt ini law pc len a b d h n e z w = true) (hst : xst sc cl nx Q mc ms K (42, len, a, b, d, h, n, e, z, w) L st S I J r cu su) : XW p l e9 Rm s m args below meth c dC dI A a0 n0 sV nL mc ms Zf pc L st S I J r cu su := by
  unfold ck42 at hok
  simp only [Bool.or_eq_true, Bool.and_eq_true, beq_iff_eq, decide_eq_true_eq, Bool.not_eq_true'] at hok
  obtain ⟨⟨⟨⟨⟨rfl, h1⟩, h2⟩, h3⟩, h4⟩, h5⟩ := hok
  simp only [xst] at hst
  split at hst
  · exact xs_getI F h1 h2 h3 (xw_in h4) (xdec_ok h5) hst.1 (hK _ _ _ _ _ _ _ _ hst.2)
  · exact hst.elim
theorem xi_43 (F : XFx p s m meth c args Rm cc own nL ini law sc mc ms A sV) {rt : Option FieldType} {d0 : Nat} {cl : XC} {nx : XN} {Q : XQ} (hfr : d0 + 1 ≤ Rm.frames) (hlo : 40 * (d0 + 1) ≤ Rm.locals)
    (hcl : ∀ (k : Nat) (as : XV) (S : XS) (I : XI) (J : XJ) (r : XR) (Q : XQ), cl k as S I J r Q → XMt l d0 dC dI sV k as S I J r Q)
    (hnx : ∀ (pc : Nat) (L st : XV) (S : XS) (I : XI) (J : XJ) (r : XR) (cu su : Nat), nx pc L st S I J r cu su → XW p l e9 Rm s m args below meth c dC dI A a0 n0 sV nL mc ms Zf pc L st S I J r cu su)
    (hret : ∀ (pc : Nat) (L : XV) (cu su : Nat) (v : Option Value) (S : XS) (I : XI) (J : XJ) (r : XR), Q v S I J r → xretOk rt v → decode cc pc = .ok (xri v, 1) → XW p l e9 Rm s m args below meth c dC dI A a0 n0 sV nL mc ms Zf pc L v.toList S I J r cu su) {len a b d h n e : Nat} {z : Int32} {w : Int64} (hK : ∀ (L st : XV) (S : XS) (I : XI) (J : XJ) (r : XR) (cu su : Nat), K L st S I J r cu su → XW p l e9 Rm s m args below meth c dC dI A a0 n0 sV nL mc ms Zf (pc + len) L st S I J r cu su) (hok : ck43 own cc nL rt ini law pc len a b d h n e z w = true) (hst : xst sc cl nx Q mc ms K (43, len, a, b, d, h, n, e, z, w) L st S I J r cu su) : XW p l e9 Rm s m args below meth c dC dI A a0 n0 sV nL mc ms Zf pc L st S I J r cu su := by
  unfold ck43 at hok
  simp only [Bool.or_eq_true, Bool.and_eq_true, beq_iff_eq, decide_eq_true_eq, Bool.not_eq_true'] at hok
  obtain ⟨⟨⟨⟨⟨rfl, h1⟩, h2⟩, h3⟩, h4⟩, h5⟩ := hok
  simp only [xst] at hst
  split at hst
  · exact xs_getJ F h1 h2 h3 (xw_in h4) (xdec_ok h5) hst.1 (hK _ _ _ _ _ _ _ _ hst.2)
  · exact hst.elim
theorem xi_44 (F : XFx p s m meth c args Rm cc own nL ini law sc mc ms A sV) {rt : Option FieldType} {d0 : Nat} {cl : XC} {nx : XN} {Q : XQ} (hfr : d0 + 1 ≤ Rm.frames) (hlo : 40 * (d0 + 1) ≤ Rm.locals)
    (hcl : ∀ (k : Nat) (as : XV) (S : XS) (I : XI) (J : XJ) (r : XR) (Q : XQ), cl k as S I J r Q → XMt l d0 dC dI sV k as S I J r Q)
    (hnx : ∀ (pc : Nat) (L st : XV) (S : XS) (I : XI) (J : XJ) (r : XR) (cu su : Nat), nx pc L st S I J r cu su → XW p l e9 Rm s m args below meth c dC dI A a0 n0 sV nL mc ms Zf pc L st S I J r cu su)
    (hret : ∀ (pc : Nat) (L : XV) (cu su : Nat) (v : Option Value) (S : XS) (I : XI) (J : XJ) (r : XR), Q v S I J r → xretOk rt v → decode cc pc = .ok (xri v, 1) → XW p l e9 Rm s m args below meth c dC dI A a0 n0 sV nL mc ms Zf pc L v.toList S I J r cu su) {len a b d h n e : Nat} {z : Int32} {w : Int64} (hK : ∀ (L st : XV) (S : XS) (I : XI) (J : XJ) (r : XR) (cu su : Nat), K L st S I J r cu su → XW p l e9 Rm s m args below meth c dC dI A a0 n0 sV nL mc ms Zf (pc + len) L st S I J r cu su) (hok : ck44 own cc nL rt ini law pc len a b d h n e z w = true) (hst : xst sc cl nx Q mc ms K (44, len, a, b, d, h, n, e, z, w) L st S I J r cu su) : XW p l e9 Rm s m args below meth c dC dI A a0 n0 sV nL mc ms Zf pc L st S I J r cu su := by
  unfold ck44 at hok
  simp only [Bool.or_eq_true, Bool.and_eq_true, beq_iff_eq, decide_eq_true_eq, Bool.not_eq_true'] at hok
  obtain ⟨⟨⟨⟨⟨rfl, h1⟩, h2⟩, h3⟩, h4⟩, h5⟩ := hok
  simp only [xst] at hst
  split at hst
  · exact xs_getR F h1 h2 h3 (xw_in h4) (xdec_ok h5) hst.1 (hK _ _ _ _ _ _ _ _ hst.2)
  · exact hst.elim
theorem xi_45 (F : XFx p s m meth c args Rm cc own nL ini law sc mc ms A sV) {rt : Option FieldType} {d0 : Nat} {cl : XC} {nx : XN} {Q : XQ} (hfr : d0 + 1 ≤ Rm.frames) (hlo : 40 * (d0 + 1) ≤ Rm.locals)
    (hcl : ∀ (k : Nat) (as : XV) (S : XS) (I : XI) (J : XJ) (r : XR) (Q : XQ), cl k as S I J r Q → XMt l d0 dC dI sV k as S I J r Q)
    (hnx : ∀ (pc : Nat) (L st : XV) (S : XS) (I : XI) (J : XJ) (r : XR) (cu su : Nat), nx pc L st S I J r cu su → XW p l e9 Rm s m args below meth c dC dI A a0 n0 sV nL mc ms Zf pc L st S I J r cu su)
    (hret : ∀ (pc : Nat) (L : XV) (cu su : Nat) (v : Option Value) (S : XS) (I : XI) (J : XJ) (r : XR), Q v S I J r → xretOk rt v → decode cc pc = .ok (xri v, 1) → XW p l e9 Rm s m args below meth c dC dI A a0 n0 sV nL mc ms Zf pc L v.toList S I J r cu su) {len a b d h n e : Nat} {z : Int32} {w : Int64} (hK : ∀ (L st : XV) (S : XS) (I : XI) (J : XJ) (r : XR) (cu su : Nat), K L st S I J r cu su → XW p l e9 Rm s m args below meth c dC dI A a0 n0 sV nL mc ms Zf (pc + len) L st S I J r cu su) (hok : ck45 own cc nL rt ini law pc len a b d h n e z w = true) (hst : xst sc cl nx Q mc ms K (45, len, a, b, d, h, n, e, z, w) L st S I J r cu su) : XW p l e9 Rm s m args below meth c dC dI A a0 n0 sV nL mc ms Zf pc L st S I J r cu su := by
  unfold ck45 at hok
  simp only [Bool.or_eq_true, Bool.and_eq_true, beq_iff_eq, decide_eq_true_eq, Bool.not_eq_true'] at hok
  obtain ⟨⟨⟨⟨⟨⟨⟨rfl, h1⟩, h2⟩, h3⟩, h4⟩, h5⟩, h6⟩, h7⟩ := hok
  have h6 : ((xC b).2.1 d).2.2.2 = false ∨ (((xC b).2.1 d).2.2.2 = true ∧ ini = true ∧ ((xC b).2.1 d).1 = own) := by
    rcases h6 with h6 | h6
    · exact Or.inl h6
    · exact Or.inr ⟨h6.1.1, h6.1.2, h6.2⟩
  simp only [xst] at hst
  split at hst
  · exact xs_putI F h1 h2 h3 (Or.inl h7) (xw_in h4) h6 (xdec_ok h5) hst.1 (hK _ _ _ _ _ _ _ _ hst.2)
  · exact hst.elim
theorem xi_46 (F : XFx p s m meth c args Rm cc own nL ini law sc mc ms A sV) {rt : Option FieldType} {d0 : Nat} {cl : XC} {nx : XN} {Q : XQ} (hfr : d0 + 1 ≤ Rm.frames) (hlo : 40 * (d0 + 1) ≤ Rm.locals)
    (hcl : ∀ (k : Nat) (as : XV) (S : XS) (I : XI) (J : XJ) (r : XR) (Q : XQ), cl k as S I J r Q → XMt l d0 dC dI sV k as S I J r Q)
    (hnx : ∀ (pc : Nat) (L st : XV) (S : XS) (I : XI) (J : XJ) (r : XR) (cu su : Nat), nx pc L st S I J r cu su → XW p l e9 Rm s m args below meth c dC dI A a0 n0 sV nL mc ms Zf pc L st S I J r cu su)
    (hret : ∀ (pc : Nat) (L : XV) (cu su : Nat) (v : Option Value) (S : XS) (I : XI) (J : XJ) (r : XR), Q v S I J r → xretOk rt v → decode cc pc = .ok (xri v, 1) → XW p l e9 Rm s m args below meth c dC dI A a0 n0 sV nL mc ms Zf pc L v.toList S I J r cu su) {len a b d h n e : Nat} {z : Int32} {w : Int64} (hK : ∀ (L st : XV) (S : XS) (I : XI) (J : XJ) (r : XR) (cu su : Nat), K L st S I J r cu su → XW p l e9 Rm s m args below meth c dC dI A a0 n0 sV nL mc ms Zf (pc + len) L st S I J r cu su) (hok : ck46 own cc nL rt ini law pc len a b d h n e z w = true) (hst : xst sc cl nx Q mc ms K (46, len, a, b, d, h, n, e, z, w) L st S I J r cu su) : XW p l e9 Rm s m args below meth c dC dI A a0 n0 sV nL mc ms Zf pc L st S I J r cu su := by
  unfold ck46 at hok
  simp only [Bool.or_eq_true, Bool.and_eq_true, beq_iff_eq, decide_eq_true_eq, Bool.not_eq_true'] at hok
  obtain ⟨⟨⟨⟨⟨⟨rfl, h1⟩, h2⟩, h3⟩, h4⟩, h5⟩, h6⟩ := hok
  have h6 : ((xC b).2.1 d).2.2.2 = false ∨ (((xC b).2.1 d).2.2.2 = true ∧ ini = true ∧ ((xC b).2.1 d).1 = own) := by
    rcases h6 with h6 | h6
    · exact Or.inl h6
    · exact Or.inr ⟨h6.1.1, h6.1.2, h6.2⟩
  simp only [xst] at hst
  split at hst
  · exact xs_putJ F h1 h2 h3 (xw_in h4) h6 (xdec_ok h5) hst.1 (hK _ _ _ _ _ _ _ _ hst.2)
  · exact hst.elim
theorem xi_47 (F : XFx p s m meth c args Rm cc own nL ini law sc mc ms A sV) {rt : Option FieldType} {d0 : Nat} {cl : XC} {nx : XN} {Q : XQ} (hfr : d0 + 1 ≤ Rm.frames) (hlo : 40 * (d0 + 1) ≤ Rm.locals)
    (hcl : ∀ (k : Nat) (as : XV) (S : XS) (I : XI) (J : XJ) (r : XR) (Q : XQ), cl k as S I J r Q → XMt l d0 dC dI sV k as S I J r Q)
    (hnx : ∀ (pc : Nat) (L st : XV) (S : XS) (I : XI) (J : XJ) (r : XR) (cu su : Nat), nx pc L st S I J r cu su → XW p l e9 Rm s m args below meth c dC dI A a0 n0 sV nL mc ms Zf pc L st S I J r cu su)
    (hret : ∀ (pc : Nat) (L : XV) (cu su : Nat) (v : Option Value) (S : XS) (I : XI) (J : XJ) (r : XR), Q v S I J r → xretOk rt v → decode cc pc = .ok (xri v, 1) → XW p l e9 Rm s m args below meth c dC dI A a0 n0 sV nL mc ms Zf pc L v.toList S I J r cu su) {len a b d h n e : Nat} {z : Int32} {w : Int64} (hK : ∀ (L st : XV) (S : XS) (I : XI) (J : XJ) (r : XR) (cu su : Nat), K L st S I J r cu su → XW p l e9 Rm s m args below meth c dC dI A a0 n0 sV nL mc ms Zf (pc + len) L st S I J r cu su) (hok : ck47 own cc nL rt ini law pc len a b d h n e z w = true) (hst : xst sc cl nx Q mc ms K (47, len, a, b, d, h, n, e, z, w) L st S I J r cu su) : XW p l e9 Rm s m args below meth c dC dI A a0 n0 sV nL mc ms Zf pc L st S I J r cu su := by
  unfold ck47 at hok
  simp only [Bool.or_eq_true, Bool.and_eq_true, beq_iff_eq, decide_eq_true_eq, Bool.not_eq_true'] at hok
  obtain ⟨⟨⟨⟨⟨⟨rfl, h1⟩, h2⟩, h3⟩, h4⟩, h5⟩, h6⟩ := hok
  have h6 : ((xC b).2.1 d).2.2.2 = false ∨ (((xC b).2.1 d).2.2.2 = true ∧ ini = true ∧ ((xC b).2.1 d).1 = own) := by
    rcases h6 with h6 | h6
    · exact Or.inl h6
    · exact Or.inr ⟨h6.1.1, h6.1.2, h6.2⟩
  simp only [xst] at hst
  split at hst
  · exact xs_putR F h1 h2 h3 (xw_in h4) h6 (xdec_ok h5) hst.1 (hK _ _ _ _ _ _ _ _ hst.2)
  · exact hst.elim
theorem xi_48 (F : XFx p s m meth c args Rm cc own nL ini law sc mc ms A sV) {rt : Option FieldType} {d0 : Nat} {cl : XC} {nx : XN} {Q : XQ} (hfr : d0 + 1 ≤ Rm.frames) (hlo : 40 * (d0 + 1) ≤ Rm.locals)
    (hcl : ∀ (k : Nat) (as : XV) (S : XS) (I : XI) (J : XJ) (r : XR) (Q : XQ), cl k as S I J r Q → XMt l d0 dC dI sV k as S I J r Q)
    (hnx : ∀ (pc : Nat) (L st : XV) (S : XS) (I : XI) (J : XJ) (r : XR) (cu su : Nat), nx pc L st S I J r cu su → XW p l e9 Rm s m args below meth c dC dI A a0 n0 sV nL mc ms Zf pc L st S I J r cu su)
    (hret : ∀ (pc : Nat) (L : XV) (cu su : Nat) (v : Option Value) (S : XS) (I : XI) (J : XJ) (r : XR), Q v S I J r → xretOk rt v → decode cc pc = .ok (xri v, 1) → XW p l e9 Rm s m args below meth c dC dI A a0 n0 sV nL mc ms Zf pc L v.toList S I J r cu su) {len a b d h n e : Nat} {z : Int32} {w : Int64} (hK : ∀ (L st : XV) (S : XS) (I : XI) (J : XJ) (r : XR) (cu su : Nat), K L st S I J r cu su → XW p l e9 Rm s m args below meth c dC dI A a0 n0 sV nL mc ms Zf (pc + len) L st S I J r cu su) (hok : ck48 own cc nL rt ini law pc len a b d h n e z w = true) (hst : xst sc cl nx Q mc ms K (48, len, a, b, d, h, n, e, z, w) L st S I J r cu su) : XW p l e9 Rm s m args below meth c dC dI A a0 n0 sV nL mc ms Zf pc L st S I J r cu su := by
  unfold ck48 at hok
  simp only [Bool.or_eq_true, Bool.and_eq_true, beq_iff_eq, decide_eq_true_eq, Bool.not_eq_true'] at hok
  intro ls H locs ws tys hXH
  have hcu := hXH.2.2.2.2.1
  have hsu := hXH.2.2.2.2.2
  revert ls H locs ws tys
  intro ls H locs ws tys hXH
  obtain ⟨⟨⟨⟨rfl, hc⟩, hm⟩, hn⟩, hok⟩ := hok
  refine (?_ : XW p l e9 Rm s m args below meth c dC dI A a0 n0 sV nL mc ms Zf pc L st S I J r cu su) ls H locs ws tys hXH
  simp only [xst] at hst
  obtain ⟨g1, g2, g3, hst⟩ := hst
  have ecu : cu + mck b = cu := by rw [hm]; rfl
  have esu : su + msk b = su := by rw [hn]; rfl
  rcases hok with ((⟨⟨⟨⟨⟨⟨rfl, h1⟩, h2⟩, h3⟩, h4⟩, h5⟩, h6⟩ | ⟨⟨⟨⟨rfl, h1⟩, h2⟩, h5⟩, h6⟩) | ⟨⟨⟨⟨rfl, h1⟩, h2⟩, h5⟩, h6⟩) | ⟨⟨⟨⟨rfl, h1⟩, h2⟩, h5⟩, h6⟩
  · rcases g3 with g3 | ⟨q, As, g3, g4⟩
    · cases g3
    · exact xs_callV F hfr hlo (okCs_ok hc) h1 (xw_in h2) h3 h4 h5 g1 (xdec_ok h6) g2 (by rw [ecu]; exact hcu) (by rw [esu]; exact hsu) g3 g4 (hcl _ _ _ _ _ _ _ hst) (fun v S I J r hk => by rw [ecu, esu]; exact hK _ _ _ _ _ _ _ _ hk)
  · exact xs_callS F hfr hlo (okCs_ok hc) h1 (xw_in h2) h5 g1 (xdec_ok h6) g2 (by rw [ecu]; exact hcu) (by rw [esu]; exact hsu) (hcl _ _ _ _ _ _ _ hst) (fun v S I J r hk => by rw [ecu, esu]; exact hK _ _ _ _ _ _ _ _ hk)
  · rcases g3 with g3 | ⟨q, As, g3, g4⟩
    · cases g3
    · exact xs_callI F hfr hlo (okCs_ok hc) h1 (Or.inl (xw_in h2)) h5 g1 (xdec_ok h6) g2 (by rw [ecu]; exact hcu) (by rw [esu]; exact hsu) g3 (hcl _ _ _ _ _ _ _ hst) (fun v S I J r hk => by rw [ecu, esu]; exact hK _ _ _ _ _ _ _ _ hk)
  · rcases g3 with g3 | ⟨q, As, g3, g4⟩
    · cases g3
    · exact xs_callI F hfr hlo (okCs_ok hc) h1 (Or.inr h2) h5 g1 (xdec_ok h6) g2 (by rw [ecu]; exact hcu) (by rw [esu]; exact hsu) g3 (hcl _ _ _ _ _ _ _ hst) (fun v S I J r hk => by rw [ecu, esu]; exact hK _ _ _ _ _ _ _ _ hk)
theorem xi_49 (F : XFx p s m meth c args Rm cc own nL ini law sc mc ms A sV) {rt : Option FieldType} {d0 : Nat} {cl : XC} {nx : XN} {Q : XQ} (hfr : d0 + 1 ≤ Rm.frames) (hlo : 40 * (d0 + 1) ≤ Rm.locals)
    (hcl : ∀ (k : Nat) (as : XV) (S : XS) (I : XI) (J : XJ) (r : XR) (Q : XQ), cl k as S I J r Q → XMt l d0 dC dI sV k as S I J r Q)
    (hnx : ∀ (pc : Nat) (L st : XV) (S : XS) (I : XI) (J : XJ) (r : XR) (cu su : Nat), nx pc L st S I J r cu su → XW p l e9 Rm s m args below meth c dC dI A a0 n0 sV nL mc ms Zf pc L st S I J r cu su)
    (hret : ∀ (pc : Nat) (L : XV) (cu su : Nat) (v : Option Value) (S : XS) (I : XI) (J : XJ) (r : XR), Q v S I J r → xretOk rt v → decode cc pc = .ok (xri v, 1) → XW p l e9 Rm s m args below meth c dC dI A a0 n0 sV nL mc ms Zf pc L v.toList S I J r cu su) {len a b d h n e : Nat} {z : Int32} {w : Int64} (hK : ∀ (L st : XV) (S : XS) (I : XI) (J : XJ) (r : XR) (cu su : Nat), K L st S I J r cu su → XW p l e9 Rm s m args below meth c dC dI A a0 n0 sV nL mc ms Zf (pc + len) L st S I J r cu su) (hok : ck49 own cc nL rt ini law pc len a b d h n e z w = true) (hst : xst sc cl nx Q mc ms K (49, len, a, b, d, h, n, e, z, w) L st S I J r cu su) : XW p l e9 Rm s m args below meth c dC dI A a0 n0 sV nL mc ms Zf pc L st S I J r cu su := by
  unfold ck49 at hok
  simp only [Bool.or_eq_true, Bool.and_eq_true, beq_iff_eq, decide_eq_true_eq, Bool.not_eq_true'] at hok
  obtain ⟨⟨rfl, h2⟩, h3⟩ := hok
  simp only [xst] at hst
  split at hst
  · exact xs_objInit F (xw_in h2) xc_oi xc_oc (xdec_ok h3) hst.1 (hK _ _ _ _ _ _ _ _ hst.2)
  · exact hst.elim
theorem xi_50 (F : XFx p s m meth c args Rm cc own nL ini law sc mc ms A sV) {rt : Option FieldType} {d0 : Nat} {cl : XC} {nx : XN} {Q : XQ} (hfr : d0 + 1 ≤ Rm.frames) (hlo : 40 * (d0 + 1) ≤ Rm.locals)
    (hcl : ∀ (k : Nat) (as : XV) (S : XS) (I : XI) (J : XJ) (r : XR) (Q : XQ), cl k as S I J r Q → XMt l d0 dC dI sV k as S I J r Q)
    (hnx : ∀ (pc : Nat) (L st : XV) (S : XS) (I : XI) (J : XJ) (r : XR) (cu su : Nat), nx pc L st S I J r cu su → XW p l e9 Rm s m args below meth c dC dI A a0 n0 sV nL mc ms Zf pc L st S I J r cu su)
    (hret : ∀ (pc : Nat) (L : XV) (cu su : Nat) (v : Option Value) (S : XS) (I : XI) (J : XJ) (r : XR), Q v S I J r → xretOk rt v → decode cc pc = .ok (xri v, 1) → XW p l e9 Rm s m args below meth c dC dI A a0 n0 sV nL mc ms Zf pc L v.toList S I J r cu su) {len a b d h n e : Nat} {z : Int32} {w : Int64} (hK : ∀ (L st : XV) (S : XS) (I : XI) (J : XJ) (r : XR) (cu su : Nat), K L st S I J r cu su → XW p l e9 Rm s m args below meth c dC dI A a0 n0 sV nL mc ms Zf (pc + len) L st S I J r cu su) (hok : ck50 own cc nL rt ini law pc len a b d h n e z w = true) (hst : xst sc cl nx Q mc ms K (50, len, a, b, d, h, n, e, z, w) L st S I J r cu su) : XW p l e9 Rm s m args below meth c dC dI A a0 n0 sV nL mc ms Zf pc L st S I J r cu su := by
  unfold ck50 at hok
  simp only [Bool.or_eq_true, Bool.and_eq_true, beq_iff_eq, decide_eq_true_eq, Bool.not_eq_true'] at hok
  obtain ⟨⟨⟨rfl, h1⟩, h2⟩, h3⟩ := hok
  simp only [xst] at hst
  split at hst
  · obtain ⟨g0, n0', n1', g1, g2, g3, g4, g5, g6, g7, hst⟩ := hst
    exact xs_copy F h1 (xw_in h2) xc_n xc_s xc_i (xdec_ok h3) g0 g1 g2 g3 g4 g5 g6 g7 (hK _ _ _ _ _ _ _ _ hst)
  · exact hst.elim
theorem xi_51 (F : XFx p s m meth c args Rm cc own nL ini law sc mc ms A sV) {rt : Option FieldType} {d0 : Nat} {cl : XC} {nx : XN} {Q : XQ} (hfr : d0 + 1 ≤ Rm.frames) (hlo : 40 * (d0 + 1) ≤ Rm.locals)
    (hcl : ∀ (k : Nat) (as : XV) (S : XS) (I : XI) (J : XJ) (r : XR) (Q : XQ), cl k as S I J r Q → XMt l d0 dC dI sV k as S I J r Q)
    (hnx : ∀ (pc : Nat) (L st : XV) (S : XS) (I : XI) (J : XJ) (r : XR) (cu su : Nat), nx pc L st S I J r cu su → XW p l e9 Rm s m args below meth c dC dI A a0 n0 sV nL mc ms Zf pc L st S I J r cu su)
    (hret : ∀ (pc : Nat) (L : XV) (cu su : Nat) (v : Option Value) (S : XS) (I : XI) (J : XJ) (r : XR), Q v S I J r → xretOk rt v → decode cc pc = .ok (xri v, 1) → XW p l e9 Rm s m args below meth c dC dI A a0 n0 sV nL mc ms Zf pc L v.toList S I J r cu su) {len a b d h n e : Nat} {z : Int32} {w : Int64} (hK : ∀ (L st : XV) (S : XS) (I : XI) (J : XJ) (r : XR) (cu su : Nat), K L st S I J r cu su → XW p l e9 Rm s m args below meth c dC dI A a0 n0 sV nL mc ms Zf (pc + len) L st S I J r cu su) (hok : ck51 own cc nL rt ini law pc len a b d h n e z w = true) (hst : xst sc cl nx Q mc ms K (51, len, a, b, d, h, n, e, z, w) L st S I J r cu su) : XW p l e9 Rm s m args below meth c dC dI A a0 n0 sV nL mc ms Zf pc L st S I J r cu su := by
  unfold ck51 at hok
  simp only [Bool.or_eq_true, Bool.and_eq_true, beq_iff_eq, decide_eq_true_eq, Bool.not_eq_true'] at hok
  obtain ⟨⟨rfl, h2⟩, h3⟩ := hok
  simp only [xst] at hst
  split at hst
  · exact xs_strV F hst.1 (xw_in h2) (xdec_ok h3) (hK _ _ _ _ _ _ _ _ hst.2)
  · exact hst.elim
theorem xi_52 (F : XFx p s m meth c args Rm cc own nL ini law sc mc ms A sV) {rt : Option FieldType} {d0 : Nat} {cl : XC} {nx : XN} {Q : XQ} (hfr : d0 + 1 ≤ Rm.frames) (hlo : 40 * (d0 + 1) ≤ Rm.locals)
    (hcl : ∀ (k : Nat) (as : XV) (S : XS) (I : XI) (J : XJ) (r : XR) (Q : XQ), cl k as S I J r Q → XMt l d0 dC dI sV k as S I J r Q)
    (hnx : ∀ (pc : Nat) (L st : XV) (S : XS) (I : XI) (J : XJ) (r : XR) (cu su : Nat), nx pc L st S I J r cu su → XW p l e9 Rm s m args below meth c dC dI A a0 n0 sV nL mc ms Zf pc L st S I J r cu su)
    (hret : ∀ (pc : Nat) (L : XV) (cu su : Nat) (v : Option Value) (S : XS) (I : XI) (J : XJ) (r : XR), Q v S I J r → xretOk rt v → decode cc pc = .ok (xri v, 1) → XW p l e9 Rm s m args below meth c dC dI A a0 n0 sV nL mc ms Zf pc L v.toList S I J r cu su) {len a b d h n e : Nat} {z : Int32} {w : Int64} (hK : ∀ (L st : XV) (S : XS) (I : XI) (J : XJ) (r : XR) (cu su : Nat), K L st S I J r cu su → XW p l e9 Rm s m args below meth c dC dI A a0 n0 sV nL mc ms Zf (pc + len) L st S I J r cu su) (hok : ck52 own cc nL rt ini law pc len a b d h n e z w = true) (hst : xst sc cl nx Q mc ms K (52, len, a, b, d, h, n, e, z, w) L st S I J r cu su) : XW p l e9 Rm s m args below meth c dC dI A a0 n0 sV nL mc ms Zf pc L st S I J r cu su := by
  unfold ck52 at hok
  simp only [Bool.or_eq_true, Bool.and_eq_true, beq_iff_eq, decide_eq_true_eq, Bool.not_eq_true'] at hok
  obtain ⟨⟨rfl, h2⟩, h3⟩ := hok
  simp only [xst] at hst
  split at hst
  · exact xs_strC F hst.1 (xw_in h2) (xdec_ok h3) (hK _ _ _ _ _ _ _ _ hst.2)
  · exact hst.elim
theorem xi_53 (F : XFx p s m meth c args Rm cc own nL ini law sc mc ms A sV) {rt : Option FieldType} {d0 : Nat} {cl : XC} {nx : XN} {Q : XQ} (hfr : d0 + 1 ≤ Rm.frames) (hlo : 40 * (d0 + 1) ≤ Rm.locals)
    (hcl : ∀ (k : Nat) (as : XV) (S : XS) (I : XI) (J : XJ) (r : XR) (Q : XQ), cl k as S I J r Q → XMt l d0 dC dI sV k as S I J r Q)
    (hnx : ∀ (pc : Nat) (L st : XV) (S : XS) (I : XI) (J : XJ) (r : XR) (cu su : Nat), nx pc L st S I J r cu su → XW p l e9 Rm s m args below meth c dC dI A a0 n0 sV nL mc ms Zf pc L st S I J r cu su)
    (hret : ∀ (pc : Nat) (L : XV) (cu su : Nat) (v : Option Value) (S : XS) (I : XI) (J : XJ) (r : XR), Q v S I J r → xretOk rt v → decode cc pc = .ok (xri v, 1) → XW p l e9 Rm s m args below meth c dC dI A a0 n0 sV nL mc ms Zf pc L v.toList S I J r cu su) {len a b d h n e : Nat} {z : Int32} {w : Int64} (hK : ∀ (L st : XV) (S : XS) (I : XI) (J : XJ) (r : XR) (cu su : Nat), K L st S I J r cu su → XW p l e9 Rm s m args below meth c dC dI A a0 n0 sV nL mc ms Zf (pc + len) L st S I J r cu su) (hok : ck53 own cc nL rt ini law pc len a b d h n e z w = true) (hst : xst sc cl nx Q mc ms K (53, len, a, b, d, h, n, e, z, w) L st S I J r cu su) : XW p l e9 Rm s m args below meth c dC dI A a0 n0 sV nL mc ms Zf pc L st S I J r cu su := by
  unfold ck53 at hok
  simp only [Bool.or_eq_true, Bool.and_eq_true, beq_iff_eq, decide_eq_true_eq, Bool.not_eq_true'] at hok
  obtain ⟨⟨rfl, h2⟩, h3⟩ := hok
  simp only [xst] at hst
  split at hst
  · obtain ⟨rfl, hst⟩ := hst
    exact xs_slen F h2 (xdec_ok h3) (hK _ _ _ _ _ _ _ _ hst)
  · exact hst.elim
theorem xi_54 (F : XFx p s m meth c args Rm cc own nL ini law sc mc ms A sV) {rt : Option FieldType} {d0 : Nat} {cl : XC} {nx : XN} {Q : XQ} (hfr : d0 + 1 ≤ Rm.frames) (hlo : 40 * (d0 + 1) ≤ Rm.locals)
    (hcl : ∀ (k : Nat) (as : XV) (S : XS) (I : XI) (J : XJ) (r : XR) (Q : XQ), cl k as S I J r Q → XMt l d0 dC dI sV k as S I J r Q)
    (hnx : ∀ (pc : Nat) (L st : XV) (S : XS) (I : XI) (J : XJ) (r : XR) (cu su : Nat), nx pc L st S I J r cu su → XW p l e9 Rm s m args below meth c dC dI A a0 n0 sV nL mc ms Zf pc L st S I J r cu su)
    (hret : ∀ (pc : Nat) (L : XV) (cu su : Nat) (v : Option Value) (S : XS) (I : XI) (J : XJ) (r : XR), Q v S I J r → xretOk rt v → decode cc pc = .ok (xri v, 1) → XW p l e9 Rm s m args below meth c dC dI A a0 n0 sV nL mc ms Zf pc L v.toList S I J r cu su) {len a b d h n e : Nat} {z : Int32} {w : Int64} (hK : ∀ (L st : XV) (S : XS) (I : XI) (J : XJ) (r : XR) (cu su : Nat), K L st S I J r cu su → XW p l e9 Rm s m args below meth c dC dI A a0 n0 sV nL mc ms Zf (pc + len) L st S I J r cu su) (hok : ck54 own cc nL rt ini law pc len a b d h n e z w = true) (hst : xst sc cl nx Q mc ms K (54, len, a, b, d, h, n, e, z, w) L st S I J r cu su) : XW p l e9 Rm s m args below meth c dC dI A a0 n0 sV nL mc ms Zf pc L st S I J r cu su := by
  unfold ck54 at hok
  simp only [Bool.or_eq_true, Bool.and_eq_true, beq_iff_eq, decide_eq_true_eq, Bool.not_eq_true'] at hok
  obtain ⟨⟨rfl, h2⟩, h3⟩ := hok
  simp only [xst] at hst
  split at hst
  · obtain ⟨rfl, hj, hst⟩ := hst
    exact xs_sld F h2 hj (xdec_ok h3) (hK _ _ _ _ _ _ _ _ hst)
  · exact hst.elim
theorem xi_55 (F : XFx p s m meth c args Rm cc own nL ini law sc mc ms A sV) {rt : Option FieldType} {d0 : Nat} {cl : XC} {nx : XN} {Q : XQ} (hfr : d0 + 1 ≤ Rm.frames) (hlo : 40 * (d0 + 1) ≤ Rm.locals)
    (hcl : ∀ (k : Nat) (as : XV) (S : XS) (I : XI) (J : XJ) (r : XR) (Q : XQ), cl k as S I J r Q → XMt l d0 dC dI sV k as S I J r Q)
    (hnx : ∀ (pc : Nat) (L st : XV) (S : XS) (I : XI) (J : XJ) (r : XR) (cu su : Nat), nx pc L st S I J r cu su → XW p l e9 Rm s m args below meth c dC dI A a0 n0 sV nL mc ms Zf pc L st S I J r cu su)
    (hret : ∀ (pc : Nat) (L : XV) (cu su : Nat) (v : Option Value) (S : XS) (I : XI) (J : XJ) (r : XR), Q v S I J r → xretOk rt v → decode cc pc = .ok (xri v, 1) → XW p l e9 Rm s m args below meth c dC dI A a0 n0 sV nL mc ms Zf pc L v.toList S I J r cu su) {len a b d h n e : Nat} {z : Int32} {w : Int64} (hK : ∀ (L st : XV) (S : XS) (I : XI) (J : XJ) (r : XR) (cu su : Nat), K L st S I J r cu su → XW p l e9 Rm s m args below meth c dC dI A a0 n0 sV nL mc ms Zf (pc + len) L st S I J r cu su) (hok : ck55 own cc nL rt ini law pc len a b d h n e z w = true) (hst : xst sc cl nx Q mc ms K (55, len, a, b, d, h, n, e, z, w) L st S I J r cu su) : XW p l e9 Rm s m args below meth c dC dI A a0 n0 sV nL mc ms Zf pc L st S I J r cu su := by
  unfold ck55 at hok
  simp only [Bool.or_eq_true, Bool.and_eq_true, beq_iff_eq, decide_eq_true_eq, Bool.not_eq_true'] at hok
  obtain ⟨⟨rfl, hc⟩, hok⟩ := hok
  simp only [xst] at hst
  obtain ⟨hcu, hsu, g1, g2, g3, hst⟩ := hst
  rcases hok with ((⟨⟨⟨⟨⟨⟨rfl, h1⟩, h2⟩, h3⟩, h4⟩, h5⟩, h6⟩ | ⟨⟨⟨⟨rfl, h1⟩, h2⟩, h5⟩, h6⟩) | ⟨⟨⟨⟨rfl, h1⟩, h2⟩, h5⟩, h6⟩) | ⟨⟨⟨⟨rfl, h1⟩, h2⟩, h5⟩, h6⟩
  · rcases g3 with g3 | ⟨q, As, g3, g4⟩
    · cases g3
    · exact xs_callV F hfr hlo (okCs_ok hc) h1 (xw_in h2) h3 h4 h5 g1 (xdec_ok h6) g2 hcu hsu g3 g4 (hcl _ _ _ _ _ _ _ hst) (fun v S I J r hk => hK _ _ _ _ _ _ _ _ hk)
  · exact xs_callS F hfr hlo (okCs_ok hc) h1 (xw_in h2) h5 g1 (xdec_ok h6) g2 hcu hsu (hcl _ _ _ _ _ _ _ hst) (fun v S I J r hk => hK _ _ _ _ _ _ _ _ hk)
  · rcases g3 with g3 | ⟨q, As, g3, g4⟩
    · cases g3
    · exact xs_callI F hfr hlo (okCs_ok hc) h1 (Or.inl (xw_in h2)) h5 g1 (xdec_ok h6) g2 hcu hsu g3 (hcl _ _ _ _ _ _ _ hst) (fun v S I J r hk => hK _ _ _ _ _ _ _ _ hk)
  · rcases g3 with g3 | ⟨q, As, g3, g4⟩
    · cases g3
    · exact xs_callI F hfr hlo (okCs_ok hc) h1 (Or.inr h2) h5 g1 (xdec_ok h6) g2 hcu hsu g3 (hcl _ _ _ _ _ _ _ hst) (fun v S I J r hk => hK _ _ _ _ _ _ _ _ hk)
theorem xi_56 (F : XFx p s m meth c args Rm cc own nL ini law sc mc ms A sV) {rt : Option FieldType} {d0 : Nat} {cl : XC} {nx : XN} {Q : XQ} (hfr : d0 + 1 ≤ Rm.frames) (hlo : 40 * (d0 + 1) ≤ Rm.locals)
    (hcl : ∀ (k : Nat) (as : XV) (S : XS) (I : XI) (J : XJ) (r : XR) (Q : XQ), cl k as S I J r Q → XMt l d0 dC dI sV k as S I J r Q)
    (hnx : ∀ (pc : Nat) (L st : XV) (S : XS) (I : XI) (J : XJ) (r : XR) (cu su : Nat), nx pc L st S I J r cu su → XW p l e9 Rm s m args below meth c dC dI A a0 n0 sV nL mc ms Zf pc L st S I J r cu su)
    (hret : ∀ (pc : Nat) (L : XV) (cu su : Nat) (v : Option Value) (S : XS) (I : XI) (J : XJ) (r : XR), Q v S I J r → xretOk rt v → decode cc pc = .ok (xri v, 1) → XW p l e9 Rm s m args below meth c dC dI A a0 n0 sV nL mc ms Zf pc L v.toList S I J r cu su) {len a b d h n e : Nat} {z : Int32} {w : Int64} (hK : ∀ (L st : XV) (S : XS) (I : XI) (J : XJ) (r : XR) (cu su : Nat), K L st S I J r cu su → XW p l e9 Rm s m args below meth c dC dI A a0 n0 sV nL mc ms Zf (pc + len) L st S I J r cu su) (hok : ck56 own cc nL rt ini law pc len a b d h n e z w = true) (hst : xst sc cl nx Q mc ms K (56, len, a, b, d, h, n, e, z, w) L st S I J r cu su) : XW p l e9 Rm s m args below meth c dC dI A a0 n0 sV nL mc ms Zf pc L st S I J r cu su := by
  unfold ck56 at hok
  simp only [Bool.or_eq_true, Bool.and_eq_true, beq_iff_eq, decide_eq_true_eq, Bool.not_eq_true'] at hok
  obtain ⟨rfl, h3⟩ := hok
  simp only [xst] at hst
  split at hst
  · exact xs_strL F hst.1 hst.2.1 (xdec_ok h3) (hK _ _ _ _ _ _ _ _ hst.2.2)
  · exact hst.elim
theorem xi_57 (F : XFx p s m meth c args Rm cc own nL ini law sc mc ms A sV) {rt : Option FieldType} {d0 : Nat} {cl : XC} {nx : XN} {Q : XQ} (hfr : d0 + 1 ≤ Rm.frames) (hlo : 40 * (d0 + 1) ≤ Rm.locals)
    (hcl : ∀ (k : Nat) (as : XV) (S : XS) (I : XI) (J : XJ) (r : XR) (Q : XQ), cl k as S I J r Q → XMt l d0 dC dI sV k as S I J r Q)
    (hnx : ∀ (pc : Nat) (L st : XV) (S : XS) (I : XI) (J : XJ) (r : XR) (cu su : Nat), nx pc L st S I J r cu su → XW p l e9 Rm s m args below meth c dC dI A a0 n0 sV nL mc ms Zf pc L st S I J r cu su)
    (hret : ∀ (pc : Nat) (L : XV) (cu su : Nat) (v : Option Value) (S : XS) (I : XI) (J : XJ) (r : XR), Q v S I J r → xretOk rt v → decode cc pc = .ok (xri v, 1) → XW p l e9 Rm s m args below meth c dC dI A a0 n0 sV nL mc ms Zf pc L v.toList S I J r cu su) {len a b d h n e : Nat} {z : Int32} {w : Int64} (hK : ∀ (L st : XV) (S : XS) (I : XI) (J : XJ) (r : XR) (cu su : Nat), K L st S I J r cu su → XW p l e9 Rm s m args below meth c dC dI A a0 n0 sV nL mc ms Zf (pc + len) L st S I J r cu su) (hok : ck57 own cc nL rt ini law pc len a b d h n e z w = true) (hst : xst sc cl nx Q mc ms K (57, len, a, b, d, h, n, e, z, w) L st S I J r cu su) : XW p l e9 Rm s m args below meth c dC dI A a0 n0 sV nL mc ms Zf pc L st S I J r cu su := by
  unfold ck57 at hok
  simp only [Bool.or_eq_true, Bool.and_eq_true, beq_iff_eq, decide_eq_true_eq, Bool.not_eq_true'] at hok
  obtain ⟨rfl, h3⟩ := hok
  simp only [xst] at hst
  split at hst
  · exact xs_strB F hst.1 hst.2.1 hst.2.2.1 (xdec_ok h3) (hK _ _ _ _ _ _ _ _ hst.2.2.2)
  · exact hst.elim
theorem xi_58 (F : XFx p s m meth c args Rm cc own nL ini law sc mc ms A sV) {rt : Option FieldType} {d0 : Nat} {cl : XC} {nx : XN} {Q : XQ} (hfr : d0 + 1 ≤ Rm.frames) (hlo : 40 * (d0 + 1) ≤ Rm.locals)
    (hcl : ∀ (k : Nat) (as : XV) (S : XS) (I : XI) (J : XJ) (r : XR) (Q : XQ), cl k as S I J r Q → XMt l d0 dC dI sV k as S I J r Q)
    (hnx : ∀ (pc : Nat) (L st : XV) (S : XS) (I : XI) (J : XJ) (r : XR) (cu su : Nat), nx pc L st S I J r cu su → XW p l e9 Rm s m args below meth c dC dI A a0 n0 sV nL mc ms Zf pc L st S I J r cu su)
    (hret : ∀ (pc : Nat) (L : XV) (cu su : Nat) (v : Option Value) (S : XS) (I : XI) (J : XJ) (r : XR), Q v S I J r → xretOk rt v → decode cc pc = .ok (xri v, 1) → XW p l e9 Rm s m args below meth c dC dI A a0 n0 sV nL mc ms Zf pc L v.toList S I J r cu su) {len a b d h n e : Nat} {z : Int32} {w : Int64} (hK : ∀ (L st : XV) (S : XS) (I : XI) (J : XJ) (r : XR) (cu su : Nat), K L st S I J r cu su → XW p l e9 Rm s m args below meth c dC dI A a0 n0 sV nL mc ms Zf (pc + len) L st S I J r cu su) (hok : ck58 own cc nL rt ini law pc len a b d h n e z w = true) (hst : xst sc cl nx Q mc ms K (58, len, a, b, d, h, n, e, z, w) L st S I J r cu su) : XW p l e9 Rm s m args below meth c dC dI A a0 n0 sV nL mc ms Zf pc L st S I J r cu su := by
  unfold ck58 at hok
  simp only [Bool.or_eq_true, Bool.and_eq_true, beq_iff_eq, decide_eq_true_eq, Bool.not_eq_true'] at hok
  obtain ⟨⟨rfl, h2⟩, h3⟩ := hok
  exact xs_getS F (xw_in h2) (xdec_ok h3) (hK _ _ _ _ _ _ _ _ hst)
theorem xi_59 (F : XFx p s m meth c args Rm cc own nL ini law sc mc ms A sV) {rt : Option FieldType} {d0 : Nat} {cl : XC} {nx : XN} {Q : XQ} (hfr : d0 + 1 ≤ Rm.frames) (hlo : 40 * (d0 + 1) ≤ Rm.locals)
    (hcl : ∀ (k : Nat) (as : XV) (S : XS) (I : XI) (J : XJ) (r : XR) (Q : XQ), cl k as S I J r Q → XMt l d0 dC dI sV k as S I J r Q)
    (hnx : ∀ (pc : Nat) (L st : XV) (S : XS) (I : XI) (J : XJ) (r : XR) (cu su : Nat), nx pc L st S I J r cu su → XW p l e9 Rm s m args below meth c dC dI A a0 n0 sV nL mc ms Zf pc L st S I J r cu su)
    (hret : ∀ (pc : Nat) (L : XV) (cu su : Nat) (v : Option Value) (S : XS) (I : XI) (J : XJ) (r : XR), Q v S I J r → xretOk rt v → decode cc pc = .ok (xri v, 1) → XW p l e9 Rm s m args below meth c dC dI A a0 n0 sV nL mc ms Zf pc L v.toList S I J r cu su) {len a b d h n e : Nat} {z : Int32} {w : Int64} (hK : ∀ (L st : XV) (S : XS) (I : XI) (J : XJ) (r : XR) (cu su : Nat), K L st S I J r cu su → XW p l e9 Rm s m args below meth c dC dI A a0 n0 sV nL mc ms Zf (pc + len) L st S I J r cu su) (hok : ck59 own cc nL rt ini law pc len a b d h n e z w = true) (hst : xst sc cl nx Q mc ms K (59, len, a, b, d, h, n, e, z, w) L st S I J r cu su) : XW p l e9 Rm s m args below meth c dC dI A a0 n0 sV nL mc ms Zf pc L st S I J r cu su := by
  unfold ck59 at hok
  simp only [Bool.or_eq_true, Bool.and_eq_true, beq_iff_eq, decide_eq_true_eq, Bool.not_eq_true'] at hok
  obtain ⟨⟨rfl, h2⟩, h3⟩ := hok
  exact xs_getP F (xw_in h2) (xdec_ok h3) (hK _ _ _ _ _ _ _ _ hst)
theorem xi_60 (F : XFx p s m meth c args Rm cc own nL ini law sc mc ms A sV) {rt : Option FieldType} {d0 : Nat} {cl : XC} {nx : XN} {Q : XQ} (hfr : d0 + 1 ≤ Rm.frames) (hlo : 40 * (d0 + 1) ≤ Rm.locals)
    (hcl : ∀ (k : Nat) (as : XV) (S : XS) (I : XI) (J : XJ) (r : XR) (Q : XQ), cl k as S I J r Q → XMt l d0 dC dI sV k as S I J r Q)
    (hnx : ∀ (pc : Nat) (L st : XV) (S : XS) (I : XI) (J : XJ) (r : XR) (cu su : Nat), nx pc L st S I J r cu su → XW p l e9 Rm s m args below meth c dC dI A a0 n0 sV nL mc ms Zf pc L st S I J r cu su)
    (hret : ∀ (pc : Nat) (L : XV) (cu su : Nat) (v : Option Value) (S : XS) (I : XI) (J : XJ) (r : XR), Q v S I J r → xretOk rt v → decode cc pc = .ok (xri v, 1) → XW p l e9 Rm s m args below meth c dC dI A a0 n0 sV nL mc ms Zf pc L v.toList S I J r cu su) {len a b d h n e : Nat} {z : Int32} {w : Int64} (hK : ∀ (L st : XV) (S : XS) (I : XI) (J : XJ) (r : XR) (cu su : Nat), K L st S I J r cu su → XW p l e9 Rm s m args below meth c dC dI A a0 n0 sV nL mc ms Zf (pc + len) L st S I J r cu su) (hok : ck60 own cc nL rt ini law pc len a b d h n e z w = true) (hst : xst sc cl nx Q mc ms K (60, len, a, b, d, h, n, e, z, w) L st S I J r cu su) : XW p l e9 Rm s m args below meth c dC dI A a0 n0 sV nL mc ms Zf pc L st S I J r cu su := by
  unfold ck60 at hok
  simp only [Bool.or_eq_true, Bool.and_eq_true, beq_iff_eq, decide_eq_true_eq, Bool.not_eq_true'] at hok
  intro ls H locs ws tys hXH
  have hcu := hXH.2.2.2.2.1
  have hsu := hXH.2.2.2.2.2
  obtain ⟨⟨⟨⟨⟨⟨⟨⟨rfl, hc⟩, hm⟩, hn⟩, h1⟩, h2⟩, h4⟩, h5⟩, h6⟩ := hok
  refine (?_ : XW p l e9 Rm s m args below meth c dC dI A a0 n0 sV nL mc ms Zf pc L st S I J r cu su) ls H locs ws tys hXH
  simp only [xst] at hst
  obtain ⟨g1, g2, ⟨i, As, g3, g4⟩, hst⟩ := hst
  have ecu : cu + mck b = cu := by rw [hm]; rfl
  have esu : su + msk b = su := by rw [hn]; rfl
  exact xs_callX F hfr hlo (okCs_ok hc) h1 (xw_in h2) h4 h5 g1 (xdec_ok h6) g2 (by rw [ecu]; exact hcu) (by rw [esu]; exact hsu) g3 g4 (hcl _ _ _ _ _ _ _ hst) (fun v S I J r hk => by rw [ecu, esu]; exact hK _ _ _ _ _ _ _ _ hk)
theorem xi_61 (F : XFx p s m meth c args Rm cc own nL ini law sc mc ms A sV) {rt : Option FieldType} {d0 : Nat} {cl : XC} {nx : XN} {Q : XQ} (hfr : d0 + 1 ≤ Rm.frames) (hlo : 40 * (d0 + 1) ≤ Rm.locals)
    (hcl : ∀ (k : Nat) (as : XV) (S : XS) (I : XI) (J : XJ) (r : XR) (Q : XQ), cl k as S I J r Q → XMt l d0 dC dI sV k as S I J r Q)
    (hnx : ∀ (pc : Nat) (L st : XV) (S : XS) (I : XI) (J : XJ) (r : XR) (cu su : Nat), nx pc L st S I J r cu su → XW p l e9 Rm s m args below meth c dC dI A a0 n0 sV nL mc ms Zf pc L st S I J r cu su)
    (hret : ∀ (pc : Nat) (L : XV) (cu su : Nat) (v : Option Value) (S : XS) (I : XI) (J : XJ) (r : XR), Q v S I J r → xretOk rt v → decode cc pc = .ok (xri v, 1) → XW p l e9 Rm s m args below meth c dC dI A a0 n0 sV nL mc ms Zf pc L v.toList S I J r cu su) {len a b d h n e : Nat} {z : Int32} {w : Int64} (hK : ∀ (L st : XV) (S : XS) (I : XI) (J : XJ) (r : XR) (cu su : Nat), K L st S I J r cu su → XW p l e9 Rm s m args below meth c dC dI A a0 n0 sV nL mc ms Zf (pc + len) L st S I J r cu su) (hok : ck61 own cc nL rt ini law pc len a b d h n e z w = true) (hst : xst sc cl nx Q mc ms K (61, len, a, b, d, h, n, e, z, w) L st S I J r cu su) : XW p l e9 Rm s m args below meth c dC dI A a0 n0 sV nL mc ms Zf pc L st S I J r cu su := by
  unfold ck61 at hok
  simp only [Bool.or_eq_true, Bool.and_eq_true, beq_iff_eq, decide_eq_true_eq, Bool.not_eq_true'] at hok
  obtain ⟨⟨⟨⟨⟨⟨⟨rfl, h1⟩, h2⟩, h3⟩, h4⟩, h5⟩, h6⟩, h7⟩ := hok
  have h6 : ((xC b).2.1 d).2.2.2 = false ∨ (((xC b).2.1 d).2.2.2 = true ∧ ini = true ∧ ((xC b).2.1 d).1 = own) := by
    rcases h6 with h6 | h6
    · exact Or.inl h6
    · exact Or.inr ⟨h6.1.1, h6.1.2, h6.2⟩
  simp only [xst] at hst
  split at hst
  · exact xs_putI F h1 h2 h3 (Or.inr ⟨h7, hst.1⟩) (xw_in h4) h6 (xdec_ok h5) hst.2.1 (hK _ _ _ _ _ _ _ _ hst.2.2)
  · exact hst.elim
theorem xs_ins (F : XFx p s m meth c args Rm cc own nL ini law sc mc ms A sV) {rt : Option FieldType} {d0 : Nat} {cl : XC} {nx : XN} {Q : XQ} (hfr : d0 + 1 ≤ Rm.frames) (hlo : 40 * (d0 + 1) ≤ Rm.locals)
    (hcl : ∀ (k : Nat) (as : XV) (S : XS) (I : XI) (J : XJ) (r : XR) (Q : XQ), cl k as S I J r Q → XMt l d0 dC dI sV k as S I J r Q)
    (hnx : ∀ (pc : Nat) (L st : XV) (S : XS) (I : XI) (J : XJ) (r : XR) (cu su : Nat), nx pc L st S I J r cu su → XW p l e9 Rm s m args below meth c dC dI A a0 n0 sV nL mc ms Zf pc L st S I J r cu su)
    (hret : ∀ (pc : Nat) (L : XV) (cu su : Nat) (v : Option Value) (S : XS) (I : XI) (J : XJ) (r : XR), Q v S I J r → xretOk rt v → decode cc pc = .ok (xri v, 1) → XW p l e9 Rm s m args below meth c dC dI A a0 n0 sV nL mc ms Zf pc L v.toList S I J r cu su) {i : XO} (hK : ∀ (L st : XV) (S : XS) (I : XI) (J : XJ) (r : XR) (cu su : Nat), K L st S I J r cu su → XW p l e9 Rm s m args below meth c dC dI A a0 n0 sV nL mc ms Zf (pc + i.2.1) L st S I J r cu su) (hok : xins own cc nL rt ini law pc i = true) (hst : xst sc cl nx Q mc ms K i L st S I J r cu su) : XW p l e9 Rm s m args below meth c dC dI A a0 n0 sV nL mc ms Zf pc L st S I J r cu su := by
  obtain ⟨op, len, a, b, d, h, n, e, z, w⟩ := i
  by_cases e0 : op = 0
  · subst e0
    exact xi_0 F hfr hlo hcl hnx hret hK hok hst
  by_cases e1 : op = 1
  · subst e1
    exact xi_1 F hfr hlo hcl hnx hret hK hok hst
  by_cases e2 : op = 2
  · subst e2
    exact xi_2 F hfr hlo hcl hnx hret hK hok hst
  by_cases e3 : op = 3
  · subst e3
    exact xi_3 F hfr hlo hcl hnx hret hK hok hst
  by_cases e4 : op = 4
  · subst e4
    exact xi_4 F hfr hlo hcl hnx hret hK hok hst
  by_cases e5 : op = 5
  · subst e5
    exact xi_5 F hfr hlo hcl hnx hret hK hok hst
  by_cases e6 : op = 6
  · subst e6
    exact xi_6 F hfr hlo hcl hnx hret hK hok hst
  by_cases e7 : op = 7
  · subst e7
    exact xi_7 F hfr hlo hcl hnx hret hK hok hst
  by_cases e8 : op = 8
  · subst e8
    exact xi_8 F hfr hlo hcl hnx hret hK hok hst
  by_cases e9 : op = 9
  · subst e9
    exact xi_9 F hfr hlo hcl hnx hret hK hok hst
  by_cases e10 : op = 10
  · subst e10
    exact xi_10 F hfr hlo hcl hnx hret hK hok hst
  by_cases e11 : op = 11
  · subst e11
    exact xi_11 F hfr hlo hcl hnx hret hK hok hst
  by_cases e12 : op = 12
  · subst e12
    exact xi_12 F hfr hlo hcl hnx hret hK hok hst
  by_cases e13 : op = 13
  · subst e13
    exact xi_13 F hfr hlo hcl hnx hret hK hok hst
  by_cases e14 : op = 14
  · subst e14
    exact xi_14 F hfr hlo hcl hnx hret hK hok hst
  by_cases e15 : op = 15
  · subst e15
    exact xi_15 F hfr hlo hcl hnx hret hK hok hst
  by_cases e16 : op = 16
  · subst e16
    exact xi_16 F hfr hlo hcl hnx hret hK hok hst
  by_cases e17 : op = 17
  · subst e17
    exact xi_17 F hfr hlo hcl hnx hret hK hok hst
  by_cases e18 : op = 18
  · subst e18
    exact xi_18 F hfr hlo hcl hnx hret hK hok hst
  by_cases e19 : op = 19
  · subst e19
    exact xi_19 F hfr hlo hcl hnx hret hK hok hst
  by_cases e20 : op = 20
  · subst e20
    exact xi_20 F hfr hlo hcl hnx hret hK hok hst
  by_cases e21 : op = 21
  · subst e21
    exact xi_21 F hfr hlo hcl hnx hret hK hok hst
  by_cases e22 : op = 22
  · subst e22
    exact xi_22 F hfr hlo hcl hnx hret hK hok hst
  by_cases e23 : op = 23
  · subst e23
    exact xi_23 F hfr hlo hcl hnx hret hK hok hst
  by_cases e24 : op = 24
  · subst e24
    exact xi_24 F hfr hlo hcl hnx hret hK hok hst
  by_cases e25 : op = 25
  · subst e25
    exact xi_25 F hfr hlo hcl hnx hret hK hok hst
  by_cases e26 : op = 26
  · subst e26
    exact xi_26 F hfr hlo hcl hnx hret hK hok hst
  by_cases e27 : op = 27
  · subst e27
    exact xi_27 F hfr hlo hcl hnx hret hK hok hst
  by_cases e28 : op = 28
  · subst e28
    exact xi_28 F hfr hlo hcl hnx hret hK hok hst
  by_cases e29 : op = 29
  · subst e29
    exact xi_29 F hfr hlo hcl hnx hret hK hok hst
  by_cases e30 : op = 30
  · subst e30
    exact xi_30 F hfr hlo hcl hnx hret hK hok hst
  by_cases e31 : op = 31
  · subst e31
    exact xi_31 F hfr hlo hcl hnx hret hK hok hst
  by_cases e32 : op = 32
  · subst e32
    exact xi_32 F hfr hlo hcl hnx hret hK hok hst
  by_cases e33 : op = 33
  · subst e33
    exact xi_33 F hfr hlo hcl hnx hret hK hok hst
  by_cases e34 : op = 34
  · subst e34
    exact xi_34 F hfr hlo hcl hnx hret hK hok hst
  by_cases e35 : op = 35
  · subst e35
    exact xi_35 F hfr hlo hcl hnx hret hK hok hst
  by_cases e36 : op = 36
  · subst e36
    exact xi_36 F hfr hlo hcl hnx hret hK hok hst
  by_cases e37 : op = 37
  · subst e37
    exact xi_37 F hfr hlo hcl hnx hret hK hok hst
  by_cases e38 : op = 38
  · subst e38
    exact xi_38 F hfr hlo hcl hnx hret hK hok hst
  by_cases e39 : op = 39
  · subst e39
    exact xi_39 F hfr hlo hcl hnx hret hK hok hst
  by_cases e40 : op = 40
  · subst e40
    exact xi_40 F hfr hlo hcl hnx hret hK hok hst
  by_cases e42 : op = 42
  · subst e42
    exact xi_42 F hfr hlo hcl hnx hret hK hok hst
  by_cases e43 : op = 43
  · subst e43
    exact xi_43 F hfr hlo hcl hnx hret hK hok hst
  by_cases e44 : op = 44
  · subst e44
    exact xi_44 F hfr hlo hcl hnx hret hK hok hst
  by_cases e45 : op = 45
  · subst e45
    exact xi_45 F hfr hlo hcl hnx hret hK hok hst
  by_cases e46 : op = 46
  · subst e46
    exact xi_46 F hfr hlo hcl hnx hret hK hok hst
  by_cases e47 : op = 47
  · subst e47
    exact xi_47 F hfr hlo hcl hnx hret hK hok hst
  by_cases e48 : op = 48
  · subst e48
    exact xi_48 F hfr hlo hcl hnx hret hK hok hst
  by_cases e49 : op = 49
  · subst e49
    exact xi_49 F hfr hlo hcl hnx hret hK hok hst
  by_cases e50 : op = 50
  · subst e50
    exact xi_50 F hfr hlo hcl hnx hret hK hok hst
  by_cases e51 : op = 51
  · subst e51
    exact xi_51 F hfr hlo hcl hnx hret hK hok hst
  by_cases e52 : op = 52
  · subst e52
    exact xi_52 F hfr hlo hcl hnx hret hK hok hst
  by_cases e53 : op = 53
  · subst e53
    exact xi_53 F hfr hlo hcl hnx hret hK hok hst
  by_cases e54 : op = 54
  · subst e54
    exact xi_54 F hfr hlo hcl hnx hret hK hok hst
  by_cases e55 : op = 55
  · subst e55
    exact xi_55 F hfr hlo hcl hnx hret hK hok hst
  by_cases e56 : op = 56
  · subst e56
    exact xi_56 F hfr hlo hcl hnx hret hK hok hst
  by_cases e57 : op = 57
  · subst e57
    exact xi_57 F hfr hlo hcl hnx hret hK hok hst
  by_cases e58 : op = 58
  · subst e58
    exact xi_58 F hfr hlo hcl hnx hret hK hok hst
  by_cases e59 : op = 59
  · subst e59
    exact xi_59 F hfr hlo hcl hnx hret hK hok hst
  by_cases e60 : op = 60
  · subst e60
    exact xi_60 F hfr hlo hcl hnx hret hK hok hst
  by_cases e61 : op = 61
  · subst e61
    exact xi_61 F hfr hlo hcl hnx hret hK hok hst
  exfalso
  unfold xins at hok
  simp only at hok
  first | cases hok | (split at hok <;> first | (simp_all; done) | cases hok)
def xblkOk (own : String) (cc : ByteArray) (nL : Nat) (rt : Option FieldType) (ini law : Bool) : Nat → List XO → Bool
  | _, [] => true
  | pc, i :: is => xins own cc nL rt ini law pc i && xblkOk own cc nL rt ini law (pc + i.2.1) is
theorem xs_blk (F : XFx p s m meth c args Rm cc own nL ini law sc mc ms A sV) {rt : Option FieldType} {d0 : Nat} {cl : XC} {nx : XN} {Q : XQ} (hfr : d0 + 1 ≤ Rm.frames) (hlo : 40 * (d0 + 1) ≤ Rm.locals)
    (hcl : ∀ (k : Nat) (as : XV) (S : XS) (I : XI) (J : XJ) (r : XR) (Q : XQ), cl k as S I J r Q → XMt l d0 dC dI sV k as S I J r Q)
    (hnx : ∀ (pc : Nat) (L st : XV) (S : XS) (I : XI) (J : XJ) (r : XR) (cu su : Nat), nx pc L st S I J r cu su → XW p l e9 Rm s m args below meth c dC dI A a0 n0 sV nL mc ms Zf pc L st S I J r cu su)
    (hret : ∀ (pc : Nat) (L : XV) (cu su : Nat) (v : Option Value) (S : XS) (I : XI) (J : XJ) (r : XR), Q v S I J r → xretOk rt v → decode cc pc = .ok (xri v, 1) → XW p l e9 Rm s m args below meth c dC dI A a0 n0 sV nL mc ms Zf pc L v.toList S I J r cu su) : ∀ (is : List XO) (pc : Nat) (L st : XV) (S : XS) (I : XI) (J : XJ) (r : XR) (cu su : Nat), xblkOk own cc nL rt ini law pc is = true → xwp sc cl nx Q mc ms is L st S I J r cu su → XW p l e9 Rm s m args below meth c dC dI A a0 n0 sV nL mc ms Zf pc L st S I J r cu su
  | [], _, _, _, _, _, _, _, _, _, _, h => h.elim
  | i :: is, pc, L, st, S, I, J, r, cu, su, hok, hst => by
    have hok := Bool.and_eq_true_iff.mp hok
    exact xs_ins F hfr hlo hcl hnx hret (fun L st S I J r cu su h => xs_blk F hfr hlo hcl hnx hret is _ L st S I J r cu su hok.2 h) hok.1 hst
end XOps
end
section
/-- the least predicate that its own blocks ask -/
def xrun (sc : Nat × (Nat → Int32)) (cl : XC) (Q : XQ) (k : Nat) : XN := fun pc L st S I J r cu su =>
  ∀ P : XN, (∀ pc L st S I J r cu su, xwp sc cl P Q (mck k) (msk k) (xblk k pc) L st S I J r cu su → P pc L st S I J r cu su) → P pc L st S I J r cu su
def xcall : Nat → XC
  | 0 => fun _ _ _ _ _ _ _ => False
  | d + 1 => fun k as S I J r Q => k < 351 ∧ xsz as ≤ mlk k ∧ xrun (0, fun _ => 0) (xcall d) Q k 0 (xent as (mlk k)) [] S I J r 0 0
/-! monotony -/
theorem xsw_mono {nx nx' : XN} (h : ∀ pc L st S I J r cu su, nx pc L st S I J r cu su → nx' pc L st S I J r cu su) {L st : XV} {S : XS} {I : XI} {J : XJ} {r : XR} {cu su : Nat} {x : Int32} {d : Nat} : ∀ {cs : List (Int32 × Nat)}, xsw nx L st S I J r cu su x d cs → xsw nx' L st S I J r cu su x d cs
  | [], q => h _ _ _ _ _ _ _ _ _ q
  | (_, _) :: _, q => ⟨fun e => h _ _ _ _ _ _ _ _ _ (q.1 e), fun e => xsw_mono h (q.2 e)⟩
set_option maxHeartbeats 4000000 in
theorem xst_mono {sc : Nat × (Nat → Int32)} {cl cl' : XC} {nx nx' : XN} {Q Q' : XQ} {mc ms : Nat} {K K' : XK} (hc : ∀ k as S I J r (q q' : XQ), (∀ v S I J r, q v S I J r → q' v S I J r) → cl k as S I J r q → cl' k as S I J r q') (hn : ∀ pc L st S I J r cu su, nx pc L st S I J r cu su → nx' pc L st S I J r cu su) (hq : ∀ v S I J r, Q v S I J r → Q' v S I J r) (hk : ∀ L st S I J r cu su, K L st S I J r cu su → K' L st S I J r cu su) :
    ∀ (i : XO) (L st : XV) (S : XS) (I : XI) (J : XJ) (r : XR) (cu su : Nat), xst sc cl nx Q mc ms K i L st S I J r cu su → xst sc cl' nx' Q' mc ms K' i L st S I J r cu su := by
  rintro ⟨op, l, a, b, d, h, n, e, z, w⟩ L st S I J r cu su hs
  unfold xst at hs ⊢
  dsimp only at hs ⊢
  split at hs
  all_goals try exact hs.elim
  all_goals first
    | exact hk _ _ _ _ _ _ _ _ hs
    | exact hn _ _ _ _ _ _ _ _ _ hs
    | exact ⟨hs.1, hs.2.1, hk _ _ _ _ _ _ _ _ hs.2.2⟩
    | exact ⟨hs.1, hs.2.1, hs.2.2.1, hc _ _ _ _ _ _ _ _ (fun v S I J r q => hk _ _ _ _ _ _ _ _ q) hs.2.2.2⟩
    | exact ⟨hs.1, hs.2.1, hs.2.2.1, hs.2.2.2.1, hs.2.2.2.2.1, hc _ _ _ _ _ _ _ _ (fun v S I J r q => hk _ _ _ _ _ _ _ _ q) hs.2.2.2.2.2⟩
    | (split at hs
       all_goals try exact hs.elim
       all_goals first
         | exact hk _ _ _ _ _ _ _ _ hs
         | exact hn _ _ _ _ _ _ _ _ _ hs
         | exact hq _ _ _ _ _ hs
         | exact ⟨hs.1, hk _ _ _ _ _ _ _ _ hs.2⟩
         | exact ⟨hs.1, hs.2.1, hk _ _ _ _ _ _ _ _ hs.2.2⟩
         | exact ⟨hs.1, hs.2.1, hs.2.2.1, hs.2.2.2.1, hk _ _ _ _ _ _ _ _ hs.2.2.2.2⟩
         | exact ⟨hs.1, hs.2.1, hs.2.2.1, hs.2.2.2.1, hs.2.2.2.2.1, hk _ _ _ _ _ _ _ _ hs.2.2.2.2.2⟩
         | exact ⟨fun q => hn _ _ _ _ _ _ _ _ _ (hs.1 q), fun q => hk _ _ _ _ _ _ _ _ (hs.2 q)⟩
         | exact ⟨hs.1, hq _ _ _ _ _ hs.2⟩
         | exact xsw_mono hn hs
         | (obtain ⟨x1, h1, h2, h3⟩ := hs; exact ⟨x1, h1, h2, hk _ _ _ _ _ _ _ _ h3⟩)
         | (obtain ⟨x1, h1, h2, h3, h4⟩ := hs; exact ⟨x1, h1, h2, h3, hk _ _ _ _ _ _ _ _ h4⟩)
         | (obtain ⟨x1, x2, h1, h2, h3⟩ := hs; exact ⟨x1, x2, h1, h2, hk _ _ _ _ _ _ _ _ h3⟩)
         | (obtain ⟨x1, x2, h1, h2, h3, h4⟩ := hs; exact ⟨x1, x2, h1, h2, h3, hk _ _ _ _ _ _ _ _ h4⟩)
         | (obtain ⟨x0, x1, x2, h1, h2, h3, h4, h5, h6, h7, h8⟩ := hs; exact ⟨x0, x1, x2, h1, h2, h3, h4, h5, h6, h7, hk _ _ _ _ _ _ _ _ h8⟩))
theorem xwp_mono {sc : Nat × (Nat → Int32)} {cl cl' : XC} {nx nx' : XN} {Q Q' : XQ} {mc ms : Nat} (hc : ∀ k as S I J r (q q' : XQ), (∀ v S I J r, q v S I J r → q' v S I J r) → cl k as S I J r q → cl' k as S I J r q') (hn : ∀ pc L st S I J r cu su, nx pc L st S I J r cu su → nx' pc L st S I J r cu su) (hq : ∀ v S I J r, Q v S I J r → Q' v S I J r) :
    ∀ (is : List XO) (L st : XV) (S : XS) (I : XI) (J : XJ) (r : XR) (cu su : Nat), xwp sc cl nx Q mc ms is L st S I J r cu su → xwp sc cl' nx' Q' mc ms is L st S I J r cu su
  | [], _, _, _, _, _, _, _, _, h => h
  | i :: is, L, st, S, I, J, r, cu, su, h => xst_mono hc hn hq (fun L st S I J r cu su h => xwp_mono hc hn hq is L st S I J r cu su h) i L st S I J r cu su h
theorem xrun_mono {sc : Nat × (Nat → Int32)} {cl cl' : XC} {Q Q' : XQ} {k : Nat} (hc : ∀ k as S I J r (q q' : XQ), (∀ v S I J r, q v S I J r → q' v S I J r) → cl k as S I J r q → cl' k as S I J r q') (hq : ∀ v S I J r, Q v S I J r → Q' v S I J r) {pc : Nat} {L st : XV} {S : XS} {I : XI} {J : XJ} {r : XR} {cu su : Nat} (h : xrun sc cl Q k pc L st S I J r cu su) : xrun sc cl' Q' k pc L st S I J r cu su :=
  fun P hP => h P fun pc L st S I J r cu su hw => hP _ _ _ _ _ _ _ _ _ (xwp_mono hc (fun _ _ _ _ _ _ _ _ _ q => q) hq _ _ _ _ _ _ _ _ _ hw)
theorem xcall_imp : ∀ {d d' : Nat}, d ≤ d' → ∀ {k : Nat} {as : XV} {S : XS} {I : XI} {J : XJ} {r : XR} {Q Q' : XQ}, xcall d k as S I J r Q → (∀ v S I J r, Q v S I J r → Q' v S I J r) → xcall d' k as S I J r Q'
  | 0, _, _, _, _, _, _, _, _, _, _, h, _ => h.elim
  | d + 1, 0, hd, _, _, _, _, _, _, _, _, _, _ => by omega
  | d + 1, d' + 1, hd, _, _, _, _, _, _, _, _, h, hq => ⟨h.1, h.2.1, xrun_mono (cl := xcall d) (cl' := xcall d') (fun _ _ _ _ _ _ _ _ hqq hh => xcall_imp (Nat.le_of_succ_le_succ hd) hh hqq) hq h.2.2⟩
/-- one block -/
theorem xrun_blk {sc : Nat × (Nat → Int32)} {d : Nat} {Q : XQ} {k pc : Nat} {L st : XV} {S : XS} {I : XI} {J : XJ} {r : XR} {cu su : Nat} (h : xwp sc (xcall d) (xrun sc (xcall d) Q k) Q (mck k) (msk k) (xblk k pc) L st S I J r cu su) : xrun sc (xcall d) Q k pc L st S I J r cu su :=
  fun P hP => hP _ _ _ _ _ _ _ _ _ (xwp_mono (cl := xcall d) (cl' := xcall d) (nx := xrun sc (xcall d) Q k) (fun _ _ _ _ _ _ _ _ hqq hh => xcall_imp (Nat.le_refl _) hh hqq) (fun _ _ _ _ _ _ _ _ _ q => q P hP) (fun _ _ _ _ _ q => q) _ _ _ _ _ _ _ _ _ h)
def okMs (k : Nat) : Bool := decide (k < 351) && !([1,48,49,50,51].contains k)
def okMb (k : Nat) : Bool := (xtl.getD k []).all fun e => xblkOk (xm k).1.cls (xm k).2.1 (xm k).2.2.1 (xm k).2.2.2 (decide ((xm k).1.name = "<init>")) false e.1 e.2
theorem Met.ofWF {l : Launch} {y : MethodName} {ws ws' : List Cond} {rm : Room} {Pc : Array Value → State → Prop} {Qc : Array Value → State → Outcome → State → Prop} {mc ms : Nat} {free : Addr → Prop} {cc : ByteArray} {maxL : Nat} {ret : Option FieldType}
    (hy : plainFor y = true) (hw : ws = Cond.code y cc maxL ret :: ws')
    (body : ∀ p e s m args below meth c s₁, BodyLoose p l y (headSpec ws rm) cc maxL ret e s m args below meth c s₁ → c.maxLocals = maxL → Pc args s →
      W p l e (headSpec ws rm).room s m args below meth c s.heap [] 0 0 (MQ below Qc args s mc ms free) (entryFrame m args maxL)) : Met l y ws rm Pc Qc mc ms free := by
  refine MetFree.of_bodySF (code := cc) (maxLocals := maxL) (ret := ret) hy ?_ ?_
  · intro args s m h hn
    obtain ⟨meth, c, h1, h2, h3, h4, h5, h6, -, -⟩ := Cond.code_spec hn (atoms_spec (ws := ws) h _ (by rw [hw]; exact List.mem_cons_self))
    exact ⟨meth, c, h1, h2, h3, h4, h5, h6⟩
  · intro p e s m args below meth c s₁ B hml hP _
    have hh0 : s₁.heap = s.heap := by rw [B.state]; rfl
    obtain ⟨t, a1, o, b1, b2, b3⟩ := body p e s m args below meth c s₁ B hml hP s₁ hh0 (Stand.of_body B)
    exact ⟨t, o, a1, b1, b2, ⟨b3.1, b3.2⟩⟩
def okM (k : Nat) : Bool := plainFor (xm k).1 && decide (mlk k = (xm k).2.2.1)
theorem xfind_ok {p : Nat → List XO → Bool} {pc : Nat} (h0 : p pc [] = true) : ∀ {l : List (Nat × List XO)}, l.all (fun e => p e.1 e.2) = true → p pc (xfind pc l) = true
  | [], _ => h0
  | e :: es, h => by
    have h := Bool.and_eq_true_iff.mp h
    unfold xfind
    by_cases q : e.1 = pc
    · rw [if_pos q, ← q]; exact h.1
    · rw [if_neg q]; exact xfind_ok h0 h.2
theorem xpd_len : ∀ (as : XV), (xpd as).length ≤ xsz as
  | [] => Nat.le_refl _
  | v :: as => by
    have := xpd_len as
    cases v <;> simp [xpd, xsz, Value.category] <;> omega
theorem lg_len (ad : Nat → Nat) (sV : Nat → Value) (hs : ∀ i, (sV i).category = 1) : ∀ (as : XV), (lg_sl (as.map (xtr ad sV))).length = xsz as
  | [] => rfl
  | v :: as => by
    have ih := lg_len ad sV hs as
    have e : lg_sl ((v :: as).map (xtr ad sV)) = (if (xtr ad sV v).category = 2 then [Slot.val (xtr ad sV v), .second] else [.val (xtr ad sV v)]) ++ lg_sl (as.map (xtr ad sV)) := rfl
    rw [e, List.length_append, ih, xtr_cat hs]
    rcases lv_cat v with h | h <;> rw [h] <;> simp [xsz, h]
theorem xpd_args (ad : Nat → Nat) (sV : Nat → Value) (hs : ∀ i, (sV i).category = 1) : ∀ (as : XV) (i j : Nat) (v : Value), (xpd as)[j]? = some v → xmk v = false → (i + j, xtr ad sV v) ∈ lv_args i (as.map (xtr ad sV))
  | [], i, j, v, h, _ => by simp [xpd] at h
  | u :: as, i, j, v, h, hm => by
    have e : lv_args i ((u :: as).map (xtr ad sV)) = (i, xtr ad sV u) :: lv_args (if (xtr ad sV u).category = 2 then i + 2 else i + 1) (as.map (xtr ad sV)) := rfl
    rw [e, xtr_cat hs]
    have one : u.category = 1 → xpd (u :: as) = u :: xpd as → (i + j, xtr ad sV v) ∈ (i, xtr ad sV u) :: lv_args (if u.category = 2 then i + 2 else i + 1) (as.map (xtr ad sV)) := by
      intro hc hx
      rw [hx] at h
      cases j with
      | zero => simp at h; subst h; exact List.mem_cons_self
      | succ j =>
        have h' : (xpd as)[j]? = some v := by simpa using h
        rw [hc, if_neg (by decide)]
        have := xpd_args ad sV hs as (i + 1) j v h' hm
        rw [show i + 1 + j = i + (j + 1) by omega] at this
        exact List.mem_cons_of_mem _ this
    cases u with
    | long x =>
      have hx : xpd (.long x :: as) = .long x :: .float 0 :: xpd as := rfl
      rw [hx] at h
      match j, h with
      | 0, h => simp at h; subst h; exact List.mem_cons_self
      | 1, h => simp at h; subst h; cases hm
      | j + 2, h =>
        have h' : (xpd as)[j]? = some v := by simpa using h
        have := xpd_args ad sV hs as (i + 2) j v h' hm
        rw [show i + 2 + j = i + (j + 2) by omega] at this
        exact List.mem_cons_of_mem _ this
    | double x =>
      have hx : xpd (.double x :: as) = .double x :: .float 0 :: xpd as := rfl
      rw [hx] at h
      match j, h with
      | 0, h => simp at h; subst h; exact List.mem_cons_self
      | 1, h => simp at h; subst h; cases hm
      | j + 2, h =>
        have h' : (xpd as)[j]? = some v := by simpa using h
        have := xpd_args ad sV hs as (i + 2) j v h' hm
        rw [show i + 2 + j = i + (j + 2) by omega] at this
        exact List.mem_cons_of_mem _ this
    | _ => exact one rfl rfl
/-- the locals at the entry -/
theorem xent_ls {ad : Nat → Nat} {sV : Nat → Value} (hs : ∀ i, (sV i).category = 1) {as : XV} {n : Nat} (h : xsz as ≤ n) : XLs ad sV n ((lg_sl (as.map (xtr ad sV)) ++ List.replicate (n - (lg_sl (as.map (xtr ad sV))).length) Slot.unset).toArray) (xent as n) := by
  have hl := lv_entry (as.map (xtr ad sV)) (n := n) (by rw [lg_len ad sV hs]; exact h)
  refine ⟨hl.1, hl.2.1, fun i v hi hm => ?_⟩
  have h2 : (xpd as)[i]? = some v := by
    unfold xent at hi
    by_cases q : i < (xpd as).length
    · rwa [List.getElem?_append_left q] at hi
    · rw [List.getElem?_append_right (by omega), List.getElem?_replicate] at hi
      split at hi
      · cases hi; cases hm
      · cases hi
  have h3 := xpd_args ad sV hs as 0 i v h2 hm
  rw [Nat.zero_add] at h3
  exact hl.2.2 (i, xtr ad sV v) h3
theorem xent_ok {S : XS} {n : Nat} : ∀ {as : XV}, (∀ v ∈ as, xok S v) → ∀ v ∈ xent as n, xok S v := by
  have hp : ∀ (as : XV), (∀ v ∈ as, xok S v) → ∀ v ∈ xpd as, xok S v := by
    intro as
    induction as with
    | nil => intro _ v hv; simp [xpd] at hv
    | cons u as ih =>
      intro h v hv
      have h1 := h u List.mem_cons_self
      have h2 := ih (fun v hv => h v (List.mem_cons_of_mem _ hv))
      cases u <;> simp only [xpd, List.mem_cons] at hv
      case long x => rcases hv with rfl | rfl | hv; exact h1; trivial; exact h2 v hv
      case double x => rcases hv with rfl | rfl | hv; exact h1; trivial; exact h2 v hv
      all_goals (rcases hv with rfl | hv; exact h1; exact h2 v hv)
  intro as h v hv
  unfold xent at hv
  rcases List.mem_append.mp hv with hv | hv
  · exact hp as h v hv
  · rw [(List.mem_replicate.mp hv).2]; trivial
theorem xrun_no {sc : Nat × (Nat → Int32)} {cl : XC} {Q : XQ} {k pc : Nat} {L st : XV} {S : XS} {I : XI} {J : XJ} {r : XR} {cu su : Nat} (hk : xtl.getD k [] = []) (h : xrun sc cl Q k pc L st S I J r cu su) : False := by
  refine h (fun _ _ _ _ _ _ _ _ _ => False) (fun pc L st S I J r cu su hw => ?_)
  have e : xblk k pc = [] := by unfold xblk; rw [hk]; rfl
  rw [e] at hw
  exact hw
set_option maxHeartbeats 4000000 in
/-- what the abstract machine does, the machine does: a method's contract out of xcall -/
theorem xcall_ok (hM : ∀ k, k < 351 → okMs k = true → okM k = true) (hMb : ∀ k, k < 351 → okMs k = true → okMb k = true) (hno : ∀ k, k < 351 → okMs k = false → xtl.getD k [] = []) (l : Launch) (dC : Nat → ClassId) (dI : Nat → Nat → Nat) (sV : Nat → Value) : ∀ (d k : Nat) (as : XV) (S : XS) (I : XI) (J : XJ) (r : XR) (Q : XQ), xcall d k as S I J r Q → XMt l d dC dI sV k as S I J r Q
  | 0, _, _, _, _, _, _, _, h => h.elim
  | d + 1, k, as, S, I, J, r, Q, h => by
    obtain ⟨hk, hsz, hrun⟩ := h
    have hok : okMs k = true := by
      cases hok : okMs k with
      | true => rfl
      | false => exact (xrun_no (hno k hk hok) hrun).elim
    have hm := hM k hk hok
    have hmb := hMb k hk hok
    unfold okM at hm
    rw [Bool.and_eq_true] at hm
    have hml0 : mlk k = (xm k).2.2.1 := of_decide_eq_true hm.2
    intro ws tys sz
    refine Met.ofWF (cc := (xm k).2.1) (maxL := (xm k).2.2.1) (ret := (xm k).2.2.2) hm.1 rfl ?_
    intro p e s m args below meth c s₁ B hml hv
    obtain ⟨rfl, hsz0, hP, hK, hD0, hX, hStr, has⟩ := hv
    have hts0 := atoms_spec (ws := xwk k) B.pre
    have hlocks := B.notSynchronized
    subst hsz0
    have hD := hD0.self (sz := s.heap.size)
    have F : XFx p s m meth c (as.map (xtr (xadr ws) sV)).toArray (xroom (d + 1) k) (xm k).2.1 (xm k).1.cls (xm k).2.2.1 (decide ((xm k).1.name = "<init>")) false (0, fun _ => 0) (mck k) (msk k) (va_A ws s.heap.size) sV :=
      ⟨B.exec, B.bytes, hml, findClass_of_methodNamed B.named, fun w hw => hts0 w (List.mem_cons_of_mem _ hw), fun hi => (name_of_methodNamed B.named B.method).1.trans (of_decide_eq_true hi), fun q hq => Or.inr hq, hStr, fun h => Bool.noConfusion h, by show 1 ≤ d + 1; omega, by show 40 ≤ 40 * (d + 1); omega, Nat.le_refl _, Nat.le_refl _⟩
    have hS : va_S (va_A ws s.heap.size) s.heap s.heap [] := va_S.rf
    have hret : ∀ (pc : Nat) (L : XV) (cu su : Nat) (v : Option Value) (S' : XS) (I' : XI) (J' : XJ) (r' : XR), Q v S' I' J' r' → xretOk (xm k).2.2.2 v → decode (xm k).2.1 pc = .ok (xri v, 1) → XW p l e (xroom (d + 1) k) s m (as.map (xtr (xadr ws) sV)).toArray below meth c dC dI (va_A ws s.heap.size) (xadr ws) S.length sV (xm k).2.2.1 (mck k) (msk k) (MQ below (xQc (xm k).2.2.2 Q (xB1 dC dI (va_A ws s.heap.size) S.length (xadr ws)) (va_A ws s.heap.size)) (as.map (xtr (xadr ws) sV)).toArray s (mck k) (msk k) (va_A ws s.heap.size)) pc L v.toList S' I' J' r' cu su := by
      intro pc L cu su v S' I' J' r' hQ hro hdec ls H locs ws' tys' hXH
      obtain ⟨-, ⟨hK', hP', hD', hS', hX'⟩, -, -, hcu, hsu⟩ := hXH
      refine W.widen hcu hsu ?_
      have hr := B.returns
      have hB : ∀ t : State, t.heap = H → s.WarmedH t.vm → xB1 dC dI (va_A ws s.heap.size) S.length (xadr ws) (S', I', J', r', ws', tys') t := fun t ht hW => ⟨by rw [ht]; exact hP', va_K.moved hW.alike hK', hD', hX'⟩
      generalize hrt : (xm k).2.2.2 = rt at hro hr ⊢
      cases v with
      | none =>
        cases rt with
        | none => exact W.vret B.exec B.bytes hr (fun t ht hW => ⟨⟨(S', I', J', r', ws', tys'), rfl, hQ, hB t ht hW⟩, hS'.F ht⟩) hS'.2.2 hdec hlocks
        | some ty => cases ty <;> exact hro.elim
      | some v =>
        cases v with
        | long x =>
          cases rt with
          | none => exact hro.elim
          | some ty =>
            cases ty with
            | long => exact W.lret B.exec B.bytes hr (fun t ht hW => ⟨⟨x, (S', I', J', r', ws', tys'), rfl, hQ, hB t ht hW⟩, hS'.F ht⟩) hS'.2.2 hdec hlocks
            | _ => exact hro.elim
        | int x =>
          cases rt with
          | none => exact hro.elim
          | some ty =>
            by_cases hty : ty = .long
            · subst hty; exact hro.elim
            · have hn : narrow ty (.int x) = .int x := by
                unfold xretOk at hro
                cases ty <;> first | exact hro | exact absurd rfl hty
              have e9 : xQc (some ty) Q (xB1 dC dI (va_A ws s.heap.size) S.length (xadr ws)) (va_A ws s.heap.size) = va_Qi (fun v => xpo Q (some (.int v))) (xB1 dC dI (va_A ws s.heap.size) S.length (xadr ws)) (va_A ws s.heap.size) := by
                unfold xQc
                cases ty <;> first | rfl | exact absurd rfl hty
              rw [e9]
              exact W.zret B.exec B.bytes hr hn (fun t ht hW => ⟨⟨x, (S', I', J', r', ws', tys'), rfl, hQ, hB t ht hW⟩, hS'.F ht⟩) hS'.2.2 hdec hlocks
        | _ => cases rt with
          | none => exact hro.elim
          | some ty => cases ty <;> exact hro.elim
    have key := hrun (XW p l e (xroom (d + 1) k) s m (as.map (xtr (xadr ws) sV)).toArray below meth c dC dI (va_A ws s.heap.size) (xadr ws) S.length sV (xm k).2.2.1 (mck k) (msk k) (MQ below (xQc (xm k).2.2.2 Q (xB1 dC dI (va_A ws s.heap.size) S.length (xadr ws)) (va_A ws s.heap.size)) (as.map (xtr (xadr ws) sV)).toArray s (mck k) (msk k) (va_A ws s.heap.size))) (fun pc L st S I J r cu su hw => xs_blk F (rt := (xm k).2.2.2) (d0 := d) (Nat.le_refl _) (Nat.le_refl _) (fun k' as' S' I' J' r' Q' hc => xcall_ok hM hMb hno l dC dI sV d k' as' S' I' J' r' Q' hc) (fun _ _ _ _ _ _ _ _ _ q => q) hret _ pc L st S I J r cu su (xfind_ok (p := fun pc is => xblkOk (xm k).1.cls (xm k).2.1 (xm k).2.2.1 (xm k).2.2.2 (decide ((xm k).1.name = "<init>")) false pc is) rfl hmb) hw)
    have hs := F.cat
    have e1 : mlk k = (xm k).2.2.1 := hml0
    rw [e1] at key hsz
    have fin := key ((lg_sl (as.map (xtr (xadr ws) sV)) ++ List.replicate ((xm k).2.2.1 - (lg_sl (as.map (xtr (xadr ws) sV))).length) Slot.unset).toArray) s.heap [] ws tys ⟨xent_ls hs hsz, ⟨hK, hP, hD, hS, hX⟩, xent_ok has, fun v hv => (by cases hv), Nat.zero_le _, Nat.zero_le _⟩
    rw [lg_entry_eq]
    exact fin
end
section
theorem okM_c0 : ∀ k, k < 13 → (okMs (k + 0) = true → okM (k + 0) = true) := by decide +kernel
theorem okM_c1 : ∀ k, k < 13 → (okMs (k + 13) = true → okM (k + 13) = true) := by decide +kernel
theorem okM_c2 : ∀ k, k < 13 → (okMs (k + 26) = true → okM (k + 26) = true) := by decide +kernel
theorem okM_c3 : ∀ k, k < 13 → (okMs (k + 39) = true → okM (k + 39) = true) := by decide +kernel
theorem okM_c4 : ∀ k, k < 13 → (okMs (k + 52) = true → okM (k + 52) = true) := by decide +kernel
theorem okM_c5 : ∀ k, k < 13 → (okMs (k + 65) = true → okM (k + 65) = true) := by decide +kernel
theorem okM_c6 : ∀ k, k < 13 → (okMs (k + 78) = true → okM (k + 78) = true) := by decide +kernel
theorem okM_c7 : ∀ k, k < 13 → (okMs (k + 91) = true → okM (k + 91) = true) := by decide +kernel
theorem okM_c8 : ∀ k, k < 13 → (okMs (k + 104) = true → okM (k + 104) = true) := by decide +kernel
theorem okM_c9 : ∀ k, k < 13 → (okMs (k + 117) = true → okM (k + 117) = true) := by decide +kernel
theorem okM_c10 : ∀ k, k < 13 → (okMs (k + 130) = true → okM (k + 130) = true) := by decide +kernel
theorem okM_c11 : ∀ k, k < 13 → (okMs (k + 143) = true → okM (k + 143) = true) := by decide +kernel
theorem okM_c12 : ∀ k, k < 13 → (okMs (k + 156) = true → okM (k + 156) = true) := by decide +kernel
theorem okM_c13 : ∀ k, k < 13 → (okMs (k + 169) = true → okM (k + 169) = true) := by decide +kernel
theorem okM_c14 : ∀ k, k < 13 → (okMs (k + 182) = true → okM (k + 182) = true) := by decide +kernel
theorem okM_c15 : ∀ k, k < 13 → (okMs (k + 195) = true → okM (k + 195) = true) := by decide +kernel
theorem okM_c16 : ∀ k, k < 13 → (okMs (k + 208) = true → okM (k + 208) = true) := by decide +kernel
theorem okM_c17 : ∀ k, k < 13 → (okMs (k + 221) = true → okM (k + 221) = true) := by decide +kernel
theorem okM_c18 : ∀ k, k < 13 → (okMs (k + 234) = true → okM (k + 234) = true) := by decide +kernel
theorem okM_c19 : ∀ k, k < 13 → (okMs (k + 247) = true → okM (k + 247) = true) := by decide +kernel
theorem okM_c20 : ∀ k, k < 13 → (okMs (k + 260) = true → okM (k + 260) = true) := by decide +kernel
theorem okM_c21 : ∀ k, k < 13 → (okMs (k + 273) = true → okM (k + 273) = true) := by decide +kernel
theorem okM_c22 : ∀ k, k < 13 → (okMs (k + 286) = true → okM (k + 286) = true) := by decide +kernel
theorem okM_c23 : ∀ k, k < 13 → (okMs (k + 299) = true → okM (k + 299) = true) := by decide +kernel
theorem okM_c24 : ∀ k, k < 13 → (okMs (k + 312) = true → okM (k + 312) = true) := by decide +kernel
theorem okM_c25 : ∀ k, k < 13 → (okMs (k + 325) = true → okM (k + 325) = true) := by decide +kernel
theorem okM_c26 : ∀ k, k < 13 → (okMs (k + 338) = true → okM (k + 338) = true) := by decide +kernel
theorem okM_all : ∀ k, k < 351 → okMs k = true → okM k = true := by
  intro k hk
  by_cases h0 : k < 13
  · have h9 := okM_c0 (k - 0) (by omega)
    rwa [show k - 0 + 0 = k by omega] at h9
  by_cases h1 : k < 26
  · have h9 := okM_c1 (k - 13) (by omega)
    rwa [show k - 13 + 13 = k by omega] at h9
  by_cases h2 : k < 39
  · have h9 := okM_c2 (k - 26) (by omega)
    rwa [show k - 26 + 26 = k by omega] at h9
  by_cases h3 : k < 52
  · have h9 := okM_c3 (k - 39) (by omega)
    rwa [show k - 39 + 39 = k by omega] at h9
  by_cases h4 : k < 65
  · have h9 := okM_c4 (k - 52) (by omega)
    rwa [show k - 52 + 52 = k by omega] at h9
  by_cases h5 : k < 78
  · have h9 := okM_c5 (k - 65) (by omega)
    rwa [show k - 65 + 65 = k by omega] at h9
  by_cases h6 : k < 91
  · have h9 := okM_c6 (k - 78) (by omega)
    rwa [show k - 78 + 78 = k by omega] at h9
  by_cases h7 : k < 104
  · have h9 := okM_c7 (k - 91) (by omega)
    rwa [show k - 91 + 91 = k by omega] at h9
  by_cases h8 : k < 117
  · have h9 := okM_c8 (k - 104) (by omega)
    rwa [show k - 104 + 104 = k by omega] at h9
  by_cases h9 : k < 130
  · have h9 := okM_c9 (k - 117) (by omega)
    rwa [show k - 117 + 117 = k by omega] at h9
  by_cases h10 : k < 143
  · have h9 := okM_c10 (k - 130) (by omega)
    rwa [show k - 130 + 130 = k by omega] at h9
  by_cases h11 : k < 156
  · have h9 := okM_c11 (k - 143) (by omega)
    rwa [show k - 143 + 143 = k by omega] at h9
  by_cases h12 : k < 169
  · have h9 := okM_c12 (k - 156) (by omega)
    rwa [show k - 156 + 156 = k by omega] at h9
  by_cases h13 : k < 182
  · have h9 := okM_c13 (k - 169) (by omega)
    rwa [show k - 169 + 169 = k by omega] at h9
  by_cases h14 : k < 195
  · have h9 := okM_c14 (k - 182) (by omega)
    rwa [show k - 182 + 182 = k by omega] at h9
  by_cases h15 : k < 208
  · have h9 := okM_c15 (k - 195) (by omega)
    rwa [show k - 195 + 195 = k by omega] at h9
  by_cases h16 : k < 221
  · have h9 := okM_c16 (k - 208) (by omega)
    rwa [show k - 208 + 208 = k by omega] at h9
  by_cases h17 : k < 234
  · have h9 := okM_c17 (k - 221) (by omega)
    rwa [show k - 221 + 221 = k by omega] at h9
  by_cases h18 : k < 247
  · have h9 := okM_c18 (k - 234) (by omega)
    rwa [show k - 234 + 234 = k by omega] at h9
  by_cases h19 : k < 260
  · have h9 := okM_c19 (k - 247) (by omega)
    rwa [show k - 247 + 247 = k by omega] at h9
  by_cases h20 : k < 273
  · have h9 := okM_c20 (k - 260) (by omega)
    rwa [show k - 260 + 260 = k by omega] at h9
  by_cases h21 : k < 286
  · have h9 := okM_c21 (k - 273) (by omega)
    rwa [show k - 273 + 273 = k by omega] at h9
  by_cases h22 : k < 299
  · have h9 := okM_c22 (k - 286) (by omega)
    rwa [show k - 286 + 286 = k by omega] at h9
  by_cases h23 : k < 312
  · have h9 := okM_c23 (k - 299) (by omega)
    rwa [show k - 299 + 299 = k by omega] at h9
  by_cases h24 : k < 325
  · have h9 := okM_c24 (k - 312) (by omega)
    rwa [show k - 312 + 312 = k by omega] at h9
  by_cases h25 : k < 338
  · have h9 := okM_c25 (k - 325) (by omega)
    rwa [show k - 325 + 325 = k by omega] at h9
  by_cases h26 : k < 351
  · have h9 := okM_c26 (k - 338) (by omega)
    rwa [show k - 338 + 338 = k by omega] at h9
  omega
theorem okMb_c0 : ∀ k, k < 13 → (okMs (k + 0) = true → okMb (k + 0) = true) := by decide +kernel
theorem okMb_c1 : ∀ k, k < 13 → (okMs (k + 13) = true → okMb (k + 13) = true) := by decide +kernel
theorem okMb_c2 : ∀ k, k < 13 → (okMs (k + 26) = true → okMb (k + 26) = true) := by decide +kernel
theorem okMb_c3 : ∀ k, k < 13 → (okMs (k + 39) = true → okMb (k + 39) = true) := by decide +kernel
theorem okMb_c4 : ∀ k, k < 13 → (okMs (k + 52) = true → okMb (k + 52) = true) := by decide +kernel
theorem okMb_c5 : ∀ k, k < 13 → (okMs (k + 65) = true → okMb (k + 65) = true) := by decide +kernel
theorem okMb_c6 : ∀ k, k < 13 → (okMs (k + 78) = true → okMb (k + 78) = true) := by decide +kernel
theorem okMb_c7 : ∀ k, k < 13 → (okMs (k + 91) = true → okMb (k + 91) = true) := by decide +kernel
theorem okMb_c8 : ∀ k, k < 13 → (okMs (k + 104) = true → okMb (k + 104) = true) := by decide +kernel
theorem okMb_c9 : ∀ k, k < 13 → (okMs (k + 117) = true → okMb (k + 117) = true) := by decide +kernel
theorem okMb_c10 : ∀ k, k < 13 → (okMs (k + 130) = true → okMb (k + 130) = true) := by decide +kernel
theorem okMb_c11 : ∀ k, k < 13 → (okMs (k + 143) = true → okMb (k + 143) = true) := by decide +kernel
theorem okMb_c12 : ∀ k, k < 13 → (okMs (k + 156) = true → okMb (k + 156) = true) := by decide +kernel
theorem okMb_c13 : ∀ k, k < 13 → (okMs (k + 169) = true → okMb (k + 169) = true) := by decide +kernel
theorem okMb_c14 : ∀ k, k < 13 → (okMs (k + 182) = true → okMb (k + 182) = true) := by decide +kernel
theorem okMb_c15 : ∀ k, k < 13 → (okMs (k + 195) = true → okMb (k + 195) = true) := by decide +kernel
theorem okMb_c16 : ∀ k, k < 13 → (okMs (k + 208) = true → okMb (k + 208) = true) := by decide +kernel
theorem okMb_c17 : ∀ k, k < 13 → (okMs (k + 221) = true → okMb (k + 221) = true) := by decide +kernel
theorem okMb_c18 : ∀ k, k < 13 → (okMs (k + 234) = true → okMb (k + 234) = true) := by decide +kernel
theorem okMb_c19 : ∀ k, k < 13 → (okMs (k + 247) = true → okMb (k + 247) = true) := by decide +kernel
theorem okMb_c20 : ∀ k, k < 13 → (okMs (k + 260) = true → okMb (k + 260) = true) := by decide +kernel
theorem okMb_c21 : ∀ k, k < 13 → (okMs (k + 273) = true → okMb (k + 273) = true) := by decide +kernel
theorem okMb_c22 : ∀ k, k < 13 → (okMs (k + 286) = true → okMb (k + 286) = true) := by decide +kernel
theorem okMb_c23 : ∀ k, k < 13 → (okMs (k + 299) = true → okMb (k + 299) = true) := by decide +kernel
theorem okMb_c24 : ∀ k, k < 13 → (okMs (k + 312) = true → okMb (k + 312) = true) := by decide +kernel
theorem okMb_c25 : ∀ k, k < 13 → (okMs (k + 325) = true → okMb (k + 325) = true) := by decide +kernel
theorem okMb_c26 : ∀ k, k < 13 → (okMs (k + 338) = true → okMb (k + 338) = true) := by decide +kernel
theorem okMb_all : ∀ k, k < 351 → okMs k = true → okMb k = true := by
  intro k hk
  by_cases h0 : k < 13
  · have h9 := okMb_c0 (k - 0) (by omega)
    rwa [show k - 0 + 0 = k by omega] at h9
  by_cases h1 : k < 26
  · have h9 := okMb_c1 (k - 13) (by omega)
    rwa [show k - 13 + 13 = k by omega] at h9
  by_cases h2 : k < 39
  · have h9 := okMb_c2 (k - 26) (by omega)
    rwa [show k - 26 + 26 = k by omega] at h9
  by_cases h3 : k < 52
  · have h9 := okMb_c3 (k - 39) (by omega)
    rwa [show k - 39 + 39 = k by omega] at h9
  by_cases h4 : k < 65
  · have h9 := okMb_c4 (k - 52) (by omega)
    rwa [show k - 52 + 52 = k by omega] at h9
  by_cases h5 : k < 78
  · have h9 := okMb_c5 (k - 65) (by omega)
    rwa [show k - 65 + 65 = k by omega] at h9
  by_cases h6 : k < 91
  · have h9 := okMb_c6 (k - 78) (by omega)
    rwa [show k - 78 + 78 = k by omega] at h9
  by_cases h7 : k < 104
  · have h9 := okMb_c7 (k - 91) (by omega)
    rwa [show k - 91 + 91 = k by omega] at h9
  by_cases h8 : k < 117
  · have h9 := okMb_c8 (k - 104) (by omega)
    rwa [show k - 104 + 104 = k by omega] at h9
  by_cases h9 : k < 130
  · have h9 := okMb_c9 (k - 117) (by omega)
    rwa [show k - 117 + 117 = k by omega] at h9
  by_cases h10 : k < 143
  · have h9 := okMb_c10 (k - 130) (by omega)
    rwa [show k - 130 + 130 = k by omega] at h9
  by_cases h11 : k < 156
  · have h9 := okMb_c11 (k - 143) (by omega)
    rwa [show k - 143 + 143 = k by omega] at h9
  by_cases h12 : k < 169
  · have h9 := okMb_c12 (k - 156) (by omega)
    rwa [show k - 156 + 156 = k by omega] at h9
  by_cases h13 : k < 182
  · have h9 := okMb_c13 (k - 169) (by omega)
    rwa [show k - 169 + 169 = k by omega] at h9
  by_cases h14 : k < 195
  · have h9 := okMb_c14 (k - 182) (by omega)
    rwa [show k - 182 + 182 = k by omega] at h9
  by_cases h15 : k < 208
  · have h9 := okMb_c15 (k - 195) (by omega)
    rwa [show k - 195 + 195 = k by omega] at h9
  by_cases h16 : k < 221
  · have h9 := okMb_c16 (k - 208) (by omega)
    rwa [show k - 208 + 208 = k by omega] at h9
  by_cases h17 : k < 234
  · have h9 := okMb_c17 (k - 221) (by omega)
    rwa [show k - 221 + 221 = k by omega] at h9
  by_cases h18 : k < 247
  · have h9 := okMb_c18 (k - 234) (by omega)
    rwa [show k - 234 + 234 = k by omega] at h9
  by_cases h19 : k < 260
  · have h9 := okMb_c19 (k - 247) (by omega)
    rwa [show k - 247 + 247 = k by omega] at h9
  by_cases h20 : k < 273
  · have h9 := okMb_c20 (k - 260) (by omega)
    rwa [show k - 260 + 260 = k by omega] at h9
  by_cases h21 : k < 286
  · have h9 := okMb_c21 (k - 273) (by omega)
    rwa [show k - 273 + 273 = k by omega] at h9
  by_cases h22 : k < 299
  · have h9 := okMb_c22 (k - 286) (by omega)
    rwa [show k - 286 + 286 = k by omega] at h9
  by_cases h23 : k < 312
  · have h9 := okMb_c23 (k - 299) (by omega)
    rwa [show k - 299 + 299 = k by omega] at h9
  by_cases h24 : k < 325
  · have h9 := okMb_c24 (k - 312) (by omega)
    rwa [show k - 312 + 312 = k by omega] at h9
  by_cases h25 : k < 338
  · have h9 := okMb_c25 (k - 325) (by omega)
    rwa [show k - 325 + 325 = k by omega] at h9
  by_cases h26 : k < 351
  · have h9 := okMb_c26 (k - 338) (by omega)
    rwa [show k - 338 + 338 = k by omega] at h9
  omega
theorem okno_all : ∀ k, k < 351 → (okMs k = false → (xtl.getD k []).isEmpty = true) := by decide +kernel
theorem okno : ∀ k, k < 351 → okMs k = false → xtl.getD k [] = [] := fun k hk h => List.isEmpty_iff.mp (okno_all k hk h)
theorem xcall_met (l : Launch) (dC : Nat → ClassId) (dI : Nat → Nat → Nat) (sV : Nat → Value) (d k : Nat) (as : XV) (S : XS) (I : XI) (J : XJ) (r : XR) (Q : XQ) (h : xcall d k as S I J r Q) : XMt l d dC dI sV k as S I J r Q := xcall_ok okM_all okMb_all okno l dC dI sV d k as S I J r Q h
end
