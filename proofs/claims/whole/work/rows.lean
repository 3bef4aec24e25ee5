section
-- ===== PART A: goes FIRST, ahead of the names: the tables' words, and 'selects' of the private methods out of them =====
/-- a private method of a class that the tables say can be made, by its rows of tables_1 -/
def lw_okq (q : MethodName × Nat) : Prop := (q.1.cls ≠ "java/lang/invoke/MethodHandle" ∧ q.1.cls ≠ "java/lang/invoke/VarHandle") ∧ Cond.instantiable q.1.cls q.2 ∈ tables_1 ∧ Cond.privateMethod q.1 ∈ tables_1 ∧ Cond.instanceMethod q.1 ∈ tables_1
theorem lw_p0 : lw_okq (⟨"FreckleChart", "settle", "(I)Z"⟩, 17) := ⟨⟨by decide +kernel, by decide +kernel⟩, List.mem_of_getElem? (i := 20) (by decide +kernel), List.mem_of_getElem? (i := 452) (by decide +kernel), List.mem_of_getElem? (i := 453) (by decide +kernel)⟩
theorem lw_p1 : lw_okq (⟨"FreckleChart", "tapeInt", "(I)V"⟩, 17) := ⟨⟨by decide +kernel, by decide +kernel⟩, List.mem_of_getElem? (i := 20) (by decide +kernel), List.mem_of_getElem? (i := 496) (by decide +kernel), List.mem_of_getElem? (i := 497) (by decide +kernel)⟩
theorem lw_p2 : lw_okq (⟨"FreckleChart", "refuse", "(I)I"⟩, 17) := ⟨⟨by decide +kernel, by decide +kernel⟩, List.mem_of_getElem? (i := 20) (by decide +kernel), List.mem_of_getElem? (i := 504) (by decide +kernel), List.mem_of_getElem? (i := 505) (by decide +kernel)⟩
theorem lw_p3 : lw_okq (⟨"FreckleChart$Reader", "readWord", "()V"⟩, 10) := ⟨⟨by decide +kernel, by decide +kernel⟩, List.mem_of_getElem? (i := 73) (by decide +kernel), List.mem_of_getElem? (i := 527) (by decide +kernel), List.mem_of_getElem? (i := 528) (by decide +kernel)⟩
theorem lw_p4 : lw_okq (⟨"FreckleChart$Reader", "readNumber", "()V"⟩, 10) := ⟨⟨by decide +kernel, by decide +kernel⟩, List.mem_of_getElem? (i := 73) (by decide +kernel), List.mem_of_getElem? (i := 531) (by decide +kernel), List.mem_of_getElem? (i := 532) (by decide +kernel)⟩
theorem lw_p5 : lw_okq (⟨"FreckleChart$Reader", "readSign", "()V"⟩, 10) := ⟨⟨by decide +kernel, by decide +kernel⟩, List.mem_of_getElem? (i := 73) (by decide +kernel), List.mem_of_getElem? (i := 535) (by decide +kernel), List.mem_of_getElem? (i := 536) (by decide +kernel)⟩
theorem lw_p6 : lw_okq (⟨"FreckleChart$CoastText", "takeSize", "(LFreckleChart$Coast;)Z"⟩, 3) := ⟨⟨by decide +kernel, by decide +kernel⟩, List.mem_of_getElem? (i := 67) (by decide +kernel), List.mem_of_getElem? (i := 593) (by decide +kernel), List.mem_of_getElem? (i := 594) (by decide +kernel)⟩
theorem lw_p7 : lw_okq (⟨"FreckleChart$CoastText", "takeOdds", "(LFreckleChart$Coast;)Z"⟩, 3) := ⟨⟨by decide +kernel, by decide +kernel⟩, List.mem_of_getElem? (i := 67) (by decide +kernel), List.mem_of_getElem? (i := 622) (by decide +kernel), List.mem_of_getElem? (i := 623) (by decide +kernel)⟩
theorem lw_p8 : lw_okq (⟨"FreckleChart$CoastText", "takeRock", "(LFreckleChart$Coast;)Z"⟩, 3) := ⟨⟨by decide +kernel, by decide +kernel⟩, List.mem_of_getElem? (i := 67) (by decide +kernel), List.mem_of_getElem? (i := 627) (by decide +kernel), List.mem_of_getElem? (i := 628) (by decide +kernel)⟩
theorem lw_p9 : lw_okq (⟨"FreckleChart$CoastText", "takeCousin", "(LFreckleChart$Coast;)Z"⟩, 3) := ⟨⟨by decide +kernel, by decide +kernel⟩, List.mem_of_getElem? (i := 67) (by decide +kernel), List.mem_of_getElem? (i := 641) (by decide +kernel), List.mem_of_getElem? (i := 642) (by decide +kernel)⟩
theorem lw_p10 : lw_okq (⟨"FreckleChart$CoastText", "takePatch", "(LFreckleChart$Coast;J)Z"⟩, 3) := ⟨⟨by decide +kernel, by decide +kernel⟩, List.mem_of_getElem? (i := 67) (by decide +kernel), List.mem_of_getElem? (i := 658) (by decide +kernel), List.mem_of_getElem? (i := 659) (by decide +kernel)⟩
theorem lw_p11 : lw_okq (⟨"FreckleChart$Coast", "patchFrom", "(III)I"⟩, 19) := ⟨⟨by decide +kernel, by decide +kernel⟩, List.mem_of_getElem? (i := 219) (by decide +kernel), List.mem_of_getElem? (i := 677) (by decide +kernel), List.mem_of_getElem? (i := 678) (by decide +kernel)⟩
theorem lw_p12 : lw_okq (⟨"FreckleChart$CoastText", "takeLooks", "(LFreckleChart$Coast;I)Z"⟩, 3) := ⟨⟨by decide +kernel, by decide +kernel⟩, List.mem_of_getElem? (i := 67) (by decide +kernel), List.mem_of_getElem? (i := 681) (by decide +kernel), List.mem_of_getElem? (i := 682) (by decide +kernel)⟩
theorem lw_p13 : lw_okq (⟨"FreckleChart$CoastText", "takeInk", "(LFreckleChart$Coast;I)Z"⟩, 3) := ⟨⟨by decide +kernel, by decide +kernel⟩, List.mem_of_getElem? (i := 67) (by decide +kernel), List.mem_of_getElem? (i := 701) (by decide +kernel), List.mem_of_getElem? (i := 702) (by decide +kernel)⟩
theorem lw_p14 : lw_okq (⟨"FreckleChart", "endText", "(LFreckleChart$Reader;)V"⟩, 17) := ⟨⟨by decide +kernel, by decide +kernel⟩, List.mem_of_getElem? (i := 20) (by decide +kernel), List.mem_of_getElem? (i := 721) (by decide +kernel), List.mem_of_getElem? (i := 722) (by decide +kernel)⟩
theorem lw_p15 : lw_okq (⟨"FreckleChart", "tell", "(I)I"⟩, 17) := ⟨⟨by decide +kernel, by decide +kernel⟩, List.mem_of_getElem? (i := 20) (by decide +kernel), List.mem_of_getElem? (i := 739) (by decide +kernel), List.mem_of_getElem? (i := 740) (by decide +kernel)⟩
def lw_privs_1 : List (MethodName × Nat) := [(⟨"FreckleChart", "settle", "(I)Z"⟩, 17), (⟨"FreckleChart", "tapeInt", "(I)V"⟩, 17), (⟨"FreckleChart", "refuse", "(I)I"⟩, 17), (⟨"FreckleChart$Reader", "readWord", "()V"⟩, 10), (⟨"FreckleChart$Reader", "readNumber", "()V"⟩, 10), (⟨"FreckleChart$Reader", "readSign", "()V"⟩, 10), (⟨"FreckleChart$CoastText", "takeSize", "(LFreckleChart$Coast;)Z"⟩, 3), (⟨"FreckleChart$CoastText", "takeOdds", "(LFreckleChart$Coast;)Z"⟩, 3), (⟨"FreckleChart$CoastText", "takeRock", "(LFreckleChart$Coast;)Z"⟩, 3), (⟨"FreckleChart$CoastText", "takeCousin", "(LFreckleChart$Coast;)Z"⟩, 3), (⟨"FreckleChart$CoastText", "takePatch", "(LFreckleChart$Coast;J)Z"⟩, 3), (⟨"FreckleChart$Coast", "patchFrom", "(III)I"⟩, 19), (⟨"FreckleChart$CoastText", "takeLooks", "(LFreckleChart$Coast;I)Z"⟩, 3), (⟨"FreckleChart$CoastText", "takeInk", "(LFreckleChart$Coast;I)Z"⟩, 3), (⟨"FreckleChart", "endText", "(LFreckleChart$Reader;)V"⟩, 17), (⟨"FreckleChart", "tell", "(I)I"⟩, 17)]
theorem lw_r1 : ∀ q ∈ lw_privs_1, lw_okq q := List.forall_mem_cons.mpr ⟨lw_p0, List.forall_mem_cons.mpr ⟨lw_p1, List.forall_mem_cons.mpr ⟨lw_p2, List.forall_mem_cons.mpr ⟨lw_p3, List.forall_mem_cons.mpr ⟨lw_p4, List.forall_mem_cons.mpr ⟨lw_p5, List.forall_mem_cons.mpr ⟨lw_p6, List.forall_mem_cons.mpr ⟨lw_p7, List.forall_mem_cons.mpr ⟨lw_p8, List.forall_mem_cons.mpr ⟨lw_p9, List.forall_mem_cons.mpr ⟨lw_p10, List.forall_mem_cons.mpr ⟨lw_p11, List.forall_mem_cons.mpr ⟨lw_p12, List.forall_mem_cons.mpr ⟨lw_p13, List.forall_mem_cons.mpr ⟨lw_p14, List.forall_mem_cons.mpr ⟨lw_p15, fun _ h => absurd h List.not_mem_nil⟩⟩⟩⟩⟩⟩⟩⟩⟩⟩⟩⟩⟩⟩⟩⟩
theorem lw_p16 : lw_okq (⟨"FreckleChart$YearsText", "takeEnd", "(LFreckleChart$Years;)Z"⟩, 3) := ⟨⟨by decide +kernel, by decide +kernel⟩, List.mem_of_getElem? (i := 131) (by decide +kernel), List.mem_of_getElem? (i := 755) (by decide +kernel), List.mem_of_getElem? (i := 756) (by decide +kernel)⟩
theorem lw_p17 : lw_okq (⟨"FreckleChart$YearsText", "kindOfStep", "()I"⟩, 3) := ⟨⟨by decide +kernel, by decide +kernel⟩, List.mem_of_getElem? (i := 131) (by decide +kernel), List.mem_of_getElem? (i := 773) (by decide +kernel), List.mem_of_getElem? (i := 774) (by decide +kernel)⟩
theorem lw_p18 : lw_okq (⟨"FreckleChart$YearsText", "lineForStep", "(LFreckleChart$Years;I)I"⟩, 3) := ⟨⟨by decide +kernel, by decide +kernel⟩, List.mem_of_getElem? (i := 131) (by decide +kernel), List.mem_of_getElem? (i := 788) (by decide +kernel), List.mem_of_getElem? (i := 789) (by decide +kernel)⟩
theorem lw_p19 : lw_okq (⟨"FreckleChart$YearsText", "takeTest", "(LFreckleChart$Coast;LFreckleChart$Years;I)Z"⟩, 3) := ⟨⟨by decide +kernel, by decide +kernel⟩, List.mem_of_getElem? (i := 131) (by decide +kernel), List.mem_of_getElem? (i := 793) (by decide +kernel), List.mem_of_getElem? (i := 794) (by decide +kernel)⟩
theorem lw_p20 : lw_okq (⟨"FreckleChart$YearsText", "takeCousin", "(LFreckleChart$Coast;LFreckleChart$Years;I)Z"⟩, 3) := ⟨⟨by decide +kernel, by decide +kernel⟩, List.mem_of_getElem? (i := 131) (by decide +kernel), List.mem_of_getElem? (i := 799) (by decide +kernel), List.mem_of_getElem? (i := 800) (by decide +kernel)⟩
theorem lw_p21 : lw_okq (⟨"FreckleChart$YearsText", "takeNumber", "([IIII)Z"⟩, 3) := ⟨⟨by decide +kernel, by decide +kernel⟩, List.mem_of_getElem? (i := 131) (by decide +kernel), List.mem_of_getElem? (i := 805) (by decide +kernel), List.mem_of_getElem? (i := 806) (by decide +kernel)⟩
theorem lw_p22 : lw_okq (⟨"FreckleChart$YearsText", "takeCompares", "(LFreckleChart$Years;I)Z"⟩, 3) := ⟨⟨by decide +kernel, by decide +kernel⟩, List.mem_of_getElem? (i := 131) (by decide +kernel), List.mem_of_getElem? (i := 811) (by decide +kernel), List.mem_of_getElem? (i := 812) (by decide +kernel)⟩
theorem lw_p23 : lw_okq (⟨"FreckleChart$YearsText", "takeNumbers", "(LFreckleChart$Coast;LFreckleChart$Years;I)Z"⟩, 3) := ⟨⟨by decide +kernel, by decide +kernel⟩, List.mem_of_getElem? (i := 131) (by decide +kernel), List.mem_of_getElem? (i := 816) (by decide +kernel), List.mem_of_getElem? (i := 817) (by decide +kernel)⟩
theorem lw_p24 : lw_okq (⟨"FreckleChart", "lookForWay", "(IIII)I"⟩, 17) := ⟨⟨by decide +kernel, by decide +kernel⟩, List.mem_of_getElem? (i := 20) (by decide +kernel), List.mem_of_getElem? (i := 915) (by decide +kernel), List.mem_of_getElem? (i := 916) (by decide +kernel)⟩
theorem lw_p25 : lw_okq (⟨"FreckleChart", "lookAtVoyage", "(IIII)I"⟩, 17) := ⟨⟨by decide +kernel, by decide +kernel⟩, List.mem_of_getElem? (i := 20) (by decide +kernel), List.mem_of_getElem? (i := 919) (by decide +kernel), List.mem_of_getElem? (i := 920) (by decide +kernel)⟩
theorem lw_p26 : lw_okq (⟨"FreckleChart$Pilot", "lookAtEdges", "(LFreckleChart$Coast;)V"⟩, 6) := ⟨⟨by decide +kernel, by decide +kernel⟩, List.mem_of_getElem? (i := 150) (by decide +kernel), List.mem_of_getElem? (i := 949) (by decide +kernel), List.mem_of_getElem? (i := 950) (by decide +kernel)⟩
theorem lw_p27 : lw_okq (⟨"FreckleChart$Pilot", "spreadRings", "(III)I"⟩, 6) := ⟨⟨by decide +kernel, by decide +kernel⟩, List.mem_of_getElem? (i := 150) (by decide +kernel), List.mem_of_getElem? (i := 953) (by decide +kernel), List.mem_of_getElem? (i := 954) (by decide +kernel)⟩
theorem lw_p28 : lw_okq (⟨"FreckleChart$Pilot", "beside", "(I)I"⟩, 6) := ⟨⟨by decide +kernel, by decide +kernel⟩, List.mem_of_getElem? (i := 150) (by decide +kernel), List.mem_of_getElem? (i := 957) (by decide +kernel), List.mem_of_getElem? (i := 958) (by decide +kernel)⟩
theorem lw_p29 : lw_okq (⟨"FreckleChart$Pilot", "goAlong", "(II)V"⟩, 6) := ⟨⟨by decide +kernel, by decide +kernel⟩, List.mem_of_getElem? (i := 150) (by decide +kernel), List.mem_of_getElem? (i := 961) (by decide +kernel), List.mem_of_getElem? (i := 962) (by decide +kernel)⟩
theorem lw_p30 : lw_okq (⟨"FreckleChart", "findFewest", "(III)I"⟩, 17) := ⟨⟨by decide +kernel, by decide +kernel⟩, List.mem_of_getElem? (i := 20) (by decide +kernel), List.mem_of_getElem? (i := 1019) (by decide +kernel), List.mem_of_getElem? (i := 1020) (by decide +kernel)⟩
theorem lw_p31 : lw_okq (⟨"FreckleChart", "findCover", "()I"⟩, 17) := ⟨⟨by decide +kernel, by decide +kernel⟩, List.mem_of_getElem? (i := 20) (by decide +kernel), List.mem_of_getElem? (i := 1055) (by decide +kernel), List.mem_of_getElem? (i := 1056) (by decide +kernel)⟩
def lw_privs_2 : List (MethodName × Nat) := [(⟨"FreckleChart$YearsText", "takeEnd", "(LFreckleChart$Years;)Z"⟩, 3), (⟨"FreckleChart$YearsText", "kindOfStep", "()I"⟩, 3), (⟨"FreckleChart$YearsText", "lineForStep", "(LFreckleChart$Years;I)I"⟩, 3), (⟨"FreckleChart$YearsText", "takeTest", "(LFreckleChart$Coast;LFreckleChart$Years;I)Z"⟩, 3), (⟨"FreckleChart$YearsText", "takeCousin", "(LFreckleChart$Coast;LFreckleChart$Years;I)Z"⟩, 3), (⟨"FreckleChart$YearsText", "takeNumber", "([IIII)Z"⟩, 3), (⟨"FreckleChart$YearsText", "takeCompares", "(LFreckleChart$Years;I)Z"⟩, 3), (⟨"FreckleChart$YearsText", "takeNumbers", "(LFreckleChart$Coast;LFreckleChart$Years;I)Z"⟩, 3), (⟨"FreckleChart", "lookForWay", "(IIII)I"⟩, 17), (⟨"FreckleChart", "lookAtVoyage", "(IIII)I"⟩, 17), (⟨"FreckleChart$Pilot", "lookAtEdges", "(LFreckleChart$Coast;)V"⟩, 6), (⟨"FreckleChart$Pilot", "spreadRings", "(III)I"⟩, 6), (⟨"FreckleChart$Pilot", "beside", "(I)I"⟩, 6), (⟨"FreckleChart$Pilot", "goAlong", "(II)V"⟩, 6), (⟨"FreckleChart", "findFewest", "(III)I"⟩, 17), (⟨"FreckleChart", "findCover", "()I"⟩, 17)]
theorem lw_r2 : ∀ q ∈ lw_privs_2, lw_okq q := List.forall_mem_cons.mpr ⟨lw_p16, List.forall_mem_cons.mpr ⟨lw_p17, List.forall_mem_cons.mpr ⟨lw_p18, List.forall_mem_cons.mpr ⟨lw_p19, List.forall_mem_cons.mpr ⟨lw_p20, List.forall_mem_cons.mpr ⟨lw_p21, List.forall_mem_cons.mpr ⟨lw_p22, List.forall_mem_cons.mpr ⟨lw_p23, List.forall_mem_cons.mpr ⟨lw_p24, List.forall_mem_cons.mpr ⟨lw_p25, List.forall_mem_cons.mpr ⟨lw_p26, List.forall_mem_cons.mpr ⟨lw_p27, List.forall_mem_cons.mpr ⟨lw_p28, List.forall_mem_cons.mpr ⟨lw_p29, List.forall_mem_cons.mpr ⟨lw_p30, List.forall_mem_cons.mpr ⟨lw_p31, fun _ h => absurd h List.not_mem_nil⟩⟩⟩⟩⟩⟩⟩⟩⟩⟩⟩⟩⟩⟩⟩⟩
theorem lw_p32 : lw_okq (⟨"FreckleChart", "lookAtSeen", "(IIII)I"⟩, 17) := ⟨⟨by decide +kernel, by decide +kernel⟩, List.mem_of_getElem? (i := 20) (by decide +kernel), List.mem_of_getElem? (i := 1068) (by decide +kernel), List.mem_of_getElem? (i := 1069) (by decide +kernel)⟩
theorem lw_p33 : lw_okq (⟨"FreckleChart$Fraction", "countWays", "(II)V"⟩, 3) := ⟨⟨by decide +kernel, by decide +kernel⟩, List.mem_of_getElem? (i := 28) (by decide +kernel), List.mem_of_getElem? (i := 1131) (by decide +kernel), List.mem_of_getElem? (i := 1132) (by decide +kernel)⟩
theorem lw_p34 : lw_okq (⟨"FreckleChart$Living", "lineBehindEnd", "(LFreckleChart$Years;I)I"⟩, 9) := ⟨⟨by decide +kernel, by decide +kernel⟩, List.mem_of_getElem? (i := 177) (by decide +kernel), List.mem_of_getElem? (i := 1162) (by decide +kernel), List.mem_of_getElem? (i := 1163) (by decide +kernel)⟩
theorem lw_p35 : lw_okq (⟨"FreckleChart$Living", "isDone", "(LFreckleChart$Coast;I)Z"⟩, 9) := ⟨⟨by decide +kernel, by decide +kernel⟩, List.mem_of_getElem? (i := 177) (by decide +kernel), List.mem_of_getElem? (i := 1166) (by decide +kernel), List.mem_of_getElem? (i := 1167) (by decide +kernel)⟩
theorem lw_p36 : lw_okq (⟨"FreckleChart$Living", "isDarkened", "(LFreckleChart$Coast;II)Z"⟩, 9) := ⟨⟨by decide +kernel, by decide +kernel⟩, List.mem_of_getElem? (i := 177) (by decide +kernel), List.mem_of_getElem? (i := 1170) (by decide +kernel), List.mem_of_getElem? (i := 1171) (by decide +kernel)⟩
theorem lw_p37 : lw_okq (⟨"FreckleChart$Living", "isSailed", "(LFreckleChart$Coast;I)Z"⟩, 9) := ⟨⟨by decide +kernel, by decide +kernel⟩, List.mem_of_getElem? (i := 177) (by decide +kernel), List.mem_of_getElem? (i := 1179) (by decide +kernel), List.mem_of_getElem? (i := 1180) (by decide +kernel)⟩
theorem lw_p38 : lw_okq (⟨"FreckleChart$Living", "isDrawnAndDone", "(LFreckleChart$Coast;)Z"⟩, 9) := ⟨⟨by decide +kernel, by decide +kernel⟩, List.mem_of_getElem? (i := 177) (by decide +kernel), List.mem_of_getElem? (i := 1187) (by decide +kernel), List.mem_of_getElem? (i := 1188) (by decide +kernel)⟩
theorem lw_p39 : lw_okq (⟨"FreckleChart$Living", "draw", "(I)I"⟩, 9) := ⟨⟨by decide +kernel, by decide +kernel⟩, List.mem_of_getElem? (i := 177) (by decide +kernel), List.mem_of_getElem? (i := 1191) (by decide +kernel), List.mem_of_getElem? (i := 1192) (by decide +kernel)⟩
theorem lw_p40 : lw_okq (⟨"FreckleChart$Living", "lineBehindStep", "(LFreckleChart$Coast;I)I"⟩, 9) := ⟨⟨by decide +kernel, by decide +kernel⟩, List.mem_of_getElem? (i := 177) (by decide +kernel), List.mem_of_getElem? (i := 1197) (by decide +kernel), List.mem_of_getElem? (i := 1198) (by decide +kernel)⟩
theorem lw_p41 : lw_okq (⟨"FreckleChartModel", "empties", "(I)V"⟩, 41) := ⟨⟨by decide +kernel, by decide +kernel⟩, List.mem_of_getElem? (i := 1228) (by decide +kernel), List.mem_of_getElem? (i := 1234) (by decide +kernel), List.mem_of_getElem? (i := 1235) (by decide +kernel)⟩
theorem lw_p42 : lw_okq (⟨"FreckleChartModel", "no", "(I)Z"⟩, 41) := ⟨⟨by decide +kernel, by decide +kernel⟩, List.mem_of_getElem? (i := 1228) (by decide +kernel), List.mem_of_getElem? (i := 1378) (by decide +kernel), List.mem_of_getElem? (i := 1379) (by decide +kernel)⟩
theorem lw_p43 : lw_okq (⟨"FreckleChartModel", "placed", "(II)I"⟩, 41) := ⟨⟨by decide +kernel, by decide +kernel⟩, List.mem_of_getElem? (i := 1228) (by decide +kernel), List.mem_of_getElem? (i := 1386) (by decide +kernel), List.mem_of_getElem? (i := 1387) (by decide +kernel)⟩
theorem lw_p44 : lw_okq (⟨"FreckleChartModel", "trayed", "(I)I"⟩, 41) := ⟨⟨by decide +kernel, by decide +kernel⟩, List.mem_of_getElem? (i := 1228) (by decide +kernel), List.mem_of_getElem? (i := 1390) (by decide +kernel), List.mem_of_getElem? (i := 1391) (by decide +kernel)⟩
theorem lw_p45 : lw_okq (⟨"FreckleChartModel", "lay", "(I)V"⟩, 41) := ⟨⟨by decide +kernel, by decide +kernel⟩, List.mem_of_getElem? (i := 1228) (by decide +kernel), List.mem_of_getElem? (i := 1410) (by decide +kernel), List.mem_of_getElem? (i := 1411) (by decide +kernel)⟩
theorem lw_p46 : lw_okq (⟨"FreckleChartModel", "starts", "(II)Z"⟩, 41) := ⟨⟨by decide +kernel, by decide +kernel⟩, List.mem_of_getElem? (i := 1228) (by decide +kernel), List.mem_of_getElem? (i := 1422) (by decide +kernel), List.mem_of_getElem? (i := 1423) (by decide +kernel)⟩
theorem lw_p47 : lw_okq (⟨"FreckleChartModel", "advance", "()V"⟩, 41) := ⟨⟨by decide +kernel, by decide +kernel⟩, List.mem_of_getElem? (i := 1228) (by decide +kernel), List.mem_of_getElem? (i := 1426) (by decide +kernel), List.mem_of_getElem? (i := 1427) (by decide +kernel)⟩
def lw_privs_3 : List (MethodName × Nat) := [(⟨"FreckleChart", "lookAtSeen", "(IIII)I"⟩, 17), (⟨"FreckleChart$Fraction", "countWays", "(II)V"⟩, 3), (⟨"FreckleChart$Living", "lineBehindEnd", "(LFreckleChart$Years;I)I"⟩, 9), (⟨"FreckleChart$Living", "isDone", "(LFreckleChart$Coast;I)Z"⟩, 9), (⟨"FreckleChart$Living", "isDarkened", "(LFreckleChart$Coast;II)Z"⟩, 9), (⟨"FreckleChart$Living", "isSailed", "(LFreckleChart$Coast;I)Z"⟩, 9), (⟨"FreckleChart$Living", "isDrawnAndDone", "(LFreckleChart$Coast;)Z"⟩, 9), (⟨"FreckleChart$Living", "draw", "(I)I"⟩, 9), (⟨"FreckleChart$Living", "lineBehindStep", "(LFreckleChart$Coast;I)I"⟩, 9), (⟨"FreckleChartModel", "empties", "(I)V"⟩, 41), (⟨"FreckleChartModel", "no", "(I)Z"⟩, 41), (⟨"FreckleChartModel", "placed", "(II)I"⟩, 41), (⟨"FreckleChartModel", "trayed", "(I)I"⟩, 41), (⟨"FreckleChartModel", "lay", "(I)V"⟩, 41), (⟨"FreckleChartModel", "starts", "(II)Z"⟩, 41), (⟨"FreckleChartModel", "advance", "()V"⟩, 41)]
theorem lw_r3 : ∀ q ∈ lw_privs_3, lw_okq q := List.forall_mem_cons.mpr ⟨lw_p32, List.forall_mem_cons.mpr ⟨lw_p33, List.forall_mem_cons.mpr ⟨lw_p34, List.forall_mem_cons.mpr ⟨lw_p35, List.forall_mem_cons.mpr ⟨lw_p36, List.forall_mem_cons.mpr ⟨lw_p37, List.forall_mem_cons.mpr ⟨lw_p38, List.forall_mem_cons.mpr ⟨lw_p39, List.forall_mem_cons.mpr ⟨lw_p40, List.forall_mem_cons.mpr ⟨lw_p41, List.forall_mem_cons.mpr ⟨lw_p42, List.forall_mem_cons.mpr ⟨lw_p43, List.forall_mem_cons.mpr ⟨lw_p44, List.forall_mem_cons.mpr ⟨lw_p45, List.forall_mem_cons.mpr ⟨lw_p46, List.forall_mem_cons.mpr ⟨lw_p47, fun _ h => absurd h List.not_mem_nil⟩⟩⟩⟩⟩⟩⟩⟩⟩⟩⟩⟩⟩⟩⟩⟩
theorem lw_p48 : lw_okq (⟨"FreckleChartModel", "look2", "(I)I"⟩, 41) := ⟨⟨by decide +kernel, by decide +kernel⟩, List.mem_of_getElem? (i := 1228) (by decide +kernel), List.mem_of_getElem? (i := 1430) (by decide +kernel), List.mem_of_getElem? (i := 1431) (by decide +kernel)⟩
theorem lw_p49 : lw_okq (⟨"FreckleChartModel", "isSignByte", "(I)Z"⟩, 41) := ⟨⟨by decide +kernel, by decide +kernel⟩, List.mem_of_getElem? (i := 1228) (by decide +kernel), List.mem_of_getElem? (i := 1442) (by decide +kernel), List.mem_of_getElem? (i := 1443) (by decide +kernel)⟩
theorem lw_p50 : lw_okq (⟨"FreckleChartModel", "readPart", "()V"⟩, 41) := ⟨⟨by decide +kernel, by decide +kernel⟩, List.mem_of_getElem? (i := 1228) (by decide +kernel), List.mem_of_getElem? (i := 1446) (by decide +kernel), List.mem_of_getElem? (i := 1447) (by decide +kernel)⟩
theorem lw_p51 : lw_okq (⟨"FreckleChartModel", "isCoast", "()Z"⟩, 41) := ⟨⟨by decide +kernel, by decide +kernel⟩, List.mem_of_getElem? (i := 1228) (by decide +kernel), List.mem_of_getElem? (i := 1450) (by decide +kernel), List.mem_of_getElem? (i := 1451) (by decide +kernel)⟩
theorem lw_p52 : lw_okq (⟨"FreckleChartModel", "isWord", "(J)Z"⟩, 41) := ⟨⟨by decide +kernel, by decide +kernel⟩, List.mem_of_getElem? (i := 1228) (by decide +kernel), List.mem_of_getElem? (i := 1457) (by decide +kernel), List.mem_of_getElem? (i := 1458) (by decide +kernel)⟩
theorem lw_p53 : lw_okq (⟨"FreckleChartModel", "readCoast", "()V"⟩, 41) := ⟨⟨by decide +kernel, by decide +kernel⟩, List.mem_of_getElem? (i := 1228) (by decide +kernel), List.mem_of_getElem? (i := 1461) (by decide +kernel), List.mem_of_getElem? (i := 1462) (by decide +kernel)⟩
theorem lw_p54 : lw_okq (⟨"FreckleChartModel", "fail", "(II)V"⟩, 41) := ⟨⟨by decide +kernel, by decide +kernel⟩, List.mem_of_getElem? (i := 1228) (by decide +kernel), List.mem_of_getElem? (i := 1465) (by decide +kernel), List.mem_of_getElem? (i := 1466) (by decide +kernel)⟩
theorem lw_p55 : lw_okq (⟨"FreckleChartModel", "count", "(II)I"⟩, 41) := ⟨⟨by decide +kernel, by decide +kernel⟩, List.mem_of_getElem? (i := 1228) (by decide +kernel), List.mem_of_getElem? (i := 1469) (by decide +kernel), List.mem_of_getElem? (i := 1470) (by decide +kernel)⟩
theorem lw_p56 : lw_okq (⟨"FreckleChartModel", "stands", "(II)I"⟩, 41) := ⟨⟨by decide +kernel, by decide +kernel⟩, List.mem_of_getElem? (i := 1228) (by decide +kernel), List.mem_of_getElem? (i := 1473) (by decide +kernel), List.mem_of_getElem? (i := 1474) (by decide +kernel)⟩
theorem lw_p57 : lw_okq (⟨"FreckleChartModel", "amiss", "()V"⟩, 41) := ⟨⟨by decide +kernel, by decide +kernel⟩, List.mem_of_getElem? (i := 1228) (by decide +kernel), List.mem_of_getElem? (i := 1477) (by decide +kernel), List.mem_of_getElem? (i := 1478) (by decide +kernel)⟩
theorem lw_p58 : lw_okq (⟨"FreckleChartModel", "must", "(Z)V"⟩, 41) := ⟨⟨by decide +kernel, by decide +kernel⟩, List.mem_of_getElem? (i := 1228) (by decide +kernel), List.mem_of_getElem? (i := 1484) (by decide +kernel), List.mem_of_getElem? (i := 1485) (by decide +kernel)⟩
theorem lw_p59 : lw_okq (⟨"FreckleChartModel", "isBy", "()Z"⟩, 41) := ⟨⟨by decide +kernel, by decide +kernel⟩, List.mem_of_getElem? (i := 1228) (by decide +kernel), List.mem_of_getElem? (i := 1488) (by decide +kernel), List.mem_of_getElem? (i := 1489) (by decide +kernel)⟩
theorem lw_p60 : lw_okq (⟨"FreckleChartModel", "behindWord", "(ZII)I"⟩, 41) := ⟨⟨by decide +kernel, by decide +kernel⟩, List.mem_of_getElem? (i := 1228) (by decide +kernel), List.mem_of_getElem? (i := 1492) (by decide +kernel), List.mem_of_getElem? (i := 1493) (by decide +kernel)⟩
theorem lw_p61 : lw_okq (⟨"FreckleChartModel", "isOdds", "()Z"⟩, 41) := ⟨⟨by decide +kernel, by decide +kernel⟩, List.mem_of_getElem? (i := 1228) (by decide +kernel), List.mem_of_getElem? (i := 1496) (by decide +kernel), List.mem_of_getElem? (i := 1497) (by decide +kernel)⟩
theorem lw_p62 : lw_okq (⟨"FreckleChartModel", "readOdds", "()V"⟩, 41) := ⟨⟨by decide +kernel, by decide +kernel⟩, List.mem_of_getElem? (i := 1228) (by decide +kernel), List.mem_of_getElem? (i := 1500) (by decide +kernel), List.mem_of_getElem? (i := 1501) (by decide +kernel)⟩
theorem lw_p63 : lw_okq (⟨"FreckleChartModel", "isRock", "()Z"⟩, 41) := ⟨⟨by decide +kernel, by decide +kernel⟩, List.mem_of_getElem? (i := 1228) (by decide +kernel), List.mem_of_getElem? (i := 1504) (by decide +kernel), List.mem_of_getElem? (i := 1505) (by decide +kernel)⟩
def lw_privs_4 : List (MethodName × Nat) := [(⟨"FreckleChartModel", "look2", "(I)I"⟩, 41), (⟨"FreckleChartModel", "isSignByte", "(I)Z"⟩, 41), (⟨"FreckleChartModel", "readPart", "()V"⟩, 41), (⟨"FreckleChartModel", "isCoast", "()Z"⟩, 41), (⟨"FreckleChartModel", "isWord", "(J)Z"⟩, 41), (⟨"FreckleChartModel", "readCoast", "()V"⟩, 41), (⟨"FreckleChartModel", "fail", "(II)V"⟩, 41), (⟨"FreckleChartModel", "count", "(II)I"⟩, 41), (⟨"FreckleChartModel", "stands", "(II)I"⟩, 41), (⟨"FreckleChartModel", "amiss", "()V"⟩, 41), (⟨"FreckleChartModel", "must", "(Z)V"⟩, 41), (⟨"FreckleChartModel", "isBy", "()Z"⟩, 41), (⟨"FreckleChartModel", "behindWord", "(ZII)I"⟩, 41), (⟨"FreckleChartModel", "isOdds", "()Z"⟩, 41), (⟨"FreckleChartModel", "readOdds", "()V"⟩, 41), (⟨"FreckleChartModel", "isRock", "()Z"⟩, 41)]
theorem lw_r4 : ∀ q ∈ lw_privs_4, lw_okq q := List.forall_mem_cons.mpr ⟨lw_p48, List.forall_mem_cons.mpr ⟨lw_p49, List.forall_mem_cons.mpr ⟨lw_p50, List.forall_mem_cons.mpr ⟨lw_p51, List.forall_mem_cons.mpr ⟨lw_p52, List.forall_mem_cons.mpr ⟨lw_p53, List.forall_mem_cons.mpr ⟨lw_p54, List.forall_mem_cons.mpr ⟨lw_p55, List.forall_mem_cons.mpr ⟨lw_p56, List.forall_mem_cons.mpr ⟨lw_p57, List.forall_mem_cons.mpr ⟨lw_p58, List.forall_mem_cons.mpr ⟨lw_p59, List.forall_mem_cons.mpr ⟨lw_p60, List.forall_mem_cons.mpr ⟨lw_p61, List.forall_mem_cons.mpr ⟨lw_p62, List.forall_mem_cons.mpr ⟨lw_p63, fun _ h => absurd h List.not_mem_nil⟩⟩⟩⟩⟩⟩⟩⟩⟩⟩⟩⟩⟩⟩⟩⟩
theorem lw_p64 : lw_okq (⟨"FreckleChartModel", "readRock", "()V"⟩, 41) := ⟨⟨by decide +kernel, by decide +kernel⟩, List.mem_of_getElem? (i := 1228) (by decide +kernel), List.mem_of_getElem? (i := 1508) (by decide +kernel), List.mem_of_getElem? (i := 1509) (by decide +kernel)⟩
theorem lw_p65 : lw_okq (⟨"FreckleChartModel", "rockIn", "(II)I"⟩, 41) := ⟨⟨by decide +kernel, by decide +kernel⟩, List.mem_of_getElem? (i := 1228) (by decide +kernel), List.mem_of_getElem? (i := 1512) (by decide +kernel), List.mem_of_getElem? (i := 1513) (by decide +kernel)⟩
theorem lw_p66 : lw_okq (⟨"FreckleChartModel", "isDeep", "()Z"⟩, 41) := ⟨⟨by decide +kernel, by decide +kernel⟩, List.mem_of_getElem? (i := 1228) (by decide +kernel), List.mem_of_getElem? (i := 1516) (by decide +kernel), List.mem_of_getElem? (i := 1517) (by decide +kernel)⟩
theorem lw_p67 : lw_okq (⟨"FreckleChartModel", "wrecks", "(III)V"⟩, 41) := ⟨⟨by decide +kernel, by decide +kernel⟩, List.mem_of_getElem? (i := 1228) (by decide +kernel), List.mem_of_getElem? (i := 1520) (by decide +kernel), List.mem_of_getElem? (i := 1521) (by decide +kernel)⟩
theorem lw_p68 : lw_okq (⟨"FreckleChartModel", "isCousin", "()Z"⟩, 41) := ⟨⟨by decide +kernel, by decide +kernel⟩, List.mem_of_getElem? (i := 1228) (by decide +kernel), List.mem_of_getElem? (i := 1524) (by decide +kernel), List.mem_of_getElem? (i := 1525) (by decide +kernel)⟩
theorem lw_p69 : lw_okq (⟨"FreckleChartModel", "readCousin", "()V"⟩, 41) := ⟨⟨by decide +kernel, by decide +kernel⟩, List.mem_of_getElem? (i := 1228) (by decide +kernel), List.mem_of_getElem? (i := 1528) (by decide +kernel), List.mem_of_getElem? (i := 1529) (by decide +kernel)⟩
theorem lw_p70 : lw_okq (⟨"FreckleChartModel", "isName", "()Z"⟩, 41) := ⟨⟨by decide +kernel, by decide +kernel⟩, List.mem_of_getElem? (i := 1228) (by decide +kernel), List.mem_of_getElem? (i := 1532) (by decide +kernel), List.mem_of_getElem? (i := 1533) (by decide +kernel)⟩
theorem lw_p71 : lw_okq (⟨"FreckleChartModel", "isKept", "()Z"⟩, 41) := ⟨⟨by decide +kernel, by decide +kernel⟩, List.mem_of_getElem? (i := 1228) (by decide +kernel), List.mem_of_getElem? (i := 1536) (by decide +kernel), List.mem_of_getElem? (i := 1537) (by decide +kernel)⟩
theorem lw_p72 : lw_okq (⟨"FreckleChartModel", "isAt", "()Z"⟩, 41) := ⟨⟨by decide +kernel, by decide +kernel⟩, List.mem_of_getElem? (i := 1228) (by decide +kernel), List.mem_of_getElem? (i := 1540) (by decide +kernel), List.mem_of_getElem? (i := 1541) (by decide +kernel)⟩
theorem lw_p73 : lw_okq (⟨"FreckleChartModel", "isWide", "()Z"⟩, 41) := ⟨⟨by decide +kernel, by decide +kernel⟩, List.mem_of_getElem? (i := 1228) (by decide +kernel), List.mem_of_getElem? (i := 1544) (by decide +kernel), List.mem_of_getElem? (i := 1545) (by decide +kernel)⟩
theorem lw_p74 : lw_okq (⟨"FreckleChartModel", "isHigh", "()Z"⟩, 41) := ⟨⟨by decide +kernel, by decide +kernel⟩, List.mem_of_getElem? (i := 1228) (by decide +kernel), List.mem_of_getElem? (i := 1548) (by decide +kernel), List.mem_of_getElem? (i := 1549) (by decide +kernel)⟩
theorem lw_p75 : lw_okq (⟨"FreckleChartModel", "isInked", "()Z"⟩, 41) := ⟨⟨by decide +kernel, by decide +kernel⟩, List.mem_of_getElem? (i := 1228) (by decide +kernel), List.mem_of_getElem? (i := 1552) (by decide +kernel), List.mem_of_getElem? (i := 1553) (by decide +kernel)⟩
theorem lw_p76 : lw_okq (⟨"FreckleChartModel", "stepWord", "()I"⟩, 41) := ⟨⟨by decide +kernel, by decide +kernel⟩, List.mem_of_getElem? (i := 1228) (by decide +kernel), List.mem_of_getElem? (i := 1556) (by decide +kernel), List.mem_of_getElem? (i := 1557) (by decide +kernel)⟩
theorem lw_p77 : lw_okq (⟨"FreckleChartModel", "testWord", "()I"⟩, 41) := ⟨⟨by decide +kernel, by decide +kernel⟩, List.mem_of_getElem? (i := 1228) (by decide +kernel), List.mem_of_getElem? (i := 1560) (by decide +kernel), List.mem_of_getElem? (i := 1561) (by decide +kernel)⟩
theorem lw_p78 : lw_okq (⟨"FreckleChartModel", "isTan", "()Z"⟩, 41) := ⟨⟨by decide +kernel, by decide +kernel⟩, List.mem_of_getElem? (i := 1228) (by decide +kernel), List.mem_of_getElem? (i := 1564) (by decide +kernel), List.mem_of_getElem? (i := 1565) (by decide +kernel)⟩
theorem lw_p79 : lw_okq (⟨"FreckleChartModel", "isVeiled", "()Z"⟩, 41) := ⟨⟨by decide +kernel, by decide +kernel⟩, List.mem_of_getElem? (i := 1228) (by decide +kernel), List.mem_of_getElem? (i := 1568) (by decide +kernel), List.mem_of_getElem? (i := 1569) (by decide +kernel)⟩
def lw_privs_5 : List (MethodName × Nat) := [(⟨"FreckleChartModel", "readRock", "()V"⟩, 41), (⟨"FreckleChartModel", "rockIn", "(II)I"⟩, 41), (⟨"FreckleChartModel", "isDeep", "()Z"⟩, 41), (⟨"FreckleChartModel", "wrecks", "(III)V"⟩, 41), (⟨"FreckleChartModel", "isCousin", "()Z"⟩, 41), (⟨"FreckleChartModel", "readCousin", "()V"⟩, 41), (⟨"FreckleChartModel", "isName", "()Z"⟩, 41), (⟨"FreckleChartModel", "isKept", "()Z"⟩, 41), (⟨"FreckleChartModel", "isAt", "()Z"⟩, 41), (⟨"FreckleChartModel", "isWide", "()Z"⟩, 41), (⟨"FreckleChartModel", "isHigh", "()Z"⟩, 41), (⟨"FreckleChartModel", "isInked", "()Z"⟩, 41), (⟨"FreckleChartModel", "stepWord", "()I"⟩, 41), (⟨"FreckleChartModel", "testWord", "()I"⟩, 41), (⟨"FreckleChartModel", "isTan", "()Z"⟩, 41), (⟨"FreckleChartModel", "isVeiled", "()Z"⟩, 41)]
theorem lw_r5 : ∀ q ∈ lw_privs_5, lw_okq q := List.forall_mem_cons.mpr ⟨lw_p64, List.forall_mem_cons.mpr ⟨lw_p65, List.forall_mem_cons.mpr ⟨lw_p66, List.forall_mem_cons.mpr ⟨lw_p67, List.forall_mem_cons.mpr ⟨lw_p68, List.forall_mem_cons.mpr ⟨lw_p69, List.forall_mem_cons.mpr ⟨lw_p70, List.forall_mem_cons.mpr ⟨lw_p71, List.forall_mem_cons.mpr ⟨lw_p72, List.forall_mem_cons.mpr ⟨lw_p73, List.forall_mem_cons.mpr ⟨lw_p74, List.forall_mem_cons.mpr ⟨lw_p75, List.forall_mem_cons.mpr ⟨lw_p76, List.forall_mem_cons.mpr ⟨lw_p77, List.forall_mem_cons.mpr ⟨lw_p78, List.forall_mem_cons.mpr ⟨lw_p79, fun _ h => absurd h List.not_mem_nil⟩⟩⟩⟩⟩⟩⟩⟩⟩⟩⟩⟩⟩⟩⟩⟩
theorem lw_p80 : lw_okq (⟨"FreckleChartModel", "isEnd", "()Z"⟩, 41) := ⟨⟨by decide +kernel, by decide +kernel⟩, List.mem_of_getElem? (i := 1228) (by decide +kernel), List.mem_of_getElem? (i := 1572) (by decide +kernel), List.mem_of_getElem? (i := 1573) (by decide +kernel)⟩
theorem lw_p81 : lw_okq (⟨"FreckleChartModel", "named", "(I)I"⟩, 41) := ⟨⟨by decide +kernel, by decide +kernel⟩, List.mem_of_getElem? (i := 1228) (by decide +kernel), List.mem_of_getElem? (i := 1576) (by decide +kernel), List.mem_of_getElem? (i := 1577) (by decide +kernel)⟩
theorem lw_p82 : lw_okq (⟨"FreckleChartModel", "comes", "(IIII)V"⟩, 41) := ⟨⟨by decide +kernel, by decide +kernel⟩, List.mem_of_getElem? (i := 1228) (by decide +kernel), List.mem_of_getElem? (i := 1580) (by decide +kernel), List.mem_of_getElem? (i := 1581) (by decide +kernel)⟩
theorem lw_p83 : lw_okq (⟨"FreckleChartModel", "perhaps", "(Z)Z"⟩, 41) := ⟨⟨by decide +kernel, by decide +kernel⟩, List.mem_of_getElem? (i := 1228) (by decide +kernel), List.mem_of_getElem? (i := 1584) (by decide +kernel), List.mem_of_getElem? (i := 1585) (by decide +kernel)⟩
theorem lw_p84 : lw_okq (⟨"FreckleChartModel", "readInked", "(I)V"⟩, 41) := ⟨⟨by decide +kernel, by decide +kernel⟩, List.mem_of_getElem? (i := 1228) (by decide +kernel), List.mem_of_getElem? (i := 1588) (by decide +kernel), List.mem_of_getElem? (i := 1589) (by decide +kernel)⟩
theorem lw_p85 : lw_okq (⟨"FreckleChartModel", "isOfPatch", "(III)Z"⟩, 41) := ⟨⟨by decide +kernel, by decide +kernel⟩, List.mem_of_getElem? (i := 1228) (by decide +kernel), List.mem_of_getElem? (i := 1592) (by decide +kernel), List.mem_of_getElem? (i := 1593) (by decide +kernel)⟩
theorem lw_p86 : lw_okq (⟨"FreckleChartModel", "isSign", "(I)Z"⟩, 41) := ⟨⟨by decide +kernel, by decide +kernel⟩, List.mem_of_getElem? (i := 1228) (by decide +kernel), List.mem_of_getElem? (i := 1599) (by decide +kernel), List.mem_of_getElem? (i := 1600) (by decide +kernel)⟩
theorem lw_p87 : lw_okq (⟨"FreckleChartModel", "isWell", "()Z"⟩, 41) := ⟨⟨by decide +kernel, by decide +kernel⟩, List.mem_of_getElem? (i := 1228) (by decide +kernel), List.mem_of_getElem? (i := 1603) (by decide +kernel), List.mem_of_getElem? (i := 1604) (by decide +kernel)⟩
theorem lw_p88 : lw_okq (⟨"FreckleChartModel", "copy", "(II)V"⟩, 41) := ⟨⟨by decide +kernel, by decide +kernel⟩, List.mem_of_getElem? (i := 1228) (by decide +kernel), List.mem_of_getElem? (i := 1607) (by decide +kernel), List.mem_of_getElem? (i := 1608) (by decide +kernel)⟩
theorem lw_p89 : lw_okq (⟨"FreckleChartModel", "readStep", "(I)V"⟩, 41) := ⟨⟨by decide +kernel, by decide +kernel⟩, List.mem_of_getElem? (i := 1228) (by decide +kernel), List.mem_of_getElem? (i := 1615) (by decide +kernel), List.mem_of_getElem? (i := 1616) (by decide +kernel)⟩
theorem lw_p90 : lw_okq (⟨"FreckleChartModel", "readRest", "(I)V"⟩, 41) := ⟨⟨by decide +kernel, by decide +kernel⟩, List.mem_of_getElem? (i := 1228) (by decide +kernel), List.mem_of_getElem? (i := 1619) (by decide +kernel), List.mem_of_getElem? (i := 1620) (by decide +kernel)⟩
theorem lw_p91 : lw_okq (⟨"FreckleChartModel", "readTest", "(I)V"⟩, 41) := ⟨⟨by decide +kernel, by decide +kernel⟩, List.mem_of_getElem? (i := 1228) (by decide +kernel), List.mem_of_getElem? (i := 1623) (by decide +kernel), List.mem_of_getElem? (i := 1624) (by decide +kernel)⟩
theorem lw_p92 : lw_okq (⟨"FreckleChartModel", "readTold", "()I"⟩, 41) := ⟨⟨by decide +kernel, by decide +kernel⟩, List.mem_of_getElem? (i := 1228) (by decide +kernel), List.mem_of_getElem? (i := 1627) (by decide +kernel), List.mem_of_getElem? (i := 1628) (by decide +kernel)⟩
theorem lw_p93 : lw_okq (⟨"FreckleChartModel", "cells", "()I"⟩, 41) := ⟨⟨by decide +kernel, by decide +kernel⟩, List.mem_of_getElem? (i := 1228) (by decide +kernel), List.mem_of_getElem? (i := 1632) (by decide +kernel), List.mem_of_getElem? (i := 1633) (by decide +kernel)⟩
theorem lw_p94 : lw_okq (⟨"FreckleChartModel", "refuse", "(I)I"⟩, 41) := ⟨⟨by decide +kernel, by decide +kernel⟩, List.mem_of_getElem? (i := 1228) (by decide +kernel), List.mem_of_getElem? (i := 1641) (by decide +kernel), List.mem_of_getElem? (i := 1642) (by decide +kernel)⟩
theorem lw_p95 : lw_okq (⟨"FreckleChartModel", "veiledSet", "()I"⟩, 41) := ⟨⟨by decide +kernel, by decide +kernel⟩, List.mem_of_getElem? (i := 1228) (by decide +kernel), List.mem_of_getElem? (i := 1645) (by decide +kernel), List.mem_of_getElem? (i := 1646) (by decide +kernel)⟩
def lw_privs_6 : List (MethodName × Nat) := [(⟨"FreckleChartModel", "isEnd", "()Z"⟩, 41), (⟨"FreckleChartModel", "named", "(I)I"⟩, 41), (⟨"FreckleChartModel", "comes", "(IIII)V"⟩, 41), (⟨"FreckleChartModel", "perhaps", "(Z)Z"⟩, 41), (⟨"FreckleChartModel", "readInked", "(I)V"⟩, 41), (⟨"FreckleChartModel", "isOfPatch", "(III)Z"⟩, 41), (⟨"FreckleChartModel", "isSign", "(I)Z"⟩, 41), (⟨"FreckleChartModel", "isWell", "()Z"⟩, 41), (⟨"FreckleChartModel", "copy", "(II)V"⟩, 41), (⟨"FreckleChartModel", "readStep", "(I)V"⟩, 41), (⟨"FreckleChartModel", "readRest", "(I)V"⟩, 41), (⟨"FreckleChartModel", "readTest", "(I)V"⟩, 41), (⟨"FreckleChartModel", "readTold", "()I"⟩, 41), (⟨"FreckleChartModel", "cells", "()I"⟩, 41), (⟨"FreckleChartModel", "refuse", "(I)I"⟩, 41), (⟨"FreckleChartModel", "veiledSet", "()I"⟩, 41)]
theorem lw_r6 : ∀ q ∈ lw_privs_6, lw_okq q := List.forall_mem_cons.mpr ⟨lw_p80, List.forall_mem_cons.mpr ⟨lw_p81, List.forall_mem_cons.mpr ⟨lw_p82, List.forall_mem_cons.mpr ⟨lw_p83, List.forall_mem_cons.mpr ⟨lw_p84, List.forall_mem_cons.mpr ⟨lw_p85, List.forall_mem_cons.mpr ⟨lw_p86, List.forall_mem_cons.mpr ⟨lw_p87, List.forall_mem_cons.mpr ⟨lw_p88, List.forall_mem_cons.mpr ⟨lw_p89, List.forall_mem_cons.mpr ⟨lw_p90, List.forall_mem_cons.mpr ⟨lw_p91, List.forall_mem_cons.mpr ⟨lw_p92, List.forall_mem_cons.mpr ⟨lw_p93, List.forall_mem_cons.mpr ⟨lw_p94, List.forall_mem_cons.mpr ⟨lw_p95, fun _ h => absurd h List.not_mem_nil⟩⟩⟩⟩⟩⟩⟩⟩⟩⟩⟩⟩⟩⟩⟩⟩
theorem lw_p96 : lw_okq (⟨"FreckleChartModel", "rockCells", "()I"⟩, 41) := ⟨⟨by decide +kernel, by decide +kernel⟩, List.mem_of_getElem? (i := 1228) (by decide +kernel), List.mem_of_getElem? (i := 1649) (by decide +kernel), List.mem_of_getElem? (i := 1650) (by decide +kernel)⟩
theorem lw_p97 : lw_okq (⟨"FreckleChartModel", "isRockAt", "(I)Z"⟩, 41) := ⟨⟨by decide +kernel, by decide +kernel⟩, List.mem_of_getElem? (i := 1228) (by decide +kernel), List.mem_of_getElem? (i := 1657) (by decide +kernel), List.mem_of_getElem? (i := 1658) (by decide +kernel)⟩
theorem lw_p98 : lw_okq (⟨"FreckleChartModel", "isCellAt", "(I)Z"⟩, 41) := ⟨⟨by decide +kernel, by decide +kernel⟩, List.mem_of_getElem? (i := 1228) (by decide +kernel), List.mem_of_getElem? (i := 1665) (by decide +kernel), List.mem_of_getElem? (i := 1666) (by decide +kernel)⟩
theorem lw_p99 : lw_okq (⟨"FreckleChartModel", "isCousinAt", "(I)Z"⟩, 41) := ⟨⟨by decide +kernel, by decide +kernel⟩, List.mem_of_getElem? (i := 1228) (by decide +kernel), List.mem_of_getElem? (i := 1673) (by decide +kernel), List.mem_of_getElem? (i := 1674) (by decide +kernel)⟩
theorem lw_p100 : lw_okq (⟨"FreckleChartModel", "patchOf", "(I)I"⟩, 41) := ⟨⟨by decide +kernel, by decide +kernel⟩, List.mem_of_getElem? (i := 1228) (by decide +kernel), List.mem_of_getElem? (i := 1678) (by decide +kernel), List.mem_of_getElem? (i := 1679) (by decide +kernel)⟩
theorem lw_p101 : lw_okq (⟨"FreckleChartModel", "shownOn", "(I)I"⟩, 41) := ⟨⟨by decide +kernel, by decide +kernel⟩, List.mem_of_getElem? (i := 1228) (by decide +kernel), List.mem_of_getElem? (i := 1686) (by decide +kernel), List.mem_of_getElem? (i := 1687) (by decide +kernel)⟩
theorem lw_p102 : lw_okq (⟨"FreckleChartModel", "isTray", "(I)Z"⟩, 41) := ⟨⟨by decide +kernel, by decide +kernel⟩, List.mem_of_getElem? (i := 1228) (by decide +kernel), List.mem_of_getElem? (i := 1694) (by decide +kernel), List.mem_of_getElem? (i := 1695) (by decide +kernel)⟩
theorem lw_p103 : lw_okq (⟨"FreckleChartModel", "tans", "(II)Z"⟩, 41) := ⟨⟨by decide +kernel, by decide +kernel⟩, List.mem_of_getElem? (i := 1228) (by decide +kernel), List.mem_of_getElem? (i := 1705) (by decide +kernel), List.mem_of_getElem? (i := 1706) (by decide +kernel)⟩
theorem lw_p104 : lw_okq (⟨"FreckleChartModel", "rains", "(I)I"⟩, 41) := ⟨⟨by decide +kernel, by decide +kernel⟩, List.mem_of_getElem? (i := 1228) (by decide +kernel), List.mem_of_getElem? (i := 1714) (by decide +kernel), List.mem_of_getElem? (i := 1715) (by decide +kernel)⟩
theorem lw_p105 : lw_okq (⟨"FreckleChartModel", "becomes", "(II)Z"⟩, 41) := ⟨⟨by decide +kernel, by decide +kernel⟩, List.mem_of_getElem? (i := 1228) (by decide +kernel), List.mem_of_getElem? (i := 1722) (by decide +kernel), List.mem_of_getElem? (i := 1723) (by decide +kernel)⟩
theorem lw_p106 : lw_okq (⟨"FreckleChartModel", "inks", "(II)Z"⟩, 41) := ⟨⟨by decide +kernel, by decide +kernel⟩, List.mem_of_getElem? (i := 1228) (by decide +kernel), List.mem_of_getElem? (i := 1733) (by decide +kernel), List.mem_of_getElem? (i := 1734) (by decide +kernel)⟩
theorem lw_p107 : lw_okq (⟨"FreckleChartModel", "whyNoSail", "(IIII)I"⟩, 41) := ⟨⟨by decide +kernel, by decide +kernel⟩, List.mem_of_getElem? (i := 1228) (by decide +kernel), List.mem_of_getElem? (i := 1758) (by decide +kernel), List.mem_of_getElem? (i := 1759) (by decide +kernel)⟩
theorem lw_p108 : lw_okq (⟨"FreckleChartModel", "whyNoWay", "(III)I"⟩, 41) := ⟨⟨by decide +kernel, by decide +kernel⟩, List.mem_of_getElem? (i := 1228) (by decide +kernel), List.mem_of_getElem? (i := 1762) (by decide +kernel), List.mem_of_getElem? (i := 1763) (by decide +kernel)⟩
theorem lw_p109 : lw_okq (⟨"FreckleChartModel", "areCousins", "(I)Z"⟩, 41) := ⟨⟨by decide +kernel, by decide +kernel⟩, List.mem_of_getElem? (i := 1228) (by decide +kernel), List.mem_of_getElem? (i := 1766) (by decide +kernel), List.mem_of_getElem? (i := 1767) (by decide +kernel)⟩
theorem lw_p110 : lw_okq (⟨"FreckleChartModel", "allCousins", "()I"⟩, 41) := ⟨⟨by decide +kernel, by decide +kernel⟩, List.mem_of_getElem? (i := 1228) (by decide +kernel), List.mem_of_getElem? (i := 1770) (by decide +kernel), List.mem_of_getElem? (i := 1771) (by decide +kernel)⟩
theorem lw_p111 : lw_okq (⟨"FreckleChartModel", "sails", "(IIII)I"⟩, 41) := ⟨⟨by decide +kernel, by decide +kernel⟩, List.mem_of_getElem? (i := 1228) (by decide +kernel), List.mem_of_getElem? (i := 1775) (by decide +kernel), List.mem_of_getElem? (i := 1776) (by decide +kernel)⟩
def lw_privs_7 : List (MethodName × Nat) := [(⟨"FreckleChartModel", "rockCells", "()I"⟩, 41), (⟨"FreckleChartModel", "isRockAt", "(I)Z"⟩, 41), (⟨"FreckleChartModel", "isCellAt", "(I)Z"⟩, 41), (⟨"FreckleChartModel", "isCousinAt", "(I)Z"⟩, 41), (⟨"FreckleChartModel", "patchOf", "(I)I"⟩, 41), (⟨"FreckleChartModel", "shownOn", "(I)I"⟩, 41), (⟨"FreckleChartModel", "isTray", "(I)Z"⟩, 41), (⟨"FreckleChartModel", "tans", "(II)Z"⟩, 41), (⟨"FreckleChartModel", "rains", "(I)I"⟩, 41), (⟨"FreckleChartModel", "becomes", "(II)Z"⟩, 41), (⟨"FreckleChartModel", "inks", "(II)Z"⟩, 41), (⟨"FreckleChartModel", "whyNoSail", "(IIII)I"⟩, 41), (⟨"FreckleChartModel", "whyNoWay", "(III)I"⟩, 41), (⟨"FreckleChartModel", "areCousins", "(I)Z"⟩, 41), (⟨"FreckleChartModel", "allCousins", "()I"⟩, 41), (⟨"FreckleChartModel", "sails", "(IIII)I"⟩, 41)]
theorem lw_r7 : ∀ q ∈ lw_privs_7, lw_okq q := List.forall_mem_cons.mpr ⟨lw_p96, List.forall_mem_cons.mpr ⟨lw_p97, List.forall_mem_cons.mpr ⟨lw_p98, List.forall_mem_cons.mpr ⟨lw_p99, List.forall_mem_cons.mpr ⟨lw_p100, List.forall_mem_cons.mpr ⟨lw_p101, List.forall_mem_cons.mpr ⟨lw_p102, List.forall_mem_cons.mpr ⟨lw_p103, List.forall_mem_cons.mpr ⟨lw_p104, List.forall_mem_cons.mpr ⟨lw_p105, List.forall_mem_cons.mpr ⟨lw_p106, List.forall_mem_cons.mpr ⟨lw_p107, List.forall_mem_cons.mpr ⟨lw_p108, List.forall_mem_cons.mpr ⟨lw_p109, List.forall_mem_cons.mpr ⟨lw_p110, List.forall_mem_cons.mpr ⟨lw_p111, fun _ h => absurd h List.not_mem_nil⟩⟩⟩⟩⟩⟩⟩⟩⟩⟩⟩⟩⟩⟩⟩⟩
theorem lw_p112 : lw_okq (⟨"FreckleChartModel", "laysWay", "(III)I"⟩, 41) := ⟨⟨by decide +kernel, by decide +kernel⟩, List.mem_of_getElem? (i := 1228) (by decide +kernel), List.mem_of_getElem? (i := 1779) (by decide +kernel), List.mem_of_getElem? (i := 1780) (by decide +kernel)⟩
theorem lw_p113 : lw_okq (⟨"FreckleChartModel", "openBy", "(I)I"⟩, 41) := ⟨⟨by decide +kernel, by decide +kernel⟩, List.mem_of_getElem? (i := 1228) (by decide +kernel), List.mem_of_getElem? (i := 1783) (by decide +kernel), List.mem_of_getElem? (i := 1784) (by decide +kernel)⟩
theorem lw_p114 : lw_okq (⟨"FreckleChartModel", "chartedBy", "(I)I"⟩, 41) := ⟨⟨by decide +kernel, by decide +kernel⟩, List.mem_of_getElem? (i := 1228) (by decide +kernel), List.mem_of_getElem? (i := 1787) (by decide +kernel), List.mem_of_getElem? (i := 1788) (by decide +kernel)⟩
theorem lw_p115 : lw_okq (⟨"FreckleChartModel", "isBeside", "(II)Z"⟩, 41) := ⟨⟨by decide +kernel, by decide +kernel⟩, List.mem_of_getElem? (i := 1228) (by decide +kernel), List.mem_of_getElem? (i := 1791) (by decide +kernel), List.mem_of_getElem? (i := 1792) (by decide +kernel)⟩
theorem lw_p116 : lw_okq (⟨"FreckleChartModel", "strikesOn", "(II)I"⟩, 41) := ⟨⟨by decide +kernel, by decide +kernel⟩, List.mem_of_getElem? (i := 1228) (by decide +kernel), List.mem_of_getElem? (i := 1798) (by decide +kernel), List.mem_of_getElem? (i := 1799) (by decide +kernel)⟩
theorem lw_p117 : lw_okq (⟨"FreckleChartModel", "isStruck", "(II)Z"⟩, 41) := ⟨⟨by decide +kernel, by decide +kernel⟩, List.mem_of_getElem? (i := 1228) (by decide +kernel), List.mem_of_getElem? (i := 1802) (by decide +kernel), List.mem_of_getElem? (i := 1803) (by decide +kernel)⟩
theorem lw_p118 : lw_okq (⟨"FreckleChartModel", "nextOn", "(I)I"⟩, 41) := ⟨⟨by decide +kernel, by decide +kernel⟩, List.mem_of_getElem? (i := 1228) (by decide +kernel), List.mem_of_getElem? (i := 1806) (by decide +kernel), List.mem_of_getElem? (i := 1807) (by decide +kernel)⟩
theorem lw_p119 : lw_okq (⟨"FreckleChartModel", "fewestOf", "(III)I"⟩, 41) := ⟨⟨by decide +kernel, by decide +kernel⟩, List.mem_of_getElem? (i := 1228) (by decide +kernel), List.mem_of_getElem? (i := 1834) (by decide +kernel), List.mem_of_getElem? (i := 1835) (by decide +kernel)⟩
theorem lw_p120 : lw_okq (⟨"FreckleChartModel", "isSafe", "(IIII)Z"⟩, 41) := ⟨⟨by decide +kernel, by decide +kernel⟩, List.mem_of_getElem? (i := 1228) (by decide +kernel), List.mem_of_getElem? (i := 1838) (by decide +kernel), List.mem_of_getElem? (i := 1839) (by decide +kernel)⟩
theorem lw_p121 : lw_okq (⟨"FreckleChartModel", "whyNotTwo", "(II)I"⟩, 41) := ⟨⟨by decide +kernel, by decide +kernel⟩, List.mem_of_getElem? (i := 1228) (by decide +kernel), List.mem_of_getElem? (i := 1862) (by decide +kernel), List.mem_of_getElem? (i := 1863) (by decide +kernel)⟩
theorem lw_p122 : lw_okq (⟨"FreckleChartModel", "covering", "()I"⟩, 41) := ⟨⟨by decide +kernel, by decide +kernel⟩, List.mem_of_getElem? (i := 1228) (by decide +kernel), List.mem_of_getElem? (i := 1870) (by decide +kernel), List.mem_of_getElem? (i := 1871) (by decide +kernel)⟩
theorem lw_p123 : lw_okq (⟨"FreckleChartModel", "whyNoFits", "(IIII)I"⟩, 41) := ⟨⟨by decide +kernel, by decide +kernel⟩, List.mem_of_getElem? (i := 1228) (by decide +kernel), List.mem_of_getElem? (i := 1882) (by decide +kernel), List.mem_of_getElem? (i := 1883) (by decide +kernel)⟩
theorem lw_p124 : lw_okq (⟨"FreckleChartModel", "numberOf", "(II)J"⟩, 41) := ⟨⟨by decide +kernel, by decide +kernel⟩, List.mem_of_getElem? (i := 1228) (by decide +kernel), List.mem_of_getElem? (i := 1888) (by decide +kernel), List.mem_of_getElem? (i := 1889) (by decide +kernel)⟩
theorem lw_p125 : lw_okq (⟨"FreckleChartModel", "placesTold", "(II)I"⟩, 41) := ⟨⟨by decide +kernel, by decide +kernel⟩, List.mem_of_getElem? (i := 1228) (by decide +kernel), List.mem_of_getElem? (i := 1892) (by decide +kernel), List.mem_of_getElem? (i := 1893) (by decide +kernel)⟩
theorem lw_p126 : lw_okq (⟨"FreckleChartModel", "fitting", "(IIII)I"⟩, 41) := ⟨⟨by decide +kernel, by decide +kernel⟩, List.mem_of_getElem? (i := 1228) (by decide +kernel), List.mem_of_getElem? (i := 1896) (by decide +kernel), List.mem_of_getElem? (i := 1897) (by decide +kernel)⟩
theorem lw_p127 : lw_okq (⟨"FreckleChartModel", "begins", "(III)Z"⟩, 41) := ⟨⟨by decide +kernel, by decide +kernel⟩, List.mem_of_getElem? (i := 1228) (by decide +kernel), List.mem_of_getElem? (i := 1900) (by decide +kernel), List.mem_of_getElem? (i := 1901) (by decide +kernel)⟩
def lw_privs_8 : List (MethodName × Nat) := [(⟨"FreckleChartModel", "laysWay", "(III)I"⟩, 41), (⟨"FreckleChartModel", "openBy", "(I)I"⟩, 41), (⟨"FreckleChartModel", "chartedBy", "(I)I"⟩, 41), (⟨"FreckleChartModel", "isBeside", "(II)Z"⟩, 41), (⟨"FreckleChartModel", "strikesOn", "(II)I"⟩, 41), (⟨"FreckleChartModel", "isStruck", "(II)Z"⟩, 41), (⟨"FreckleChartModel", "nextOn", "(I)I"⟩, 41), (⟨"FreckleChartModel", "fewestOf", "(III)I"⟩, 41), (⟨"FreckleChartModel", "isSafe", "(IIII)Z"⟩, 41), (⟨"FreckleChartModel", "whyNotTwo", "(II)I"⟩, 41), (⟨"FreckleChartModel", "covering", "()I"⟩, 41), (⟨"FreckleChartModel", "whyNoFits", "(IIII)I"⟩, 41), (⟨"FreckleChartModel", "numberOf", "(II)J"⟩, 41), (⟨"FreckleChartModel", "placesTold", "(II)I"⟩, 41), (⟨"FreckleChartModel", "fitting", "(IIII)I"⟩, 41), (⟨"FreckleChartModel", "begins", "(III)Z"⟩, 41)]
theorem lw_r8 : ∀ q ∈ lw_privs_8, lw_okq q := List.forall_mem_cons.mpr ⟨lw_p112, List.forall_mem_cons.mpr ⟨lw_p113, List.forall_mem_cons.mpr ⟨lw_p114, List.forall_mem_cons.mpr ⟨lw_p115, List.forall_mem_cons.mpr ⟨lw_p116, List.forall_mem_cons.mpr ⟨lw_p117, List.forall_mem_cons.mpr ⟨lw_p118, List.forall_mem_cons.mpr ⟨lw_p119, List.forall_mem_cons.mpr ⟨lw_p120, List.forall_mem_cons.mpr ⟨lw_p121, List.forall_mem_cons.mpr ⟨lw_p122, List.forall_mem_cons.mpr ⟨lw_p123, List.forall_mem_cons.mpr ⟨lw_p124, List.forall_mem_cons.mpr ⟨lw_p125, List.forall_mem_cons.mpr ⟨lw_p126, List.forall_mem_cons.mpr ⟨lw_p127, fun _ h => absurd h List.not_mem_nil⟩⟩⟩⟩⟩⟩⟩⟩⟩⟩⟩⟩⟩⟩⟩⟩
theorem lw_p128 : lw_okq (⟨"FreckleChartModel", "plays", "(II)I"⟩, 41) := ⟨⟨by decide +kernel, by decide +kernel⟩, List.mem_of_getElem? (i := 1228) (by decide +kernel), List.mem_of_getElem? (i := 1920) (by decide +kernel), List.mem_of_getElem? (i := 1921) (by decide +kernel)⟩
theorem lw_p129 : lw_okq (⟨"FreckleChartModel", "allShown", "()I"⟩, 41) := ⟨⟨by decide +kernel, by decide +kernel⟩, List.mem_of_getElem? (i := 1228) (by decide +kernel), List.mem_of_getElem? (i := 1924) (by decide +kernel), List.mem_of_getElem? (i := 1925) (by decide +kernel)⟩
theorem lw_p130 : lw_okq (⟨"FreckleChartModel", "odds", "(III)Z"⟩, 41) := ⟨⟨by decide +kernel, by decide +kernel⟩, List.mem_of_getElem? (i := 1228) (by decide +kernel), List.mem_of_getElem? (i := 1937) (by decide +kernel), List.mem_of_getElem? (i := 1938) (by decide +kernel)⟩
theorem lw_p131 : lw_okq (⟨"FreckleChartModel", "fraction", "(JJ)Z"⟩, 41) := ⟨⟨by decide +kernel, by decide +kernel⟩, List.mem_of_getElem? (i := 1228) (by decide +kernel), List.mem_of_getElem? (i := 1941) (by decide +kernel), List.mem_of_getElem? (i := 1942) (by decide +kernel)⟩
theorem lw_p132 : lw_okq (⟨"FreckleChartModel", "runsYears", "(I)V"⟩, 41) := ⟨⟨by decide +kernel, by decide +kernel⟩, List.mem_of_getElem? (i := 1228) (by decide +kernel), List.mem_of_getElem? (i := 1961) (by decide +kernel), List.mem_of_getElem? (i := 1962) (by decide +kernel)⟩
theorem lw_p133 : lw_okq (⟨"FreckleChartModel", "doAll", "(II)V"⟩, 41) := ⟨⟨by decide +kernel, by decide +kernel⟩, List.mem_of_getElem? (i := 1228) (by decide +kernel), List.mem_of_getElem? (i := 1965) (by decide +kernel), List.mem_of_getElem? (i := 1966) (by decide +kernel)⟩
theorem lw_p134 : lw_okq (⟨"FreckleChartModel", "doOne", "(I)V"⟩, 41) := ⟨⟨by decide +kernel, by decide +kernel⟩, List.mem_of_getElem? (i := 1228) (by decide +kernel), List.mem_of_getElem? (i := 1969) (by decide +kernel), List.mem_of_getElem? (i := 1970) (by decide +kernel)⟩
theorem lw_p135 : lw_okq (⟨"FreckleChartModel", "does", "(I)Z"⟩, 41) := ⟨⟨by decide +kernel, by decide +kernel⟩, List.mem_of_getElem? (i := 1228) (by decide +kernel), List.mem_of_getElem? (i := 1973) (by decide +kernel), List.mem_of_getElem? (i := 1974) (by decide +kernel)⟩
theorem lw_p136 : lw_okq (⟨"FreckleChartModel", "isTanned", "(II)Z"⟩, 41) := ⟨⟨by decide +kernel, by decide +kernel⟩, List.mem_of_getElem? (i := 1228) (by decide +kernel), List.mem_of_getElem? (i := 1977) (by decide +kernel), List.mem_of_getElem? (i := 1978) (by decide +kernel)⟩
theorem lw_p137 : lw_okq (⟨"FreckleChartModel", "isAny", "()Z"⟩, 41) := ⟨⟨by decide +kernel, by decide +kernel⟩, List.mem_of_getElem? (i := 1228) (by decide +kernel), List.mem_of_getElem? (i := 1981) (by decide +kernel), List.mem_of_getElem? (i := 1982) (by decide +kernel)⟩
theorem lw_p138 : lw_okq (⟨"FreckleChartModel", "draw", "(I)I"⟩, 41) := ⟨⟨by decide +kernel, by decide +kernel⟩, List.mem_of_getElem? (i := 1228) (by decide +kernel), List.mem_of_getElem? (i := 1985) (by decide +kernel), List.mem_of_getElem? (i := 1986) (by decide +kernel)⟩
theorem lw_p139 : lw_okq (⟨"FreckleChartModel", "isSo", "(I)Z"⟩, 41) := ⟨⟨by decide +kernel, by decide +kernel⟩, List.mem_of_getElem? (i := 1228) (by decide +kernel), List.mem_of_getElem? (i := 1990) (by decide +kernel), List.mem_of_getElem? (i := 1991) (by decide +kernel)⟩
def lw_privs_9 : List (MethodName × Nat) := [(⟨"FreckleChartModel", "plays", "(II)I"⟩, 41), (⟨"FreckleChartModel", "allShown", "()I"⟩, 41), (⟨"FreckleChartModel", "odds", "(III)Z"⟩, 41), (⟨"FreckleChartModel", "fraction", "(JJ)Z"⟩, 41), (⟨"FreckleChartModel", "runsYears", "(I)V"⟩, 41), (⟨"FreckleChartModel", "doAll", "(II)V"⟩, 41), (⟨"FreckleChartModel", "doOne", "(I)V"⟩, 41), (⟨"FreckleChartModel", "does", "(I)Z"⟩, 41), (⟨"FreckleChartModel", "isTanned", "(II)Z"⟩, 41), (⟨"FreckleChartModel", "isAny", "()Z"⟩, 41), (⟨"FreckleChartModel", "draw", "(I)I"⟩, 41), (⟨"FreckleChartModel", "isSo", "(I)Z"⟩, 41)]
theorem lw_r9 : ∀ q ∈ lw_privs_9, lw_okq q := List.forall_mem_cons.mpr ⟨lw_p128, List.forall_mem_cons.mpr ⟨lw_p129, List.forall_mem_cons.mpr ⟨lw_p130, List.forall_mem_cons.mpr ⟨lw_p131, List.forall_mem_cons.mpr ⟨lw_p132, List.forall_mem_cons.mpr ⟨lw_p133, List.forall_mem_cons.mpr ⟨lw_p134, List.forall_mem_cons.mpr ⟨lw_p135, List.forall_mem_cons.mpr ⟨lw_p136, List.forall_mem_cons.mpr ⟨lw_p137, List.forall_mem_cons.mpr ⟨lw_p138, List.forall_mem_cons.mpr ⟨lw_p139, fun _ h => absurd h List.not_mem_nil⟩⟩⟩⟩⟩⟩⟩⟩⟩⟩⟩⟩
def lw_privs : List (MethodName × Nat) := lw_privs_1 ++ (lw_privs_2 ++ (lw_privs_3 ++ (lw_privs_4 ++ (lw_privs_5 ++ (lw_privs_6 ++ (lw_privs_7 ++ (lw_privs_8 ++ (lw_privs_9))))))))
def lw_tbl : List Cond := k2_sels lw_privs ++ tables_1
theorem lw_privs_ok : ∀ q ∈ lw_privs, lw_okq q := by
  show ∀ q ∈ lw_privs_1 ++ (lw_privs_2 ++ (lw_privs_3 ++ (lw_privs_4 ++ (lw_privs_5 ++ (lw_privs_6 ++ (lw_privs_7 ++ (lw_privs_8 ++ (lw_privs_9)))))))), lw_okq q
  exact List.forall_mem_append.mpr ⟨lw_r1, List.forall_mem_append.mpr ⟨lw_r2, List.forall_mem_append.mpr ⟨lw_r3, List.forall_mem_append.mpr ⟨lw_r4, List.forall_mem_append.mpr ⟨lw_r5, List.forall_mem_append.mpr ⟨lw_r6, List.forall_mem_append.mpr ⟨lw_r7, List.forall_mem_append.mpr ⟨lw_r8, lw_r9⟩⟩⟩⟩⟩⟩⟩⟩
-- ===== end of PART A; then your names; then what follows =====
end
section
-- the words that can be handed on
def xW : List Cond := lw_tbl.filter goodWord
def xw (h : Nat) (w : Cond) : Bool := decide (lw_tbl[h]? = some w) && goodWord w
theorem xw_in {h : Nat} {w : Cond} (q : xw h w = true) : w ∈ xW := by
  unfold xw at q
  rw [Bool.and_eq_true] at q
  exact List.mem_filter.mpr ⟨List.mem_of_getElem? (of_decide_eq_true q.1), q.2⟩
def cR0 : String := "FreckleChart$Coast"
def cT0 : u_T := fun k => match k with
  | 0 => ("FreckleChart$Coast", "wide", "I", false)
  | 1 => ("FreckleChart$Coast", "high", "I", false)
  | 2 => ("FreckleChart$Coast", "odds", "I", false)
  | 3 => ("FreckleChart$Coast", "rocks", "I", false)
  | 4 => ("FreckleChart$Coast", "rockCells", "[I", true)
  | 5 => ("FreckleChart$Coast", "rockDepths", "[I", true)
  | 6 => ("FreckleChart$Coast", "shallow", "[I", true)
  | 7 => ("FreckleChart$Coast", "cousins", "I", false)
  | 8 => ("FreckleChart$Coast", "names", "[J", true)
  | 9 => ("FreckleChart$Coast", "firstCells", "[I", true)
  | 10 => ("FreckleChart$Coast", "patchWides", "[I", true)
  | 11 => ("FreckleChart$Coast", "patchHighs", "[I", true)
  | 12 => ("FreckleChart$Coast", "patches", "[I", true)
  | 13 => ("FreckleChart$Coast", "tans", "[I", true)
  | 14 => ("FreckleChart$Coast", "inked", "[I", true)
  | 15 => ("FreckleChart$Coast", "veiled", "I", false)
  | 16 => ("FreckleChart$Coast", "struck", "I", false)
  | 17 => ("FreckleChart$Coast", "cameIn", "I", false)
  | _ => ("FreckleChart$Coast", "years", "LFreckleChart$Years;", true)
def cR1 : String := "FreckleChart$CoastText"
def cT1 : u_T := fun k => match k with
  | 0 => ("FreckleChart$CoastText", "reader", "LFreckleChart$Reader;", true)
  | 1 => ("FreckleChart$CoastText", "sizeTold", "Z", false)
  | _ => ("FreckleChart$CoastText", "oddsTold", "Z", false)
def cR2 : String := "FreckleChart$Fraction"
def cT2 : u_T := fun k => match k with
  | 0 => ("FreckleChart$Fraction", "above", "J", false)
  | 1 => ("FreckleChart$Fraction", "below", "J", false)
  | _ => ("FreckleChart$Fraction", "ways", "[J", true)
def cR3 : String := "FreckleChart$Living"
def cT3 : u_T := fun k => match k with
  | 0 => ("FreckleChart$Living", "pilot", "LFreckleChart$Pilot;", true)
  | 1 => ("FreckleChart$Living", "roundsLeft", "[I", true)
  | 2 => ("FreckleChart$Living", "drawn", "I", false)
  | 3 => ("FreckleChart$Living", "steps", "I", false)
  | 4 => ("FreckleChart$Living", "missed", "I", false)
  | 5 => ("FreckleChart$Living", "struck", "I", false)
  | 6 => ("FreckleChart$Living", "cameIn", "I", false)
  | 7 => ("FreckleChart$Living", "darkened", "I", false)
  | _ => ("FreckleChart$Living", "isLeft", "Z", false)
def cR4 : String := "FreckleChart$Pilot"
def cT4 : u_T := fun k => match k with
  | 0 => ("FreckleChart$Pilot", "cells", "[I", true)
  | 1 => ("FreckleChart$Pilot", "length", "I", false)
  | 2 => ("FreckleChart$Pilot", "rings", "[I", true)
  | 3 => ("FreckleChart$Pilot", "wide", "I", false)
  | 4 => ("FreckleChart$Pilot", "firstColumn", "I", false)
  | _ => ("FreckleChart$Pilot", "lastColumn", "I", false)
def cR5 : String := "FreckleChart$Reader"
def cT5 : u_T := fun k => match k with
  | 0 => ("FreckleChart$Reader", "text", "[B", true)
  | 1 => ("FreckleChart$Reader", "length", "I", false)
  | 2 => ("FreckleChart$Reader", "next", "I", false)
  | 3 => ("FreckleChart$Reader", "place", "I", false)
  | 4 => ("FreckleChart$Reader", "kind", "I", false)
  | 5 => ("FreckleChart$Reader", "code", "J", false)
  | 6 => ("FreckleChart$Reader", "number", "I", false)
  | 7 => ("FreckleChart$Reader", "sign", "I", false)
  | 8 => ("FreckleChart$Reader", "fault", "I", false)
  | _ => ("FreckleChart$Reader", "faultPlace", "I", false)
def cR6 : String := "FreckleChart$Trays"
def cT6 : u_T := fun k => match k with
  | 0 => ("FreckleChart$Trays", "rows", "[[J", true)
  | 1 => ("FreckleChart$Trays", "sorts", "[I", true)
  | _ => ("FreckleChart$Trays", "lengths", "[I", true)
def cR7 : String := "FreckleChart$Years"
def cT7 : u_T := fun k => match k with
  | 0 => ("FreckleChart$Years", "there", "Z", false)
  | 1 => ("FreckleChart$Years", "steps", "I", false)
  | 2 => ("FreckleChart$Years", "lines", "I", false)
  | 3 => ("FreckleChart$Years", "kinds", "[I", true)
  | 4 => ("FreckleChart$Years", "whose", "[I", true)
  | 5 => ("FreckleChart$Years", "firsts", "[I", true)
  | 6 => ("FreckleChart$Years", "seconds", "[I", true)
  | 7 => ("FreckleChart$Years", "thirds", "[I", true)
  | _ => ("FreckleChart$Years", "partners", "[I", true)
def cR8 : String := "FreckleChart$YearsText"
def cT8 : u_T := fun k => match k with
  | 0 => ("FreckleChart$YearsText", "reader", "LFreckleChart$Reader;", true)
  | 1 => ("FreckleChart$YearsText", "opened", "[I", true)
  | _ => ("FreckleChart$YearsText", "nested", "I", false)
def cR9 : String := "FreckleChart"
def cT9 : u_T := fun k => match k with
  | 0 => ("FreckleChart", "fraction", "LFreckleChart$Fraction;", true)
  | 1 => ("FreckleChart", "trays", "LFreckleChart$Trays;", true)
  | 2 => ("FreckleChart", "tape", "[B", true)
  | 3 => ("FreckleChart", "coastText", "LFreckleChart$CoastText;", true)
  | 4 => ("FreckleChart", "yearsText", "LFreckleChart$YearsText;", true)
  | 5 => ("FreckleChart", "pilot", "LFreckleChart$Pilot;", true)
  | 6 => ("FreckleChart", "living", "LFreckleChart$Living;", true)
  | 7 => ("FreckleChart", "latestLived", "[I", true)
  | 8 => ("FreckleChart", "coast", "LFreckleChart$Coast;", true)
  | 9 => ("FreckleChart", "draftCoast", "LFreckleChart$Coast;", true)
  | 10 => ("FreckleChart", "kept", "[LFreckleChart$Coast;", true)
  | 11 => ("FreckleChart", "marks", "I", false)
  | 12 => ("FreckleChart", "taped", "I", false)
  | 13 => ("FreckleChart", "latestStatus", "I", false)
  | 14 => ("FreckleChart", "latestFault", "I", false)
  | 15 => ("FreckleChart", "latestFaultPlace", "I", false)
  | _ => ("FreckleChart", "hasLived", "Z", false)
def cR10 : String := "FreckleChartModel"
def cT10 : u_T := fun k => match k with
  | 0 => ("FreckleChartModel", "status", "I", false)
  | 1 => ("FreckleChartModel", "thrown", "I", false)
  | 2 => ("FreckleChartModel", "above", "J", false)
  | 3 => ("FreckleChartModel", "under", "J", false)
  | 4 => ("FreckleChartModel", "traySort", "[I", true)
  | 5 => ("FreckleChartModel", "trayMany", "[I", true)
  | 6 => ("FreckleChartModel", "numbers", "[J", true)
  | 7 => ("FreckleChartModel", "tape", "[B", true)
  | 8 => ("FreckleChartModel", "taped", "I", false)
  | 9 => ("FreckleChartModel", "textEnd", "I", false)
  | 10 => ("FreckleChartModel", "faultKind", "I", false)
  | 11 => ("FreckleChartModel", "faultAt", "I", false)
  | 12 => ("FreckleChartModel", "bad", "I", false)
  | 13 => ("FreckleChartModel", "badAt", "I", false)
  | 14 => ("FreckleChartModel", "token", "I", false)
  | 15 => ("FreckleChartModel", "at", "I", false)
  | 16 => ("FreckleChartModel", "behind", "I", false)
  | 17 => ("FreckleChartModel", "number", "I", false)
  | 18 => ("FreckleChartModel", "letters", "I", false)
  | 19 => ("FreckleChartModel", "word", "J", false)
  | 20 => ("FreckleChartModel", "c", "[I", true)
  | 21 => ("FreckleChartModel", "before", "[I", true)
  | 22 => ("FreckleChartModel", "words", "[J", true)
  | 23 => ("FreckleChartModel", "markMany", "I", false)
  | 24 => ("FreckleChartModel", "toldCoast", "Z", false)
  | 25 => ("FreckleChartModel", "toldOdds", "Z", false)
  | 26 => ("FreckleChartModel", "newSteps", "I", false)
  | 27 => ("FreckleChartModel", "fars", "[I", true)
  | 28 => ("FreckleChartModel", "fitMany", "I", false)
  | 29 => ("FreckleChartModel", "firstMove", "I", false)
  | 30 => ("FreckleChartModel", "chances", "[J", true)
  | 31 => ("FreckleChartModel", "livedLast", "[I", true)
  | 32 => ("FreckleChartModel", "hasLived", "Z", false)
  | 33 => ("FreckleChartModel", "isOver", "Z", false)
  | 34 => ("FreckleChartModel", "random", "I", false)
  | 35 => ("FreckleChartModel", "done", "I", false)
  | 36 => ("FreckleChartModel", "missed", "I", false)
  | 37 => ("FreckleChartModel", "struckAhead", "I", false)
  | 38 => ("FreckleChartModel", "cameAhead", "I", false)
  | 39 => ("FreckleChartModel", "darker", "I", false)
  | _ => ("FreckleChartModel", "leftOver", "I", false)
abbrev xcl : List vw_C := [(cR0, cT0, 19), (cR1, cT1, 3), (cR2, cT2, 3), (cR3, cT3, 9), (cR4, cT4, 6), (cR5, cT5, 10), (cR6, cT6, 3), (cR7, cT7, 9), (cR8, cT8, 3), (cR9, cT9, 17), (cR10, cT10, 41)]
def xtyl : List (List FieldType) := [[.int, .int, .int, .int, .array (.int), .array (.int), .array (.int), .int, .array (.long), .array (.int), .array (.int), .array (.int), .array (.int), .array (.int), .array (.int), .int, .int, .int, .object "FreckleChart$Years"],
  [.object "FreckleChart$Reader", .boolean, .boolean],
  [.long, .long, .array (.long)],
  [.object "FreckleChart$Pilot", .array (.int), .int, .int, .int, .int, .int, .int, .boolean],
  [.array (.int), .int, .array (.int), .int, .int, .int],
  [.array (.byte), .int, .int, .int, .int, .long, .int, .int, .int, .int],
  [.array (.array (.long)), .array (.int), .array (.int)],
  [.boolean, .int, .int, .array (.int), .array (.int), .array (.int), .array (.int), .array (.int), .array (.int)],
  [.object "FreckleChart$Reader", .array (.int), .int],
  [.object "FreckleChart$Fraction", .object "FreckleChart$Trays", .array (.byte), .object "FreckleChart$CoastText", .object "FreckleChart$YearsText", .object "FreckleChart$Pilot", .object "FreckleChart$Living", .array (.int), .object "FreckleChart$Coast", .object "FreckleChart$Coast", .array (.object "FreckleChart$Coast"), .int, .int, .int, .int, .int, .boolean],
  [.int, .int, .long, .long, .array (.int), .array (.int), .array (.long), .array (.byte), .int, .int, .int, .int, .int, .int, .int, .int, .int, .int, .int, .long, .array (.int), .array (.int), .array (.long), .int, .boolean, .boolean, .int, .array (.int), .int, .int, .array (.long), .array (.int), .boolean, .boolean, .int, .int, .int, .int, .int, .int, .int]]
def xty (t k : Nat) : FieldType := (xtyl.getD t []).getD k .int
def xkdl : List (List Nat) := [[0, 0, 0, 0, 2, 2, 2, 0, 2, 2, 2, 2, 2, 2, 2, 0, 0, 0, 2],
  [2, 0, 0],
  [1, 1, 2],
  [2, 2, 0, 0, 0, 0, 0, 0, 0],
  [2, 0, 2, 0, 0, 0],
  [2, 0, 0, 0, 0, 1, 0, 0, 0, 0],
  [2, 2, 2],
  [0, 0, 0, 2, 2, 2, 2, 2, 2],
  [2, 2, 0],
  [2, 2, 2, 2, 2, 2, 2, 2, 2, 2, 2, 0, 0, 0, 0, 0, 0],
  [0, 0, 1, 1, 2, 2, 2, 2, 0, 0, 0, 0, 0, 0, 0, 0, 0, 0, 0, 1, 2, 2, 2, 0, 0, 0, 0, 2, 0, 0, 2, 2, 0, 0, 0, 0, 0, 0, 0, 0, 0]]
/-- a field: 0 an int of a kind, 1 a long, 2 a reference -/
def xkd (t k : Nat) : Nat := (xkdl.getD t []).getD k 9
def xlyl : List (List Nat) := [[476, 478, 480, 482, 484, 486, 488, 490, 492, 494, 496, 498, 500, 502, 504, 506, 508, 510, 512],
  [263, 265, 267],
  [178, 180, 182],
  [339, 341, 343, 345, 347, 349, 351, 353, 355],
  [303, 305, 307, 309, 311, 313],
  [237, 239, 241, 243, 245, 247, 249, 251, 253, 255],
  [198, 200, 202],
  [395, 397, 399, 401, 403, 405, 407, 409, 411],
  [282, 284, 286],
  [533, 535, 537, 539, 541, 543, 545, 547, 549, 551, 553, 555, 557, 559, 561, 563, 565],
  [1418, 1420, 1422, 1424, 1426, 1428, 1430, 1432, 1434, 1436, 1438, 1440, 1442, 1444, 1446, 1448, 1450, 1452, 1454, 1456, 1458, 1460, 1462, 1464, 1466, 1468, 1470, 1472, 1474, 1476, 1478, 1480, 1482, 1484, 1486, 1488, 1490, 1492, 1494, 1496, 1498]]
def nfl : List Nat := [19, 3, 3, 9, 6, 10, 3, 9, 3, 17, 41]
def nfc (t : Nat) : Nat := nfl.getD t 0
/-- what an array of a kind holds -/
def xaty (t : Nat) : FieldType := match t with
  | 100 => .int
  | 101 => .long
  | 102 => .byte
  | 103 => .object "FreckleChart$Coast"
  | _ => .array .long
-- methods: name, code, locals, what it returns; the place of its code word
abbrev XM : Type := MethodName × ByteArray × Nat × Option FieldType
def mlkl : List Nat := [1, 1, 1, 1, 1, 1, 1, 1, 1, 1, 1, 2, 1, 1, 1, 1, 4, 5, 1, 2, 5, 6, 4, 3, 3, 4, 6, 6, 6, 3, 3, 2, 6, 3, 2, 2, 1, 1, 1, 2,
  5, 1, 1, 2, 1, 2, 2, 3, 2, 2, 1, 2, 2, 2, 3, 1, 2, 1, 2, 3, 3, 4, 4, 2, 7, 4, 6, 2, 2, 6, 7, 3, 2, 3, 2, 5, 2, 3, 1, 2,
  2, 2, 2, 2, 3, 9, 3, 2, 3, 2, 1, 5, 4, 5, 5, 3, 5, 2, 2, 1, 3, 3, 3, 3, 2, 2, 2, 4, 3, 3, 2, 4, 3, 4, 3, 3, 3, 6, 6, 6,
  2, 1, 4, 2, 4, 6, 3, 6, 2, 4, 1, 3, 5, 4, 4, 2, 2, 2, 5, 6, 7, 5, 9, 6, 4, 6, 4, 2, 4, 2, 5, 1, 6, 9, 2, 5, 7, 5, 3, 10,
  10, 2, 6, 3, 7, 6, 7, 7, 7, 7, 11, 4, 3, 2, 6, 4, 6, 4, 5, 3, 2, 4, 5, 3, 2, 6, 3, 1, 2, 2, 4, 1, 1, 1, 5, 2, 5, 4, 2, 3,
  3, 9, 6, 3, 2, 2, 3, 2, 2, 1, 1, 2, 1, 1, 8, 3, 1, 3, 4, 3, 1, 6, 2, 1, 4, 1, 1, 1, 4, 5, 1, 5, 1, 6, 1, 1, 1, 1, 1, 1,
  1, 1, 1, 1, 1, 3, 6, 2, 5, 7, 2, 2, 1, 4, 3, 5, 3, 3, 2, 1, 2, 2, 3, 3, 3, 2, 3, 2, 3, 2, 4, 2, 4, 3, 2, 3, 3, 2, 4, 3,
  3, 3, 3, 3, 3, 4, 5, 2, 6, 6, 4, 2, 1, 6, 8, 4, 4, 3, 1, 4, 4, 3, 2, 2, 5, 7, 6, 5, 6, 5, 5, 5, 4, 2, 3, 3, 2, 5, 2, 5,
  6, 3, 5, 9, 4, 4, 7, 9, 2, 10, 3, 2, 6, 9, 11, 2, 3, 2, 2, 2, 4, 5, 4, 3, 2, 2, 5, 2, 7, 1, 1, 4]
def mlk (k : Nat) : Nat := mlkl.getD k 0
def mck (k : Nat) : Nat := match k with
  | 0 => 64
  | 2 => 1
  | 3 => 7
  | 4 => 2
  | 5 => 1
  | 6 => 3
  | 7 => 2
  | 8 => 4
  | 9 => 17
  | 10 => 6
  | 187 => 18
  | 189 => 10
  | 351 => 600000
  | _ => 0
def msk (k : Nat) : Nat := match k with
  | 0 => 4156
  | 2 => 16
  | 3 => 252
  | 4 => 910
  | 5 => 900
  | 6 => 913
  | 7 => 61
  | 8 => 127
  | 9 => 452
  | 10 => 360
  | 187 => 471
  | 189 => 3027
  | 351 => 7302250
  | _ => 0
def xicl : List Nat := [163, 166, 171, 190, 210, 216, 274, 293, 320, 362, 368, 417, 421, 571, 575, 579, 583, 587, 590, 594, 598, 602, 606, 610, 613, 617, 623, 627, 634, 638,
  642, 646, 650, 654, 657, 660, 665, 669, 673, 677, 683, 687, 691, 697, 701, 704, 707, 712, 715, 718, 721, 725, 735, 739, 744, 748, 754, 759, 764, 769,
  773, 778, 783, 787, 791, 796, 800, 806, 811, 815, 819, 823, 827, 833, 838, 843, 847, 851, 855, 863, 867, 870, 876, 881, 885, 889, 897, 902, 906, 910,
  915, 930, 935, 941, 947, 953, 958, 964, 968, 972, 976, 979, 983, 989, 995, 999, 1003, 1007, 1012, 1016, 1020, 1024, 1029, 1034, 1040, 1044, 1048, 1053, 1057, 1061,
  1065, 1069, 1073, 1078, 1082, 1086, 1091, 1095, 1099, 1103, 1106, 1111, 1115, 1120, 1124, 1131, 1135, 1140, 1144, 1148, 1152, 1157, 1161, 1166, 1172, 1176, 1180, 1185, 1189, 1193,
  1197, 1202, 1206, 1210, 1213, 1217, 1221, 1225, 1230, 1235, 1239, 1246, 1249, 1253, 1256, 1261, 1265, 1269, 1273, 1278, 1281, 1285, 1289, 1294, 1298, 1304, 1308, 1312, 1321, 1329,
  1333, 1339, 1342, 1346, 1350, 1354, 1358, 1362, 1366, 1371, 1376, 1504, 1508, 1512, 1516, 1520, 1524, 1528, 1532, 1535, 1539, 1544, 1548, 1552, 1556, 1560, 1564, 1568, 1572, 1575,
  1580, 1584, 1588, 1592, 1595, 1599, 1603, 1607, 1611, 1615, 1619, 1622, 1626, 1630, 1634, 1638, 1642, 1646, 1650, 1654, 1658, 1662, 1666, 1670, 1674, 1678, 1682, 1686, 1690, 1694,
  1698, 1702, 1706, 1710, 1714, 1718, 1722, 1726, 1730, 1734, 1737, 1741, 1745, 1749, 1753, 1757, 1761, 1765, 1769, 1774, 1778, 1783, 1787, 1791, 1795, 1799, 1803, 1807, 1811, 1815,
  1820, 1824, 1828, 1832, 1836, 1842, 1847, 1852, 1856, 1860, 1864, 1868, 1871, 1875, 1879, 1883, 1887, 1891, 1896, 1900, 1904, 1908, 1912, 1917, 1921, 1925, 1929, 1933, 1936, 1940,
  1944, 1948, 1952, 1956, 1960, 1964, 1968, 1972, 1976, 1980, 1984, 1988, 1992, 1996, 2000, 2004, 2008, 2012, 2016, 2020, 2024, 2030, 2034, 2038, 2042, 2045, 2049, 2053, 2057, 2062,
  2066, 2070, 2074, 2079, 2083, 2086, 2090, 2094, 2098, 2103, 2107, 2111, 2115, 2119, 2123, 2127, 2132, 2136, 2140, 2144, 2148]
/-- hints: the places of a method's words, how many arguments, its kind (0 virtual, 1 static, 2 a constructor) -/
def xhl : List (Nat × Nat × Nat × Nat × Nat × Nat) := [(163, 141, 162, 0, 0, 2), (166, 0, 165, 0, 0, 2), (171, 142, 170, 0, 0, 2), (190, 143, 189, 0, 0, 2), (210, 144, 209, 0, 0, 2), (216, 145, 215, 0, 0, 2),
  (274, 146, 273, 0, 0, 2), (293, 147, 292, 0, 0, 2), (320, 148, 319, 0, 0, 2), (362, 149, 361, 0, 0, 2), (368, 150, 367, 0, 0, 2), (417, 149, 415, 416, 0, 0),
  (421, 150, 419, 420, 0, 0), (571, 141, 569, 570, 0, 0), (575, 141, 573, 574, 0, 0), (579, 141, 577, 578, 0, 0), (583, 141, 581, 582, 3, 0), (587, 143, 585, 586, 3, 0),
  (590, 143, 589, 0, 1, 1), (594, 141, 593, 0, 1, 0), (598, 141, 596, 597, 3, 0), (602, 143, 600, 601, 3, 0), (606, 143, 604, 605, 2, 0), (610, 143, 608, 609, 2, 0),
  (613, 143, 612, 0, 2, 1), (617, 141, 615, 616, 2, 0), (623, 141, 621, 622, 5, 0), (627, 143, 625, 626, 5, 0), (634, 141, 632, 633, 5, 0), (638, 141, 637, 1, 1, 0),
  (642, 141, 640, 641, 1, 0), (646, 141, 645, 2, 1, 0), (650, 144, 648, 649, 3, 0), (654, 145, 652, 653, 2, 0), (657, 153, 656, 0, 2, 1), (660, 153, 659, 0, 2, 1),
  (665, 145, 663, 664, 0, 0), (669, 145, 668, 3, 0, 0), (673, 145, 672, 4, 0, 0), (677, 145, 676, 5, 0, 0), (683, 145, 681, 682, 1, 0), (687, 154, 685, 686, 0, 0),
  (691, 154, 689, 690, 0, 0), (697, 154, 695, 696, 1, 0), (701, 154, 699, 700, 0, 0), (704, 155, 703, 0, 2, 1), (707, 154, 706, 0, 2, 1), (712, 156, 711, 0, 3, 1),
  (715, 157, 714, 0, 2, 1), (718, 157, 717, 0, 2, 1), (721, 157, 720, 0, 1, 1), (725, 157, 724, 0, 2, 1), (735, 144, 734, 6, 1, 0), (739, 145, 737, 738, 1, 0),
  (744, 145, 742, 743, 2, 0), (748, 145, 746, 747, 0, 0), (754, 145, 752, 753, 1, 0), (759, 145, 757, 758, 0, 0), (764, 144, 763, 7, 1, 0), (769, 144, 768, 8, 1, 0),
  (773, 149, 771, 772, 1, 0), (778, 149, 776, 777, 2, 0), (783, 144, 782, 9, 1, 0), (787, 145, 785, 786, 0, 0), (791, 145, 790, 0, 2, 1), (796, 149, 794, 795, 1, 0),
  (800, 144, 799, 10, 2, 0), (806, 149, 804, 805, 1, 0), (811, 149, 809, 810, 1, 0), (815, 149, 813, 814, 4, 0), (819, 149, 818, 11, 3, 0), (823, 144, 822, 12, 2, 0),
  (827, 149, 825, 826, 1, 0), (833, 149, 831, 832, 2, 0), (838, 149, 836, 837, 1, 0), (843, 144, 842, 13, 2, 0), (847, 149, 845, 846, 1, 0), (851, 149, 849, 850, 2, 0),
  (855, 158, 854, 0, 1, 1), (863, 141, 862, 14, 1, 0), (867, 149, 865, 866, 1, 0), (870, 149, 869, 0, 2, 1), (876, 150, 874, 875, 1, 0), (881, 141, 880, 15, 1, 0),
  (885, 141, 883, 884, 1, 0), (889, 146, 887, 888, 4, 0), (897, 146, 896, 16, 1, 0), (902, 150, 900, 901, 1, 0), (906, 150, 904, 905, 2, 0), (910, 150, 908, 909, 1, 0),
  (915, 146, 914, 17, 0, 0), (930, 146, 929, 18, 2, 0), (935, 146, 934, 19, 3, 0), (941, 146, 940, 20, 3, 0), (947, 146, 946, 21, 4, 0), (953, 146, 952, 22, 2, 0),
  (958, 146, 957, 23, 3, 0), (964, 141, 962, 963, 1, 0), (968, 141, 966, 967, 1, 0), (972, 149, 970, 971, 0, 0), (976, 141, 974, 975, 2, 0), (979, 141, 978, 0, 3, 1),
  (983, 141, 981, 982, 1, 0), (989, 141, 987, 988, 2, 0), (995, 141, 993, 994, 1, 0), (999, 149, 997, 998, 1, 0), (1003, 149, 1001, 1002, 1, 0), (1007, 141, 1005, 1006, 1, 0),
  (1012, 141, 1010, 1011, 2, 0), (1016, 149, 1014, 1015, 2, 0), (1020, 141, 1018, 1019, 1, 0), (1024, 149, 1022, 1023, 1, 0), (1029, 141, 1027, 1028, 2, 0), (1034, 141, 1032, 1033, 2, 0),
  (1040, 141, 1038, 1039, 1, 0), (1044, 149, 1042, 1043, 1, 0), (1048, 141, 1046, 1047, 2, 0), (1053, 141, 1051, 1052, 4, 0), (1057, 141, 1056, 24, 4, 0), (1061, 141, 1060, 25, 4, 0),
  (1065, 149, 1063, 1064, 1, 0), (1069, 149, 1067, 1068, 0, 0), (1073, 149, 1071, 1072, 1, 0), (1078, 149, 1076, 1077, 1, 0), (1082, 149, 1080, 1081, 1, 0), (1086, 147, 1084, 1085, 4, 0),
  (1091, 147, 1090, 26, 1, 0), (1095, 147, 1094, 27, 3, 0), (1099, 147, 1098, 28, 1, 0), (1103, 147, 1102, 29, 2, 0), (1106, 147, 1105, 0, 1, 1), (1111, 147, 1109, 1110, 2, 0),
  (1115, 147, 1113, 1114, 2, 0), (1120, 141, 1118, 1119, 3, 0), (1124, 149, 1122, 1123, 3, 0), (1131, 141, 1129, 1130, 1, 0), (1135, 141, 1133, 1134, 1, 0), (1140, 141, 1138, 1139, 1, 0),
  (1144, 141, 1142, 1143, 3, 0), (1148, 141, 1146, 1147, 4, 0), (1152, 141, 1150, 1151, 4, 0), (1157, 141, 1155, 1156, 3, 0), (1161, 141, 1160, 30, 3, 0), (1166, 147, 1164, 1165, 5, 0),
  (1172, 141, 1170, 1171, 3, 0), (1176, 141, 1174, 1175, 3, 0), (1180, 141, 1178, 1179, 1, 0), (1185, 141, 1183, 1184, 1, 0), (1189, 141, 1187, 1188, 2, 0), (1193, 141, 1191, 1192, 0, 0),
  (1197, 141, 1196, 31, 0, 0), (1202, 141, 1200, 1201, 0, 0), (1206, 141, 1204, 1205, 4, 0), (1210, 141, 1209, 32, 4, 0), (1213, 141, 1212, 0, 2, 1), (1217, 143, 1215, 1216, 2, 0),
  (1221, 149, 1219, 1220, 3, 0), (1225, 149, 1223, 1224, 2, 0), (1230, 149, 1228, 1229, 2, 0), (1235, 141, 1233, 1234, 5, 0), (1239, 141, 1237, 1238, 2, 0), (1246, 141, 1244, 1245, 1, 0),
  (1249, 141, 1248, 0, 3, 1), (1253, 149, 1251, 1252, 0, 0), (1256, 141, 1255, 0, 4, 1), (1261, 141, 1259, 1260, 1, 0), (1265, 141, 1263, 1264, 3, 0), (1269, 142, 1267, 1268, 3, 0),
  (1273, 142, 1272, 33, 2, 0), (1278, 142, 1276, 1277, 2, 0), (1281, 142, 1280, 0, 2, 1), (1285, 141, 1283, 1284, 2, 0), (1289, 141, 1287, 1288, 1, 0), (1294, 141, 1292, 1293, 1, 0),
  (1298, 148, 1296, 1297, 2, 0), (1304, 148, 1303, 34, 2, 0), (1308, 148, 1307, 35, 2, 0), (1312, 148, 1311, 36, 3, 0), (1321, 148, 1320, 37, 2, 0), (1329, 148, 1328, 38, 1, 0),
  (1333, 148, 1332, 39, 1, 0), (1339, 148, 1338, 40, 2, 0), (1342, 148, 1341, 0, 2, 1), (1346, 148, 1345, 0, 3, 1), (1350, 141, 1348, 1349, 1, 0), (1354, 141, 1352, 1353, 2, 0),
  (1358, 149, 1356, 1357, 0, 0), (1362, 141, 1360, 1361, 0, 0), (1366, 141, 1364, 1365, 0, 0), (1371, 151, 1370, 0, 0, 2), (1376, 151, 1375, 41, 1, 0), (1504, 151, 1502, 1503, 0, 0),
  (1508, 151, 1506, 1507, 0, 0), (1512, 151, 1510, 1511, 0, 0), (1516, 151, 1514, 1515, 3, 0), (1520, 151, 1519, 42, 1, 0), (1524, 151, 1522, 1523, 3, 0), (1528, 151, 1527, 43, 2, 0),
  (1532, 151, 1531, 44, 1, 0), (1535, 151, 1534, 0, 2, 1), (1539, 151, 1537, 1538, 2, 0), (1544, 151, 1542, 1543, 5, 0), (1548, 151, 1546, 1547, 5, 0), (1552, 151, 1551, 45, 1, 0),
  (1556, 151, 1554, 1555, 1, 0), (1560, 151, 1558, 1559, 1, 0), (1564, 151, 1563, 46, 2, 0), (1568, 151, 1567, 47, 0, 0), (1572, 151, 1571, 48, 1, 0), (1575, 151, 1574, 0, 1, 1),
  (1580, 151, 1579, 0, 1, 1), (1584, 151, 1583, 49, 1, 0), (1588, 151, 1587, 50, 0, 0), (1592, 151, 1591, 51, 0, 0), (1595, 151, 1594, 0, 6, 1), (1599, 151, 1598, 52, 1, 0),
  (1603, 151, 1602, 53, 0, 0), (1607, 151, 1606, 54, 2, 0), (1611, 151, 1610, 55, 2, 0), (1615, 151, 1614, 56, 2, 0), (1619, 151, 1618, 57, 0, 0), (1622, 151, 1621, 0, 3, 1),
  (1626, 151, 1625, 58, 1, 0), (1630, 151, 1629, 59, 0, 0), (1634, 151, 1633, 60, 3, 0), (1638, 151, 1637, 61, 0, 0), (1642, 151, 1641, 62, 0, 0), (1646, 151, 1645, 63, 0, 0),
  (1650, 151, 1649, 64, 0, 0), (1654, 151, 1653, 65, 2, 0), (1658, 151, 1657, 66, 0, 0), (1662, 151, 1661, 67, 3, 0), (1666, 151, 1665, 68, 0, 0), (1670, 151, 1669, 69, 0, 0),
  (1674, 151, 1673, 70, 0, 0), (1678, 151, 1677, 71, 0, 0), (1682, 151, 1681, 72, 0, 0), (1686, 151, 1685, 73, 0, 0), (1690, 151, 1689, 74, 0, 0), (1694, 151, 1693, 75, 0, 0),
  (1698, 151, 1697, 76, 0, 0), (1702, 151, 1701, 77, 0, 0), (1706, 151, 1705, 78, 0, 0), (1710, 151, 1709, 79, 0, 0), (1714, 151, 1713, 80, 0, 0), (1718, 151, 1717, 81, 1, 0),
  (1722, 151, 1721, 82, 4, 0), (1726, 151, 1725, 83, 1, 0), (1730, 151, 1729, 84, 1, 0), (1734, 151, 1733, 85, 3, 0), (1737, 151, 1736, 0, 2, 1), (1741, 151, 1740, 86, 1, 0),
  (1745, 151, 1744, 87, 0, 0), (1749, 151, 1748, 88, 2, 0), (1753, 151, 1751, 1752, 1, 0), (1757, 151, 1756, 89, 1, 0), (1761, 151, 1760, 90, 1, 0), (1765, 151, 1764, 91, 1, 0),
  (1769, 151, 1768, 92, 0, 0), (1774, 151, 1773, 93, 0, 0), (1778, 151, 1776, 1777, 1, 0), (1783, 151, 1782, 94, 1, 0), (1787, 151, 1786, 95, 0, 0), (1791, 151, 1790, 96, 0, 0),
  (1795, 151, 1793, 1794, 2, 0), (1799, 151, 1798, 97, 1, 0), (1803, 151, 1801, 1802, 1, 0), (1807, 151, 1806, 98, 1, 0), (1811, 151, 1809, 1810, 2, 0), (1815, 151, 1814, 99, 1, 0),
  (1820, 151, 1819, 100, 1, 0), (1824, 151, 1822, 1823, 1, 0), (1828, 151, 1827, 101, 1, 0), (1832, 151, 1830, 1831, 1, 0), (1836, 151, 1835, 102, 1, 0), (1842, 151, 1840, 1841, 2, 0),
  (1847, 151, 1846, 103, 2, 0), (1852, 151, 1850, 1851, 1, 0), (1856, 151, 1855, 104, 1, 0), (1860, 151, 1858, 1859, 2, 0), (1864, 151, 1863, 105, 2, 0), (1868, 151, 1866, 1867, 2, 0),
  (1871, 151, 1870, 0, 1, 1), (1875, 151, 1874, 106, 2, 0), (1879, 151, 1877, 1878, 1, 0), (1883, 151, 1881, 1882, 2, 0), (1887, 151, 1885, 1886, 3, 0), (1891, 151, 1889, 1890, 1, 0),
  (1896, 151, 1894, 1895, 4, 0), (1900, 151, 1899, 107, 4, 0), (1904, 151, 1903, 108, 3, 0), (1908, 151, 1907, 109, 1, 0), (1912, 151, 1911, 110, 0, 0), (1917, 151, 1916, 111, 4, 0),
  (1921, 151, 1920, 112, 3, 0), (1925, 151, 1924, 113, 1, 0), (1929, 151, 1928, 114, 1, 0), (1933, 151, 1932, 115, 2, 0), (1936, 153, 1935, 0, 1, 1), (1940, 151, 1939, 116, 2, 0),
  (1944, 151, 1943, 117, 2, 0), (1948, 151, 1947, 118, 1, 0), (1952, 151, 1950, 1951, 1, 0), (1956, 151, 1954, 1955, 1, 0), (1960, 151, 1958, 1959, 3, 0), (1964, 151, 1962, 1963, 4, 0),
  (1968, 151, 1966, 1967, 4, 0), (1972, 151, 1970, 1971, 3, 0), (1976, 151, 1975, 119, 3, 0), (1980, 151, 1979, 120, 4, 0), (1984, 151, 1982, 1983, 3, 0), (1988, 151, 1986, 1987, 3, 0),
  (1992, 151, 1990, 1991, 1, 0), (1996, 151, 1994, 1995, 1, 0), (2000, 151, 1998, 1999, 2, 0), (2004, 151, 2003, 121, 2, 0), (2008, 151, 2006, 2007, 0, 0), (2012, 151, 2011, 122, 0, 0),
  (2016, 151, 2014, 2015, 0, 0), (2020, 151, 2018, 2019, 4, 0), (2024, 151, 2023, 123, 4, 0), (2030, 151, 2029, 124, 2, 0), (2034, 151, 2033, 125, 2, 0), (2038, 151, 2037, 126, 4, 0),
  (2042, 151, 2041, 127, 3, 0), (2045, 151, 2044, 0, 4, 1), (2049, 151, 2047, 2048, 5, 0), (2053, 151, 2051, 2052, 2, 0), (2057, 151, 2055, 2056, 1, 0), (2062, 151, 2061, 128, 2, 0),
  (2066, 151, 2065, 129, 0, 0), (2070, 151, 2068, 2069, 1, 0), (2074, 151, 2072, 2073, 3, 0), (2079, 151, 2078, 130, 3, 0), (2083, 151, 2082, 131, 2, 0), (2086, 153, 2085, 0, 1, 1),
  (2090, 151, 2088, 2089, 2, 0), (2094, 151, 2092, 2093, 1, 0), (2098, 151, 2096, 2097, 1, 0), (2103, 151, 2102, 132, 1, 0), (2107, 151, 2106, 133, 2, 0), (2111, 151, 2110, 134, 1, 0),
  (2115, 151, 2114, 135, 1, 0), (2119, 151, 2118, 136, 2, 0), (2123, 151, 2122, 137, 0, 0), (2127, 151, 2126, 138, 1, 0), (2132, 151, 2131, 139, 1, 0), (2136, 151, 2134, 2135, 1, 0),
  (2140, 151, 2138, 2139, 2, 0), (2144, 151, 2142, 2143, 0, 0), (2148, 151, 2146, 2147, 0, 0)]
def xh (k : Nat) : Nat × Nat × Nat × Nat × Nat × Nat := xhl.getD k (0, 0, 0, 0, 0, 0)
def xkhl : List (Nat × Nat) := [(359, 149), (207, 144), (168, 142), (317, 148), (290, 147), (213, 145), (187, 143), (365, 150),
  (271, 146), (160, 141), (1368, 151)]
def xah : List Nat := [205, 185, 258]
def xch : List Nat := [630, 629, 152, 165, 166, 515, 193]
/-- a method, out of its code word -/
def xm (k : Nat) : XM := match lw_tbl[(xh k).1]? with
  | some (.code y b ml rt) => (y, b, ml, rt)
  | _ => (⟨"", "", ""⟩, code, 0, none)
def xmok (k : Nat) : Bool := match lw_tbl[(xh k).1]? with
  | some (.code _ _ _ _) => goodWord (.code (xm k).1 (xm k).2.1 (xm k).2.2.1 (xm k).2.2.2)
  | _ => false
theorem xm_in {k : Nat} (h : xmok k = true) : Cond.code (xm k).1 (xm k).2.1 (xm k).2.2.1 (xm k).2.2.2 ∈ xW := by
  unfold xmok at h
  split at h
  · rename_i y b ml rt hx
    refine List.mem_filter.mpr ⟨List.mem_of_getElem? (i := (xh k).1) ?_, h⟩
    rw [hx]
    unfold xm
    rw [hx]
  · cases h
-- switches: (number, where to) and else
def xswl : List (List (Int32 × Nat) × Nat) := [([(0, 28), (1, 33), (2, 38)], 42),
  ([(1, 88), (2, 119), (3, 132), (4, 132), (5, 140), (6, 132), (7, 171), (8, 245), (9, 245), (10, 232)], 245),
  ([(0, 52), (1, 64), (2, 76), (3, 88), (4, 100), (5, 112), (6, 124), (7, 136), (8, 148)], 160),
  ([(0, 60), (1, 74), (2, 88), (3, 102), (4, 116), (5, 137), (6, 151)], 165),
  ([(1, 72), (2, 82), (3, 97), (4, 105), (5, 113), (6, 130), (7, 145), (8, 152)], 158),
  ([(9, 48), (10, 53), (11, 92), (12, 69), (13, 69), (14, 69)], 92),
  ([(12, 64), (13, 83)], 101),
  ([(0, 256), (1, 269), (2, 283), (3, 297), (4, 340), (5, 413), (6, 447), (7, 510), (8, 573), (9, 596), (10, 619), (11, 642), (12, 665), (13, 698), (14, 721), (15, 754), (16, 777), (17, 800), (18, 833), (19, 856), (20, 905), (21, 938), (22, 961), (23, 994), (24, 1047), (25, 1090), (26, 1113), (27, 1136), (28, 1159), (29, 1202), (30, 1255), (31, 1308), (32, 1351), (33, 1394), (34, 1437), (35, 1460), (36, 1483), (37, 1516), (38, 1529), (39, 1542), (40, 1595), (41, 1658), (42, 1691), (43, 1714), (44, 1737), (45, 1780), (46, 1813), (47, 1836), (48, 1859), (49, 1882), (50, 1915), (51, 1928)], 1941)]
def xswt (b : Nat) : List (Int32 × Nat) × Nat := xswl.getD b ([], 0)
-- string constants
def xstl : List (String × Nat × String) := [("FreckleChart$CoastText", 38, "coast"),
  ("FreckleChart$CoastText", 90, "by"),
  ("FreckleChart$CoastText", 48, "odds"),
  ("FreckleChart$CoastText", 53, "rock"),
  ("FreckleChart$CoastText", 107, "deep"),
  ("FreckleChart$CoastText", 58, "cousin"),
  ("FreckleChart$Reader", 80, "coast by odds rock deep cousin at wide high tan veiled inked "),
  ("FreckleChart$Reader", 86, "sun rain veil bare ink wash sail any when shows loop end stop "),
  ("FreckleChart$CoastText", 132, "at"),
  ("FreckleChart$CoastText", 134, "wide"),
  ("FreckleChart$CoastText", 138, "high"),
  ("FreckleChart$CoastText", 149, "tan"),
  ("FreckleChart$CoastText", 155, "veiled"),
  ("FreckleChart$CoastText", 161, "inked"),
  ("FreckleChart$YearsText", 42, "end"),
  ("FreckleChart$YearsText", 92, "sun"),
  ("FreckleChart$YearsText", 94, "rain"),
  ("FreckleChart$YearsText", 96, "veil"),
  ("FreckleChart$YearsText", 98, "bare"),
  ("FreckleChart$YearsText", 100, "ink"),
  ("FreckleChart$YearsText", 102, "wash"),
  ("FreckleChart$YearsText", 104, "sail"),
  ("FreckleChart$YearsText", 106, "any"),
  ("FreckleChart$YearsText", 108, "when"),
  ("FreckleChart$YearsText", 110, "loop"),
  ("FreckleChart$YearsText", 112, "stop"),
  ("FreckleChart$YearsText", 144, "shows"),
  ("FreckleChart$YearsText", 146, "tan"),
  ("FreckleChart$YearsText", 152, "veiled")]
def xstb : List (List Nat) := [[99, 111, 97, 115, 116],
  [98, 121],
  [111, 100, 100, 115],
  [114, 111, 99, 107],
  [100, 101, 101, 112],
  [99, 111, 117, 115, 105, 110],
  [99, 111, 97, 115, 116, 32, 98, 121, 32, 111, 100, 100, 115, 32, 114, 111, 99, 107, 32, 100, 101, 101, 112, 32, 99, 111, 117, 115, 105, 110, 32, 97, 116, 32, 119, 105, 100, 101, 32, 104, 105, 103, 104, 32, 116, 97, 110, 32, 118, 101, 105, 108, 101, 100, 32, 105, 110, 107, 101, 100, 32],
  [115, 117, 110, 32, 114, 97, 105, 110, 32, 118, 101, 105, 108, 32, 98, 97, 114, 101, 32, 105, 110, 107, 32, 119, 97, 115, 104, 32, 115, 97, 105, 108, 32, 97, 110, 121, 32, 119, 104, 101, 110, 32, 115, 104, 111, 119, 115, 32, 108, 111, 111, 112, 32, 101, 110, 100, 32, 115, 116, 111, 112, 32],
  [97, 116],
  [119, 105, 100, 101],
  [104, 105, 103, 104],
  [116, 97, 110],
  [118, 101, 105, 108, 101, 100],
  [105, 110, 107, 101, 100],
  [101, 110, 100],
  [115, 117, 110],
  [114, 97, 105, 110],
  [118, 101, 105, 108],
  [98, 97, 114, 101],
  [105, 110, 107],
  [119, 97, 115, 104],
  [115, 97, 105, 108],
  [97, 110, 121],
  [119, 104, 101, 110],
  [108, 111, 111, 112],
  [115, 116, 111, 112],
  [115, 104, 111, 119, 115],
  [116, 97, 110],
  [118, 101, 105, 108, 101, 100]]
def strLen (i : Nat) : Nat := (xstb.getD i []).length
def strAt (i j : Nat) : Int32 := nI ((xstb.getD i []).getD j 0)
def va_AOA (ty : FieldType) (U : State) : Prop := (Cond.arrayOver (.array ty)).before #[] U = true
theorem va_AOA.use {ty : FieldType} {A : Array Value} {U : State} (h : va_AOA ty U) : (Cond.arrayOver (.array ty)).before A U = true := h
theorem va_AOA.spec {ty : FieldType} {U : State} (h : va_AOA ty U) : ∃ comp c k, U.vm.findClass (FieldType.array ty).toString = some comp ∧ (U.vm.classes.findIdx? fun (x : Class) => match x.kind with | .array component _ => component == comp | _ => false) = some c ∧ U.vm.classes[c]? = some k ∧ k.kind = .array comp (.array ty) ∧ U.vm.findClass ("[" ++ (FieldType.array ty).toString) = some c := by
  unfold va_AOA Cond.before at h
  simp only [Cond.holds, Cond.value, beq_iff_eq] at h
  cases hc : U.vm.findClass (FieldType.array ty).toString with
  | none => simp [hc] at h
  | some comp =>
    simp only [hc, Option.bind_some, Option.bind_eq_some_iff, Option.map_eq_some_iff] at h
    obtain ⟨c, hi, k, hk, hb⟩ := h
    obtain ⟨hlt, hp, -⟩ := Array.findIdx?_eq_some_iff_getElem.mp hi
    have hkk : U.vm.classes[c] = k := (Array.getElem?_eq_some_iff.mp hk).2
    rw [hkk] at hp
    cases hkind : k.kind with
    | array component ty =>
      rw [hkind] at hb hp
      simp at hb hp
      exact ⟨comp, c, k, rfl, hi, hk, by rw [hkind, hp, hb.1], hb.2⟩
    | _ => rw [hkind] at hb; simp at hb
theorem va_AOA.moved {ty : FieldType} {u U : State} (hvm : u.vm.Alike U.vm) (h : va_AOA ty u) : va_AOA ty U := by
  obtain ⟨comp, c, k, h1, h2, h3, h4, h5⟩ := h.spec
  obtain ⟨k', hk', he⟩ := hvm.2.2 _ _ h3
  have hi : (U.vm.classes.findIdx? fun (x : Class) => match x.kind with | .array component _ => component == comp | _ => false) = some c := by
    have e1 := va_idx_bare U.vm comp
    have e2 := va_idx_bare u.vm comp
    have e3 : U.vm.bare = u.vm.bare := by first | exact hvm.bare_eq | exact hvm.bare_eq.symm
    rw [e3] at e1
    exact e1.symm.trans (e2.trans h2)
  have hkind : k'.kind = .array comp (.array ty) := by rw [he]; exact h4
  have f1 : U.vm.findClass (FieldType.array ty).toString = some comp := by rw [hvm.findClass]; exact h1
  have f2 : U.vm.findClass ("[" ++ (FieldType.array ty).toString) = some c := by rw [hvm.findClass]; exact h5
  unfold va_AOA Cond.before Cond.holds
  simp only [Cond.value]
  rw [f1, Option.bind_some]
  refine (congrArg (fun o : Option Nat => (o.bind (fun c => (U.vm.classes[c]?).map fun (k : Class) => match k.kind with | .array _ ty' => decide (ty' = FieldType.array ty) && decide (U.vm.findClass ("[" ++ (FieldType.array ty).toString) = some c) | _ => false) == some true)) hi).trans ?_
  simp [hk', hkind, f2]

/-! ===== BEGIN new T[n][m]: the outer array a place, the inner ones among the pooled ===== -/
/-- f, but v at every address of l -/
def vr_up {α : Type} (f : Nat → α) (l : List Nat) (v : α) : Nat → α := fun a => if a ∈ l then v else f a
theorem vr_up_in {α : Type} {f : Nat → α} {l : List Nat} {v : α} {a : Nat} (h : a ∈ l) : vr_up f l v a = v := if_pos h
theorem vr_up_ne {α : Type} {f : Nat → α} {l : List Nat} {v : α} {a : Nat} (h : a ∉ l) : vr_up f l v a = f a := if_neg h
theorem vr_rows {L l : List Nat} {f : Nat → va_E} {e : va_E} (h : ∀ a, a ∈ l → a ∉ L) : va_pl L f ++ l.map (fun a => (a, e)) = va_pl (L ++ l) (vr_up f l e) := by
  unfold va_pl
  rw [List.map_append]
  congr 1
  · apply List.map_congr_left
    intro a ha
    rw [vr_up_ne (fun q => h a q ha)]
  · apply List.map_congr_left
    intro a ha
    rw [vr_up_in ha]
theorem vr_lay {X rows : va_W} {x : Nat × va_E} {pl : va_W} {D : va_G} {cl : List vw_C} {H : Heap} (hP : va_P D cl (((X ++ pl) ++ [x]) ++ rows) H) : va_P D cl ((X ++ [x]) ++ (pl ++ rows)) H := by
  rw [List.append_assoc (X ++ pl)] at hP
  have h := va_P.swap hP
  rw [← List.append_assoc X] at h
  have h2 := va_P.swap h
  rw [List.append_assoc (X ++ [x])] at h2
  exact h2
theorem vr_layD {X rows : va_W} {x : Nat × va_E} {pl : va_W} {A : Nat → Prop} (hD : va_D A (((X ++ pl) ++ [x]) ++ rows)) : va_D A ((X ++ [x]) ++ (pl ++ rows)) := by
  rw [List.append_assoc (X ++ pl)] at hD
  have h := va_D.swap hD
  rw [← List.append_assoc X] at h
  have h2 := va_D.swap h
  rw [List.append_assoc (X ++ [x])] at h2
  exact h2
theorem vr_outer (c : ClassId) (N h0 : Nat) : ∀ i : Nat, Jvm.Free.Multi.outerC c N h0 i = arrV c N (fun j => va_rf (if j < i then some (h0 + 1 + j) else none))
  | 0 => by
    show ({ cls := c, slots := Array.replicate N .null, vm := .none } : Cell) = _
    rw [arrV_new]
    refine congrArg (arrV c N) (funext fun j => ?_)
    simp [va_rf]
  | i + 1 => by
    show (Jvm.Free.Multi.outerC c N h0 i).setSlot i (.ref (h0 + 1 + i)) = _
    rw [vr_outer c N h0 i, arrV_store]
    refine congrArg (arrV c N) (funext fun j => ?_)
    by_cases e : j = i
    · subst e
      simp [updV, va_rf]
    · by_cases h : j < i
      · simp [updV, e, h, Nat.lt_succ_of_lt h]
      · simp [updV, e, h, show ¬ j < i + 1 by omega]
section VGM
variable {p : Program} {l : Launch} {e : Env} {R : Room} {s : State} {m : MethodId} {args : Array Value} {below : List Frame} {meth : Method} {c : Code} {H : Heap} {locs : List Loc} {cells slots : Nat} {Q : State → Prop}
variable {cc : ByteArray} {pc : Nat} {ls : Array Slot} {rest : List Value} {D : va_G} {cl : List vw_C} {A : Nat → Prop} {a : Nat} {tys : List (ClassId × FieldType)} {ws : va_W} {H0 : Heap}
theorem va_mna {X : va_W} {L : List Nat} {f : Nat → va_E} {cc : ByteArray} (hexec : p.tables.exec = Jvm.exec) (hb : c.code = cc) {own : String} {index : Nat} {ty : FieldType} {cy : ClassId} (hown : s.vm.findClass own = some m.cls) (hclink : (Cond.classLink own index ("[" ++ (FieldType.array ty).toString)).before args s = true) (hover : va_AOA ty s) (harr : (Cond.arrayClass ty).before args s = true) (hcy : s.vm.findClass (FieldType.array ty).toString = some cy)
    (hK : va_K D cl tys s) (hP : va_P D cl (X ++ va_pl L f) H) (hD : va_D A (X ++ va_pl L f)) (hS : va_S A H0 H locs) (hA : ∀ q, H0.size ≤ q → A q) {n k : Int32} {N' K' : Nat} {z : vp_A} (hn : ¬ n < 0) (hk : ¬ k < 0) (hN : n.toNatClampNeg = N') (hM : k.toNatClampNeg = K')
    (hb1 : N' * 4 ≤ 536870912) (hb2 : K' * componentBytes ty ≤ 536870912) (hb3 : K' ≤ 536870912) (hdf : fits ty (defaultValue ty) = true) (hdd : (defaultValue ty).isDefault = true) (hcells : cells + (1 + N') ≤ R.cells) (hslots : slots + (N' + N' * K') ≤ R.slots) (hz : ∀ c : ClassId, Jvm.Free.Multi.innerC c K' (defaultValue ty) = vp_cell c z) (hdg : decode cc pc = .ok (.multianewarray index 2, 4))
    (kk : ∀ (q : Nat) (r : Nat → Nat) (cA : ClassId) (H1 : Heap), (∀ i j : Nat, i < N' → j < N' → r i = r j → i = j) → (∀ i : Nat, i < N' → r i ∉ L) → va_K D cl (tys ++ [(cA, .array ty)]) s →
      va_P D cl ((X ++ [(q, .inl (cA, N', .inr (.inr (.inr (.inr (fun i => if i < N' then some (r i) else none))))))]) ++ va_pl (L ++ (List.range N').map r) (vr_up f ((List.range N').map r) (.inl (cy, z)))) H1 → va_D A ((X ++ [(q, .inl (cA, N', .inr (.inr (.inr (.inr (fun i => if i < N' then some (r i) else none))))))]) ++ va_pl (L ++ (List.range N').map r) (vr_up f ((List.range N').map r) (.inl (cy, z)))) → va_S A H0 H1 locs →
      W p l e R s m args below meth c H1 locs (cells + 1 + N') (slots + N' + N' * K') Q (F0 m (pc + 4) ls (.ref q :: rest))) : W p l e R s m args below meth c H locs cells slots Q (F0 m pc ls (.int k :: .int n :: rest)) := by
  subst hN
  subst hM
  intro T hT Xs
  obtain ⟨vm₁, cA, comp, -, fA, fC, hO, -, X', step⟩ := Xs.multianewarray2F hexec hown hclink (va_AOA.use hover) harr (g := F0 m pc ls (.int k :: .int n :: rest)) rfl (by rw [hb]; exact hdg) rfl hn hk hb1 hb2 hb3 hdf hdd hcells hslots
  have ec : some cy = some comp := hcy.symm.trans fC
  cases ec
  generalize hF : Jvm.Free.Multi.fill (T.setVm vm₁) cA cy n.toNatClampNeg k.toNatClampNeg (defaultValue ty) n.toNatClampNeg = F at X' step
  have hTh : (T.setVm vm₁).heap = H := hT
  obtain ⟨f1, f2, -, -⟩ := Jvm.Free.Multi.fill_facts (T.setVm vm₁) cA cy n.toNatClampNeg k.toNatClampNeg (defaultValue ty) n.toNatClampNeg
  rw [hF, hTh] at f1 f2
  have hold : ∀ x : Nat, x < H.size → F.heap[x]? = H[x]? := fun x hx => by
    have := Jvm.Free.Multi.fill_old (T.setVm vm₁) cA cy n.toNatClampNeg k.toNatClampNeg (defaultValue ty) (a := x) (by rw [hTh]; exact hx) n.toNatClampNeg
    rw [hF, hTh] at this
    exact this
  have hrow : ∀ j : Nat, j < n.toNatClampNeg → F.heap[H.size + 1 + j]? = some (vp_cell cy z) := fun j hj => by
    have := Jvm.Free.Multi.fill_inner (T.setVm vm₁) cA cy n.toNatClampNeg k.toNatClampNeg (defaultValue ty) n.toNatClampNeg j hj
    rw [hF, hTh, hz] at this
    exact this
  have hout : Jvm.Free.Multi.outerC cA n.toNatClampNeg H.size n.toNatClampNeg = vp_cell cA (n.toNatClampNeg, .inr (.inr (.inr (.inr (fun i => if i < n.toNatClampNeg then some (H.size + 1 + i) else none))))) := by
    rw [vp_cell_q]
    exact vr_outer cA n.toNatClampNeg H.size n.toNatClampNeg
  rw [hout] at f2
  have hlt : ∀ a, a ∈ L → a < H.size := fun a ha => by
    obtain ⟨k9, hk9⟩ := va_pl_get (X := X) (f := f) ha
    exact (hP k9 _ hk9).lt
  have hnl : ∀ i : Nat, i < n.toNatClampNeg → H.size + 1 + i ∉ L := fun i _ h => by
    have := hlt _ h
    omega
  have hnm : ∀ a, a ∈ (List.range n.toNatClampNeg).map (fun i => H.size + 1 + i) → a ∉ L := fun a ha h => by
    obtain ⟨i, -, rfl⟩ := List.mem_map.mp ha
    have := hlt _ h
    omega
  have hP0 : va_P D cl (X ++ va_pl L f) F.heap := hP.kept (fun k9 x hx => hold x.1 ((hP k9 x hx).lt))
  have hP1 : va_P D cl ((X ++ va_pl L f) ++ [(H.size, .inl (cA, n.toNatClampNeg, .inr (.inr (.inr (.inr (fun i => if i < n.toNatClampNeg then some (H.size + 1 + i) else none))))))]) F.heap := hP0.app (fun k9 x hx => by
    have h0 : k9 < 1 := (List.getElem?_eq_some_iff.mp hx).1
    rw [show k9 = 0 by omega] at hx
    cases hx
    exact f2)
  have hP2 : va_P D cl (((X ++ va_pl L f) ++ [(H.size, .inl (cA, n.toNatClampNeg, .inr (.inr (.inr (.inr (fun i => if i < n.toNatClampNeg then some (H.size + 1 + i) else none))))))]) ++ ((List.range n.toNatClampNeg).map (fun i => H.size + 1 + i)).map (fun a => (a, .inl (cy, z)))) F.heap := hP1.app (fun k9 x hx => by
    obtain ⟨a, ha, rfl⟩ := List.mem_map.mp (List.mem_of_getElem? hx)
    obtain ⟨i, hi, rfl⟩ := List.mem_map.mp ha
    exact hrow i (List.mem_range.mp hi))
  have hD2 : va_D A (((X ++ va_pl L f) ++ [(H.size, .inl (cA, n.toNatClampNeg, .inr (.inr (.inr (.inr (fun i => if i < n.toNatClampNeg then some (H.size + 1 + i) else none))))))]) ++ ((List.range n.toNatClampNeg).map (fun i => H.size + 1 + i)).map (fun a => (a, .inl (cy, z)))) := by
    have hD1 := hD.push (e := .inl (cA, n.toNatClampNeg, .inr (.inr (.inr (.inr (fun i => if i < n.toNatClampNeg then some (H.size + 1 + i) else none)))))) hP rfl (hA _ hS.1)
    generalize hW1 : (X ++ va_pl L f) ++ [(H.size, .inl (cA, n.toNatClampNeg, .inr (.inr (.inr (.inr (fun i => if i < n.toNatClampNeg then some (H.size + 1 + i) else none))))))] = W1 at hD1 hP1 ⊢
    have hle : ∀ (k9 : Nat) (x : Nat × va_E), W1[k9]? = some x → x.1 ≤ H.size := fun k9 x hx => by
      rw [← hW1] at hx
      by_cases hl : k9 < (X ++ va_pl L f).length
      · rw [List.getElem?_append_left hl] at hx
        exact Nat.le_of_lt ((hP k9 x hx).lt)
      · rw [List.getElem?_append_right (by omega)] at hx
        have h0 : k9 - (X ++ va_pl L f).length < 1 := (List.getElem?_eq_some_iff.mp hx).1
        rw [show k9 - (X ++ va_pl L f).length = 0 by omega] at hx
        cases hx
        exact Nat.le_refl _
    have hr : ∀ (k9 : Nat) (x : Nat × va_E), (((List.range n.toNatClampNeg).map (fun i => H.size + 1 + i)).map (fun a => ((a, .inl (cy, z)) : Nat × va_E)))[k9]? = some x → x.1 = H.size + 1 + k9 := fun k9 x hx => by
      rw [List.getElem?_map, List.getElem?_map] at hx
      by_cases h9 : k9 < n.toNatClampNeg
      · rw [List.getElem?_range h9] at hx
        cases hx
        rfl
      · have hn0 : (List.range n.toNatClampNeg)[k9]? = none := List.getElem?_eq_none (by rw [List.length_range]; omega)
        rw [hn0] at hx
        cases hx
    refine ⟨fun i j x y hi hj hxy => ?_, fun k9 x hx => ?_⟩
    · by_cases h1 : i < W1.length <;> by_cases h2 : j < W1.length
      · rw [List.getElem?_append_left h1] at hi
        rw [List.getElem?_append_left h2] at hj
        exact hD1.1 i j x y hi hj hxy
      · rw [List.getElem?_append_left h1] at hi
        rw [List.getElem?_append_right (by omega)] at hj
        have := hle _ _ hi
        have := hr _ _ hj
        omega
      · rw [List.getElem?_append_right (by omega)] at hi
        rw [List.getElem?_append_left h2] at hj
        have := hle _ _ hj
        have := hr _ _ hi
        omega
      · rw [List.getElem?_append_right (by omega)] at hi hj
        have := hr _ _ hi
        have := hr _ _ hj
        omega
    · by_cases h1 : k9 < W1.length
      · rw [List.getElem?_append_left h1] at hx
        exact hD1.2 k9 x hx
      · rw [List.getElem?_append_right (by omega)] at hx
        have := hr _ _ hx
        exact hA _ (by have := hS.1; omega)
  have hAr : ArrOfT s cA (.array ty) := fun N9 z9 => by
    obtain ⟨-, k9, hk9, cm9, hkk9⟩ := (hO 0 0 0).1
    exact ⟨(fun q hq => by cases hq), k9, hk9, cm9, hkk9⟩
  have hK2 : va_K D cl (tys ++ [(cA, .array ty)]) s := ⟨hK.1, fun k9 x hx => by
    by_cases hl : k9 < tys.length
    · rw [List.getElem?_append_left hl] at hx
      exact hK.2 k9 x hx
    · rw [List.getElem?_append_right (by omega)] at hx
      have h0 : k9 - tys.length < 1 := (List.getElem?_eq_some_iff.mp hx).1
      rw [show k9 - tys.length = 0 by omega] at hx
      cases hx
      exact ⟨hAr, fA⟩⟩
  obtain ⟨t, a1, b1⟩ := kk H.size (fun i => H.size + 1 + i) cA F.heap (fun i j _ _ h => by have h9 : H.size + 1 + i = H.size + 1 + j := h; omega) hnl hK2 (by rw [← vr_rows hnm]; exact vr_lay hP2) (by rw [← vr_rows hnm]; exact vr_layD hD2) ⟨by rw [f1]; have := hS.1; omega, fun x h1 h2 => (hold x (Nat.lt_of_lt_of_le h1 hS.1)).trans (hS.2.1 x h1 h2), hS.2.2⟩ F rfl X'
  refine ⟨t, step t ?_, b1⟩
  have e : T.heap.size = H.size := by rw [hT]
  rw [e]
  exact a1
end VGM
/-! ===== END ===== -/
end
section
/-! THE ABSTRACT MACHINE: its heap is (S, I, J, r): shapes, ints, longs, references; an address is a place in S. -/
abbrev XS : Type := List (Nat × Nat)
abbrev XI : Type := Nat → Nat → Int32
abbrev XJ : Type := Nat → Nat → Int64
abbrev XR : Type := Nat → Nat → Option Nat
abbrev XV : Type := List Value
abbrev XQ : Type := Option Value → XS → XI → XJ → XR → Prop
abbrev XK : Type := XV → XV → XS → XI → XJ → XR → Nat → Nat → Prop
abbrev XN : Type := Nat → XK
abbrev XC : Type := Nat → XV → XS → XI → XJ → XR → XQ → Prop
abbrev XO : Type := Nat × Nat × Nat × Nat × Nat × Nat × Nat × Nat × Int32 × Int64
def up2 {α : Type} (f : Nat → Nat → α) (a i : Nat) (v : α) : Nat → Nat → α := fun x y => if x = a then (if y = i then v else f x y) else f x y
def cp2 {α : Type} (f : Nat → Nat → α) (a sp b dp n : Nat) : Nat → Nat → α := fun x y => if x = b then (if dp ≤ y ∧ y < dp + n then f a (sp + (y - dp)) else f b y) else f x y
def isL2 : Value → Bool
  | .long _ => true
  | .double _ => true
  | _ => false
def lget (L : XV) (i : Nat) : Value := L.getD i (.float 0)
def lset1 (L : XV) (i : Nat) (v : Value) : XV := (if i = 0 then L else if isL2 (lget L (i - 1)) then L.set (i - 1) (.float 0) else L).set i v
def lset2 (L : XV) (i : Nat) (v : Value) : XV := (lset1 L i v).set (i + 1) (.float 0)
def xpd : XV → XV
  | [] => []
  | .long x :: vs => .long x :: .float 0 :: xpd vs
  | v :: vs => v :: xpd vs
def xent (args : XV) (n : Nat) : XV := xpd args ++ List.replicate (n - (xpd args).length) (.float 0)
def xsz : XV → Nat
  | [] => 0
  | v :: vs => v.category + xsz vs
def ibin (d : Nat) (x y : Int32) : Int32 := match d with
  | 0 => x + y
  | 1 => x - y
  | 2 => x * y
  | 3 => x &&& y
  | 4 => x ||| y
  | 5 => x ^^^ y
  | 6 => x <<< (y &&& 31)
  | 7 => x >>> (y &&& 31)
  | _ => (x.toUInt32 >>> (y.toUInt32 &&& Int32.toUInt32 31)).toInt32
def lbin (d : Nat) (x y : Int64) : Int64 := match d with
  | 0 => x + y
  | 1 => x - y
  | 2 => x * y
  | 3 => x &&& y
  | _ => x ||| y
def icnd (d : Nat) (x y : Int32) : Prop := match d with
  | 0 => x = y
  | 1 => ¬ x = y
  | 2 => x < y
  | 3 => y ≤ x
  | 4 => y < x
  | _ => x ≤ y
def xsw (nx : XN) (L st : XV) (S : XS) (I : XI) (J : XJ) (r : XR) (cu su : Nat) (x : Int32) (dflt : Nat) : List (Int32 × Nat) → Prop
  | [] => nx dflt L st S I J r cu su
  | (k, t) :: rest => (x = k → nx t L st S I J r cu su) ∧ (¬ x = k → xsw nx L st S I J r cu su x dflt rest)
/-- what one instruction asks: K is what comes behind it, nx where it may jump to, cl a call, Q the method's end; mc ms: what it may make -/
def xst (sc : Nat × (Nat → Int32)) (cl : XC) (nx : XN) (Q : XQ) (mc ms : Nat) (K : XK) : XO → XK
  | (op, _, a, b, d, _, n, e, z, w) => fun L st S I J r cu su => match op with
    | 0 => K L (.int z :: st) S I J r cu su
    | 1 => K L (.long w :: st) S I J r cu su
    | 2 => K L (.retAddr b :: st) S I J r cu su
    | 3 => K L (.null :: st) S I J r cu su
    | 4 => match lget L a with
      | .int x => K L (.int x :: st) S I J r cu su
      | _ => False
    | 5 => match lget L a with
      | .long x => K L (.long x :: st) S I J r cu su
      | _ => False
    | 6 => match lget L a with
      | .ref x => K L (.ref x :: st) S I J r cu su
      | .retAddr x => K L (.retAddr x :: st) S I J r cu su
      | _ => False
    | 7 => match st with
      | .int x :: st => K (lset1 L a (.int x)) st S I J r cu su
      | _ => False
    | 8 => match st with
      | .long x :: st => K (lset2 L a (.long x)) st S I J r cu su
      | _ => False
    | 9 => match st with
      | .ref x :: st => K (lset1 L a (.ref x)) st S I J r cu su
      | .null :: st => K (lset1 L a .null) st S I J r cu su
      | _ => False
    | 10 => match lget L a with
      | .int x => K (lset1 L a (.int (x + z))) st S I J r cu su
      | _ => False
    | 11 => match st with
      | .int y :: .int x :: st => K L (.int (ibin d x y) :: st) S I J r cu su
      | _ => False
    | 12 => match st with
      | .int y :: .int x :: st => ¬ y = 0 ∧ K L (.int (if d = 0 then x / y else x - x / y * y) :: st) S I J r cu su
      | _ => False
    | 13 => match st with
      | .int x :: st => K L (.int (-x) :: st) S I J r cu su
      | _ => False
    | 14 => match st with
      | .long y :: .long x :: st => K L (.long (lbin d x y) :: st) S I J r cu su
      | _ => False
    | 15 => match st with
      | .long y :: .long x :: st => ¬ y = 0 ∧ K L (.long (if d = 0 then x / y else x - x / y * y) :: st) S I J r cu su
      | _ => False
    | 16 => match st with
      | .int y :: .long x :: st => K L (.long (x <<< (y.toInt64 &&& 63)) :: st) S I J r cu su
      | _ => False
    | 17 => match d, st with
      | 0, .int x :: st => K L (.long x.toInt64 :: st) S I J r cu su
      | 1, .long x :: st => K L (.int x.toInt32 :: st) S I J r cu su
      | 2, .int x :: st => K L (.int x.toInt8.toInt32 :: st) S I J r cu su
      | 3, .int x :: st => K L (.int x.toInt16.toInt32 :: st) S I J r cu su
      | 4, .int x :: st => K L (.int (x.toUInt32 % 65536).toInt32 :: st) S I J r cu su
      | 5, .long x :: st => K L (.long (-x) :: st) S I J r cu su
      | _, _ => False
    | 18 => match st with
      | .long y :: .long x :: st => K L (.int (lg_cmp x y) :: st) S I J r cu su
      | _ => False
    | 19 => match st with
      | v :: st => v.category = 1 ∧ K L (v :: v :: st) S I J r cu su
      | _ => False
    | 20 => match st with
      | v :: u :: st => v.category = 1 ∧ u.category = 1 ∧ K L (v :: u :: v :: u :: st) S I J r cu su
      | _ => False
    | 21 => match st with
      | v :: st => v.category = 1 ∧ K L st S I J r cu su
      | _ => False
    | 22 => match st with
      | .int x :: st => (icnd d x 0 → nx a L st S I J r cu su) ∧ (¬ icnd d x 0 → K L st S I J r cu su)
      | _ => False
    | 23 => match st with
      | .int y :: .int x :: st => (icnd d x y → nx a L st S I J r cu su) ∧ (¬ icnd d x y → K L st S I J r cu su)
      | _ => False
    | 24 => nx a L st S I J r cu su
    | 25 => match d, st with
      | 0, .null :: st => nx a L st S I J r cu su
      | 0, .ref _ :: st => K L st S I J r cu su
      | 1, .null :: st => K L st S I J r cu su
      | 1, .ref _ :: st => nx a L st S I J r cu su
      | _, _ => False
    | 26 => match st with
      | .int x :: st => xsw nx L st S I J r cu su x (xswt b).2 (xswt b).1
      | _ => False
    | 27 => match d, st with
      | 0, [.int x] => Q (some (.int x)) S I J r
      | 1, [.int x] => (x = 0 ∨ x = 1) ∧ Q (some (.int x)) S I J r
      | 2, [.long x] => Q (some (.long x)) S I J r
      | 3, [] => Q none S I J r
      | 4, [.int x] => x.toInt8.toInt32 = x ∧ Q (some (.int x)) S I J r
      | 5, [.int x] => x.toUInt32.toUInt16.toUInt32.toInt32 = x ∧ Q (some (.int x)) S I J r
      | _, _ => False
    | 28 => cu + 1 ≤ mc ∧ su + nfc b ≤ ms ∧ K L (.ref S.length :: st) (S ++ [(b, 0)]) (fun q k => if q = S.length then 0 else I q k) (fun q k => if q = S.length then 0 else J q k) (fun q k => if q = S.length then none else r q k) (cu + 1) (su + nfc b)
    | 29 => match st with
      | .int n :: st => 0 ≤ n ∧ n.toNatClampNeg ≤ 4000 ∧ cu + 1 ≤ mc ∧ su + n.toNatClampNeg ≤ ms ∧ K L (.ref S.length :: st) (S ++ [(b, n.toNatClampNeg)]) (fun q k => if q = S.length then 0 else I q k) (fun q k => if q = S.length then 0 else J q k) (fun q k => if q = S.length then none else r q k) (cu + 1) (su + n.toNatClampNeg)
      | _ => False
    | 30 => match st with
      | .int n :: st => 0 ≤ n ∧ n.toNatClampNeg ≤ 4000 ∧ cu + 1 ≤ mc ∧ su + n.toNatClampNeg ≤ ms ∧ K L (.ref S.length :: st) (S ++ [(103, n.toNatClampNeg)]) (fun q k => if q = S.length then 0 else I q k) (fun q k => if q = S.length then 0 else J q k) (fun q k => if q = S.length then none else r q k) (cu + 1) (su + n.toNatClampNeg)
      | _ => False
    | 31 => match st with
      | .int k :: .int n :: st => (∃ q n1 : Nat, S[q]? = some (101, n1)) ∧ n = 4 ∧ k = 60 ∧ cu + 5 ≤ mc ∧ su + 244 ≤ ms ∧ K L (.ref S.length :: st) (S ++ [(104, 4), (101, 60), (101, 60), (101, 60), (101, 60)]) (fun q k => if S.length ≤ q then 0 else I q k) (fun q k => if S.length ≤ q then 0 else J q k) (fun q k => if q = S.length then (if k < 4 then some (S.length + 1 + k) else none) else if S.length < q then none else r q k) (cu + 5) (su + 244)
      | _ => False
    | 32 => match st with
      | .ref q :: st => ∃ t n : Nat, S[q]? = some (t, n) ∧ 100 ≤ t ∧ K L (.int (nI n) :: st) S I J r cu su
      | _ => False
    | 33 => match st with
      | .int i :: .ref q :: st => ∃ n : Nat, S[q]? = some (100, n) ∧ vp_in i n ∧ K L (.int (I q i.toNatClampNeg) :: st) S I J r cu su
      | _ => False
    | 34 => match st with
      | .int x :: .int i :: .ref q :: st => ∃ n : Nat, S[q]? = some (100, n) ∧ vp_in i n ∧ K L st S (up2 I q i.toNatClampNeg x) J r cu su
      | _ => False
    | 35 => match st with
      | .int i :: .ref q :: st => ∃ n : Nat, S[q]? = some (101, n) ∧ vp_in i n ∧ K L (.long (J q i.toNatClampNeg) :: st) S I J r cu su
      | _ => False
    | 36 => match st with
      | .long x :: .int i :: .ref q :: st => ∃ n : Nat, S[q]? = some (101, n) ∧ vp_in i n ∧ K L st S I (up2 J q i.toNatClampNeg x) r cu su
      | _ => False
    | 37 => match st with
      | .int i :: .ref q :: st => ∃ n : Nat, S[q]? = some (102, n) ∧ vp_in i n ∧ K L (.int (I q i.toNatClampNeg) :: st) S I J r cu su
      | _ => False
    | 38 => match st with
      | .int x :: .int i :: .ref q :: st => ∃ n : Nat, S[q]? = some (102, n) ∧ vp_in i n ∧ K L st S (up2 I q i.toNatClampNeg x.toInt8.toInt32) J r cu su
      | _ => False
    | 39 => match st with
      | .int i :: .ref q :: st => ∃ t n : Nat, S[q]? = some (t, n) ∧ 103 ≤ t ∧ vp_in i n ∧ K L (va_rf (r q i.toNatClampNeg) :: st) S I J r cu su
      | _ => False
    | 40 => match st with
      | .ref v :: .int i :: .ref q :: st => ∃ n : Nat, S[q]? = some (103, n) ∧ S[v]? = some (0, 0) ∧ vp_in i n ∧ K L st S I J (up2 r q i.toNatClampNeg (some v)) cu su
      | _ => False
    | 42 => match st with
      | .ref q :: st => S[q]? = some (b, 0) ∧ K L (.int (I q d) :: st) S I J r cu su
      | _ => False
    | 43 => match st with
      | .ref q :: st => S[q]? = some (b, 0) ∧ K L (.long (J q d) :: st) S I J r cu su
      | _ => False
    | 44 => match st with
      | .ref q :: st => S[q]? = some (b, 0) ∧ K L (va_rf (r q d) :: st) S I J r cu su
      | _ => False
    | 45 => match st with
      | .int x :: .ref q :: st => S[q]? = some (b, 0) ∧ K L st S (up2 I q d x) J r cu su
      | _ => False
    | 46 => match st with
      | .long x :: .ref q :: st => S[q]? = some (b, 0) ∧ K L st S I (up2 J q d x) r cu su
      | _ => False
    | 47 => match st with
      | .ref x :: .ref q :: st => S[q]? = some (b, 0) ∧ K L st S I J (up2 r q d (some x)) cu su
      | _ => False
    | 48 => n ≤ st.length ∧ xsz (st.drop n) ≤ 8 ∧ (d = 1 ∨ ∃ (q : Nat) (As : XV), (st.take n).reverse = .ref q :: As ∧ S[q]? = some (e, 0)) ∧
        cl b (st.take n).reverse S I J r (fun v S I J r => K L (v.toList ++ st.drop n) S I J r cu su)
    | 49 => match st with
      | .ref q :: st => xsz st ≤ 8 ∧ K L st S I J r cu su
      | _ => False
    | 50 => match st with
      | .int n :: .int dp :: .ref q1 :: .int sp :: .ref q0 :: st => xsz st ≤ 8 ∧ ∃ n0 n1 : Nat, S[q0]? = some (100 + d, n0) ∧ S[q1]? = some (100 + d, n1) ∧ 0 ≤ sp ∧ 0 ≤ dp ∧ 0 ≤ n ∧ sp.toNatClampNeg + n.toNatClampNeg ≤ n0 ∧ dp.toNatClampNeg + n.toNatClampNeg ≤ n1 ∧
          K L st S (if d = 1 then I else cp2 I q0 sp.toNatClampNeg q1 dp.toNatClampNeg n.toNatClampNeg) (if d = 1 then cp2 J q0 sp.toNatClampNeg q1 dp.toNatClampNeg n.toNatClampNeg else J) r cu su
      | _ => False
    | 51 => match st with
      | .retAddr i :: st => i < 29 ∧ K L (.retAddr (1000 + i) :: st) S I J r cu su
      | _ => False
    | 52 => match st with
      | .retAddr i :: st => i < 29 ∧ K L (.int 0 :: st) S I J r cu su
      | _ => False
    | 53 => match st with
      | .retAddr i :: st => i = 3000 ∧ K L (.int (nI sc.1) :: st) S I J r cu su
      | _ => False
    | 54 => match st with
      | .int j :: .retAddr i :: st => i = 3000 ∧ vp_in j sc.1 ∧ K L (.int (sc.2 j.toNatClampNeg) :: st) S I J r cu su
      | _ => False
    | 55 => cu + mck b ≤ mc ∧ su + msk b ≤ ms ∧ n ≤ st.length ∧ xsz (st.drop n) ≤ 8 ∧ (d = 1 ∨ ∃ (q : Nat) (As : XV), (st.take n).reverse = .ref q :: As ∧ S[q]? = some (e, 0)) ∧
        cl b (st.take n).reverse S I J r (fun v S I J r => K L (v.toList ++ st.drop n) S I J r (cu + mck b) (su + msk b))
    | 56 => match st with
      | .retAddr i :: st => 1000 ≤ i ∧ i < 1029 ∧ K L (.int (nI (strLen (i - 1000))) :: st) S I J r cu su
      | _ => False
    | 57 => match st with
      | .int j :: .retAddr i :: st => 1000 ≤ i ∧ i < 1029 ∧ vp_in j (strLen (i - 1000)) ∧ K L (.int (strAt (i - 1000) j.toNatClampNeg) :: st) S I J r cu su
      | _ => False
    | 58 => K L (.int 1 :: st) S I J r cu su
    | 59 => K L (.retAddr 2000 :: st) S I J r cu su
    | 60 => n ≤ st.length ∧ xsz (st.drop n) ≤ 8 ∧ (∃ (i : Nat) (As : XV), (st.take n).reverse = .retAddr i :: As ∧ i < 29) ∧
        cl b (st.take n).reverse S I J r (fun v S I J r => K L (v.toList ++ st.drop n) S I J r cu su)
    | 61 => match st with
      | .int x :: .ref q :: st => (x = 0 ∨ x = 1) ∧ S[q]? = some (b, 0) ∧ K L st S (up2 I q d x) J r cu su
      | _ => False
    | _ => False
def xwp (sc : Nat × (Nat → Int32)) (cl : XC) (nx : XN) (Q : XQ) (mc ms : Nat) : List XO → XK
  | [] => fun _ _ _ _ _ _ _ _ => False
  | i :: is => xst sc cl nx Q mc ms (xwp sc cl nx Q mc ms is) i
theorem o_0 {sc : Nat × (Nat → Int32)} {cl : XC} {nx : XN} {Q : XQ} {mc ms : Nat} {K : XK} {l a b d h n e : Nat} {z : Int32} {w : Int64} {L st : XV} {S : XS} {I : XI} {J : XJ} {r : XR} {cu su : Nat} : xst sc cl nx Q mc ms K (0, l, a, b, d, h, n, e, z, w) L st S I J r cu su = (K L (.int z :: st) S I J r cu su) := rfl
theorem o_1 {sc : Nat × (Nat → Int32)} {cl : XC} {nx : XN} {Q : XQ} {mc ms : Nat} {K : XK} {l a b d h n e : Nat} {z : Int32} {w : Int64} {L st : XV} {S : XS} {I : XI} {J : XJ} {r : XR} {cu su : Nat} : xst sc cl nx Q mc ms K (1, l, a, b, d, h, n, e, z, w) L st S I J r cu su = (K L (.long w :: st) S I J r cu su) := rfl
theorem o_2 {sc : Nat × (Nat → Int32)} {cl : XC} {nx : XN} {Q : XQ} {mc ms : Nat} {K : XK} {l a b d h n e : Nat} {z : Int32} {w : Int64} {L st : XV} {S : XS} {I : XI} {J : XJ} {r : XR} {cu su : Nat} : xst sc cl nx Q mc ms K (2, l, a, b, d, h, n, e, z, w) L st S I J r cu su = (K L (.retAddr b :: st) S I J r cu su) := rfl
theorem o_3 {sc : Nat × (Nat → Int32)} {cl : XC} {nx : XN} {Q : XQ} {mc ms : Nat} {K : XK} {l a b d h n e : Nat} {z : Int32} {w : Int64} {L st : XV} {S : XS} {I : XI} {J : XJ} {r : XR} {cu su : Nat} : xst sc cl nx Q mc ms K (3, l, a, b, d, h, n, e, z, w) L st S I J r cu su = (K L (.null :: st) S I J r cu su) := rfl
theorem o_4 {sc : Nat × (Nat → Int32)} {cl : XC} {nx : XN} {Q : XQ} {mc ms : Nat} {K : XK} {l a b d h n e : Nat} {z : Int32} {w : Int64} {L st : XV} {S : XS} {I : XI} {J : XJ} {r : XR} {cu su : Nat} : xst sc cl nx Q mc ms K (4, l, a, b, d, h, n, e, z, w) L st S I J r cu su = (match lget L a with
      | .int x => K L (.int x :: st) S I J r cu su
      | _ => False) := rfl
theorem o_5 {sc : Nat × (Nat → Int32)} {cl : XC} {nx : XN} {Q : XQ} {mc ms : Nat} {K : XK} {l a b d h n e : Nat} {z : Int32} {w : Int64} {L st : XV} {S : XS} {I : XI} {J : XJ} {r : XR} {cu su : Nat} : xst sc cl nx Q mc ms K (5, l, a, b, d, h, n, e, z, w) L st S I J r cu su = (match lget L a with
      | .long x => K L (.long x :: st) S I J r cu su
      | _ => False) := rfl
theorem o_6 {sc : Nat × (Nat → Int32)} {cl : XC} {nx : XN} {Q : XQ} {mc ms : Nat} {K : XK} {l a b d h n e : Nat} {z : Int32} {w : Int64} {L st : XV} {S : XS} {I : XI} {J : XJ} {r : XR} {cu su : Nat} : xst sc cl nx Q mc ms K (6, l, a, b, d, h, n, e, z, w) L st S I J r cu su = (match lget L a with
      | .ref x => K L (.ref x :: st) S I J r cu su
      | .retAddr x => K L (.retAddr x :: st) S I J r cu su
      | _ => False) := rfl
theorem o_7 {sc : Nat × (Nat → Int32)} {cl : XC} {nx : XN} {Q : XQ} {mc ms : Nat} {K : XK} {l a b d h n e : Nat} {z : Int32} {w : Int64} {L st : XV} {S : XS} {I : XI} {J : XJ} {r : XR} {cu su : Nat} {x : Int32} : xst sc cl nx Q mc ms K (7, l, a, b, d, h, n, e, z, w) L (.int x :: st) S I J r cu su = (K (lset1 L a (.int x)) st S I J r cu su) := rfl
theorem o_8 {sc : Nat × (Nat → Int32)} {cl : XC} {nx : XN} {Q : XQ} {mc ms : Nat} {K : XK} {l a b d h n e : Nat} {z : Int32} {w : Int64} {L st : XV} {S : XS} {I : XI} {J : XJ} {r : XR} {cu su : Nat} {x : Int64} : xst sc cl nx Q mc ms K (8, l, a, b, d, h, n, e, z, w) L (.long x :: st) S I J r cu su = (K (lset2 L a (.long x)) st S I J r cu su) := rfl
theorem o_9 {sc : Nat × (Nat → Int32)} {cl : XC} {nx : XN} {Q : XQ} {mc ms : Nat} {K : XK} {l a b d h n e : Nat} {z : Int32} {w : Int64} {L st : XV} {S : XS} {I : XI} {J : XJ} {r : XR} {cu su : Nat} {x : Nat} : xst sc cl nx Q mc ms K (9, l, a, b, d, h, n, e, z, w) L (.ref x :: st) S I J r cu su = (K (lset1 L a (.ref x)) st S I J r cu su) := rfl
theorem o_9n {sc : Nat × (Nat → Int32)} {cl : XC} {nx : XN} {Q : XQ} {mc ms : Nat} {K : XK} {l a b d h n e : Nat} {z : Int32} {w : Int64} {L st : XV} {S : XS} {I : XI} {J : XJ} {r : XR} {cu su : Nat}  : xst sc cl nx Q mc ms K (9, l, a, b, d, h, n, e, z, w) L (.null :: st) S I J r cu su = (K (lset1 L a .null) st S I J r cu su) := rfl
theorem o_10 {sc : Nat × (Nat → Int32)} {cl : XC} {nx : XN} {Q : XQ} {mc ms : Nat} {K : XK} {l a b d h n e : Nat} {z : Int32} {w : Int64} {L st : XV} {S : XS} {I : XI} {J : XJ} {r : XR} {cu su : Nat} : xst sc cl nx Q mc ms K (10, l, a, b, d, h, n, e, z, w) L st S I J r cu su = (match lget L a with
      | .int x => K (lset1 L a (.int (x + z))) st S I J r cu su
      | _ => False) := rfl
theorem o_11 {sc : Nat × (Nat → Int32)} {cl : XC} {nx : XN} {Q : XQ} {mc ms : Nat} {K : XK} {l a b d h n e : Nat} {z : Int32} {w : Int64} {L st : XV} {S : XS} {I : XI} {J : XJ} {r : XR} {cu su : Nat} {y : Int32} {x : Int32} : xst sc cl nx Q mc ms K (11, l, a, b, d, h, n, e, z, w) L (.int y :: .int x :: st) S I J r cu su = (K L (.int (ibin d x y) :: st) S I J r cu su) := rfl
theorem o_12 {sc : Nat × (Nat → Int32)} {cl : XC} {nx : XN} {Q : XQ} {mc ms : Nat} {K : XK} {l a b d h n e : Nat} {z : Int32} {w : Int64} {L st : XV} {S : XS} {I : XI} {J : XJ} {r : XR} {cu su : Nat} {y : Int32} {x : Int32} : xst sc cl nx Q mc ms K (12, l, a, b, d, h, n, e, z, w) L (.int y :: .int x :: st) S I J r cu su = (¬ y = 0 ∧ K L (.int (if d = 0 then x / y else x - x / y * y) :: st) S I J r cu su) := rfl
theorem o_13 {sc : Nat × (Nat → Int32)} {cl : XC} {nx : XN} {Q : XQ} {mc ms : Nat} {K : XK} {l a b d h n e : Nat} {z : Int32} {w : Int64} {L st : XV} {S : XS} {I : XI} {J : XJ} {r : XR} {cu su : Nat} {x : Int32} : xst sc cl nx Q mc ms K (13, l, a, b, d, h, n, e, z, w) L (.int x :: st) S I J r cu su = (K L (.int (-x) :: st) S I J r cu su) := rfl
theorem o_14 {sc : Nat × (Nat → Int32)} {cl : XC} {nx : XN} {Q : XQ} {mc ms : Nat} {K : XK} {l a b d h n e : Nat} {z : Int32} {w : Int64} {L st : XV} {S : XS} {I : XI} {J : XJ} {r : XR} {cu su : Nat} {y : Int64} {x : Int64} : xst sc cl nx Q mc ms K (14, l, a, b, d, h, n, e, z, w) L (.long y :: .long x :: st) S I J r cu su = (K L (.long (lbin d x y) :: st) S I J r cu su) := rfl
theorem o_15 {sc : Nat × (Nat → Int32)} {cl : XC} {nx : XN} {Q : XQ} {mc ms : Nat} {K : XK} {l a b d h n e : Nat} {z : Int32} {w : Int64} {L st : XV} {S : XS} {I : XI} {J : XJ} {r : XR} {cu su : Nat} {y : Int64} {x : Int64} : xst sc cl nx Q mc ms K (15, l, a, b, d, h, n, e, z, w) L (.long y :: .long x :: st) S I J r cu su = (¬ y = 0 ∧ K L (.long (if d = 0 then x / y else x - x / y * y) :: st) S I J r cu su) := rfl
theorem o_16 {sc : Nat × (Nat → Int32)} {cl : XC} {nx : XN} {Q : XQ} {mc ms : Nat} {K : XK} {l a b d h n e : Nat} {z : Int32} {w : Int64} {L st : XV} {S : XS} {I : XI} {J : XJ} {r : XR} {cu su : Nat} {y : Int32} {x : Int64} : xst sc cl nx Q mc ms K (16, l, a, b, d, h, n, e, z, w) L (.int y :: .long x :: st) S I J r cu su = (K L (.long (x <<< (y.toInt64 &&& 63)) :: st) S I J r cu su) := rfl
theorem o_17_0 {sc : Nat × (Nat → Int32)} {cl : XC} {nx : XN} {Q : XQ} {mc ms : Nat} {K : XK} {l a b h n e : Nat} {z : Int32} {w : Int64} {L st : XV} {S : XS} {I : XI} {J : XJ} {r : XR} {cu su : Nat} {x : Int32} : xst sc cl nx Q mc ms K (17, l, a, b, 0, h, n, e, z, w) L (.int x :: st) S I J r cu su = (K L (.long x.toInt64 :: st) S I J r cu su) := rfl
theorem o_17_1 {sc : Nat × (Nat → Int32)} {cl : XC} {nx : XN} {Q : XQ} {mc ms : Nat} {K : XK} {l a b h n e : Nat} {z : Int32} {w : Int64} {L st : XV} {S : XS} {I : XI} {J : XJ} {r : XR} {cu su : Nat} {x : Int64} : xst sc cl nx Q mc ms K (17, l, a, b, 1, h, n, e, z, w) L (.long x :: st) S I J r cu su = (K L (.int x.toInt32 :: st) S I J r cu su) := rfl
theorem o_17_2 {sc : Nat × (Nat → Int32)} {cl : XC} {nx : XN} {Q : XQ} {mc ms : Nat} {K : XK} {l a b h n e : Nat} {z : Int32} {w : Int64} {L st : XV} {S : XS} {I : XI} {J : XJ} {r : XR} {cu su : Nat} {x : Int32} : xst sc cl nx Q mc ms K (17, l, a, b, 2, h, n, e, z, w) L (.int x :: st) S I J r cu su = (K L (.int x.toInt8.toInt32 :: st) S I J r cu su) := rfl
theorem o_17_3 {sc : Nat × (Nat → Int32)} {cl : XC} {nx : XN} {Q : XQ} {mc ms : Nat} {K : XK} {l a b h n e : Nat} {z : Int32} {w : Int64} {L st : XV} {S : XS} {I : XI} {J : XJ} {r : XR} {cu su : Nat} {x : Int32} : xst sc cl nx Q mc ms K (17, l, a, b, 3, h, n, e, z, w) L (.int x :: st) S I J r cu su = (K L (.int x.toInt16.toInt32 :: st) S I J r cu su) := rfl
theorem o_17_4 {sc : Nat × (Nat → Int32)} {cl : XC} {nx : XN} {Q : XQ} {mc ms : Nat} {K : XK} {l a b h n e : Nat} {z : Int32} {w : Int64} {L st : XV} {S : XS} {I : XI} {J : XJ} {r : XR} {cu su : Nat} {x : Int32} : xst sc cl nx Q mc ms K (17, l, a, b, 4, h, n, e, z, w) L (.int x :: st) S I J r cu su = (K L (.int (x.toUInt32 % 65536).toInt32 :: st) S I J r cu su) := rfl
theorem o_17_5 {sc : Nat × (Nat → Int32)} {cl : XC} {nx : XN} {Q : XQ} {mc ms : Nat} {K : XK} {l a b h n e : Nat} {z : Int32} {w : Int64} {L st : XV} {S : XS} {I : XI} {J : XJ} {r : XR} {cu su : Nat} {x : Int64} : xst sc cl nx Q mc ms K (17, l, a, b, 5, h, n, e, z, w) L (.long x :: st) S I J r cu su = (K L (.long (-x) :: st) S I J r cu su) := rfl
theorem o_18 {sc : Nat × (Nat → Int32)} {cl : XC} {nx : XN} {Q : XQ} {mc ms : Nat} {K : XK} {l a b d h n e : Nat} {z : Int32} {w : Int64} {L st : XV} {S : XS} {I : XI} {J : XJ} {r : XR} {cu su : Nat} {y : Int64} {x : Int64} : xst sc cl nx Q mc ms K (18, l, a, b, d, h, n, e, z, w) L (.long y :: .long x :: st) S I J r cu su = (K L (.int (lg_cmp x y) :: st) S I J r cu su) := rfl
theorem o_19 {sc : Nat × (Nat → Int32)} {cl : XC} {nx : XN} {Q : XQ} {mc ms : Nat} {K : XK} {l a b d h n e : Nat} {z : Int32} {w : Int64} {L st : XV} {S : XS} {I : XI} {J : XJ} {r : XR} {cu su : Nat} {v u : Value} : xst sc cl nx Q mc ms K (19, l, a, b, d, h, n, e, z, w) L (v :: st) S I J r cu su = (v.category = 1 ∧ K L (v :: v :: st) S I J r cu su) := rfl
theorem o_20 {sc : Nat × (Nat → Int32)} {cl : XC} {nx : XN} {Q : XQ} {mc ms : Nat} {K : XK} {l a b d h n e : Nat} {z : Int32} {w : Int64} {L st : XV} {S : XS} {I : XI} {J : XJ} {r : XR} {cu su : Nat} {v u : Value} : xst sc cl nx Q mc ms K (20, l, a, b, d, h, n, e, z, w) L (v :: u :: st) S I J r cu su = (v.category = 1 ∧ u.category = 1 ∧ K L (v :: u :: v :: u :: st) S I J r cu su) := rfl
theorem o_21 {sc : Nat × (Nat → Int32)} {cl : XC} {nx : XN} {Q : XQ} {mc ms : Nat} {K : XK} {l a b d h n e : Nat} {z : Int32} {w : Int64} {L st : XV} {S : XS} {I : XI} {J : XJ} {r : XR} {cu su : Nat} {v u : Value} : xst sc cl nx Q mc ms K (21, l, a, b, d, h, n, e, z, w) L (v :: st) S I J r cu su = (v.category = 1 ∧ K L st S I J r cu su) := rfl
theorem o_22 {sc : Nat × (Nat → Int32)} {cl : XC} {nx : XN} {Q : XQ} {mc ms : Nat} {K : XK} {l a b d h n e : Nat} {z : Int32} {w : Int64} {L st : XV} {S : XS} {I : XI} {J : XJ} {r : XR} {cu su : Nat} {x : Int32} : xst sc cl nx Q mc ms K (22, l, a, b, d, h, n, e, z, w) L (.int x :: st) S I J r cu su = ((icnd d x 0 → nx a L st S I J r cu su) ∧ (¬ icnd d x 0 → K L st S I J r cu su)) := rfl
theorem o_23 {sc : Nat × (Nat → Int32)} {cl : XC} {nx : XN} {Q : XQ} {mc ms : Nat} {K : XK} {l a b d h n e : Nat} {z : Int32} {w : Int64} {L st : XV} {S : XS} {I : XI} {J : XJ} {r : XR} {cu su : Nat} {y : Int32} {x : Int32} : xst sc cl nx Q mc ms K (23, l, a, b, d, h, n, e, z, w) L (.int y :: .int x :: st) S I J r cu su = ((icnd d x y → nx a L st S I J r cu su) ∧ (¬ icnd d x y → K L st S I J r cu su)) := rfl
theorem o_24 {sc : Nat × (Nat → Int32)} {cl : XC} {nx : XN} {Q : XQ} {mc ms : Nat} {K : XK} {l a b d h n e : Nat} {z : Int32} {w : Int64} {L st : XV} {S : XS} {I : XI} {J : XJ} {r : XR} {cu su : Nat} : xst sc cl nx Q mc ms K (24, l, a, b, d, h, n, e, z, w) L st S I J r cu su = (nx a L st S I J r cu su) := rfl
theorem o_25_0 {sc : Nat × (Nat → Int32)} {cl : XC} {nx : XN} {Q : XQ} {mc ms : Nat} {K : XK} {l a b h n e : Nat} {z : Int32} {w : Int64} {L st : XV} {S : XS} {I : XI} {J : XJ} {r : XR} {cu su : Nat}  : xst sc cl nx Q mc ms K (25, l, a, b, 0, h, n, e, z, w) L (.null :: st) S I J r cu su = (nx a L st S I J r cu su) := rfl
theorem o_25_1 {sc : Nat × (Nat → Int32)} {cl : XC} {nx : XN} {Q : XQ} {mc ms : Nat} {K : XK} {l a b h n e : Nat} {z : Int32} {w : Int64} {L st : XV} {S : XS} {I : XI} {J : XJ} {r : XR} {cu su : Nat} {x : Nat} : xst sc cl nx Q mc ms K (25, l, a, b, 0, h, n, e, z, w) L (.ref x :: st) S I J r cu su = (K L st S I J r cu su) := rfl
theorem o_25_2 {sc : Nat × (Nat → Int32)} {cl : XC} {nx : XN} {Q : XQ} {mc ms : Nat} {K : XK} {l a b h n e : Nat} {z : Int32} {w : Int64} {L st : XV} {S : XS} {I : XI} {J : XJ} {r : XR} {cu su : Nat}  : xst sc cl nx Q mc ms K (25, l, a, b, 1, h, n, e, z, w) L (.null :: st) S I J r cu su = (K L st S I J r cu su) := rfl
theorem o_25_3 {sc : Nat × (Nat → Int32)} {cl : XC} {nx : XN} {Q : XQ} {mc ms : Nat} {K : XK} {l a b h n e : Nat} {z : Int32} {w : Int64} {L st : XV} {S : XS} {I : XI} {J : XJ} {r : XR} {cu su : Nat} {x : Nat} : xst sc cl nx Q mc ms K (25, l, a, b, 1, h, n, e, z, w) L (.ref x :: st) S I J r cu su = (nx a L st S I J r cu su) := rfl
theorem o_26 {sc : Nat × (Nat → Int32)} {cl : XC} {nx : XN} {Q : XQ} {mc ms : Nat} {K : XK} {l a b d h n e : Nat} {z : Int32} {w : Int64} {L st : XV} {S : XS} {I : XI} {J : XJ} {r : XR} {cu su : Nat} {x : Int32} : xst sc cl nx Q mc ms K (26, l, a, b, d, h, n, e, z, w) L (.int x :: st) S I J r cu su = (xsw nx L st S I J r cu su x (xswt b).2 (xswt b).1) := rfl
theorem o_27_0 {sc : Nat × (Nat → Int32)} {cl : XC} {nx : XN} {Q : XQ} {mc ms : Nat} {K : XK} {l a b h n e : Nat} {z : Int32} {w : Int64} {L st : XV} {S : XS} {I : XI} {J : XJ} {r : XR} {cu su : Nat} {x : Int32} : xst sc cl nx Q mc ms K (27, l, a, b, 0, h, n, e, z, w) L ([.int x]) S I J r cu su = (Q (some (.int x)) S I J r) := rfl
theorem o_27_1 {sc : Nat × (Nat → Int32)} {cl : XC} {nx : XN} {Q : XQ} {mc ms : Nat} {K : XK} {l a b h n e : Nat} {z : Int32} {w : Int64} {L st : XV} {S : XS} {I : XI} {J : XJ} {r : XR} {cu su : Nat} {x : Int32} : xst sc cl nx Q mc ms K (27, l, a, b, 1, h, n, e, z, w) L ([.int x]) S I J r cu su = ((x = 0 ∨ x = 1) ∧ Q (some (.int x)) S I J r) := rfl
theorem o_27_2 {sc : Nat × (Nat → Int32)} {cl : XC} {nx : XN} {Q : XQ} {mc ms : Nat} {K : XK} {l a b h n e : Nat} {z : Int32} {w : Int64} {L st : XV} {S : XS} {I : XI} {J : XJ} {r : XR} {cu su : Nat} {x : Int64} : xst sc cl nx Q mc ms K (27, l, a, b, 2, h, n, e, z, w) L ([.long x]) S I J r cu su = (Q (some (.long x)) S I J r) := rfl
theorem o_27_3 {sc : Nat × (Nat → Int32)} {cl : XC} {nx : XN} {Q : XQ} {mc ms : Nat} {K : XK} {l a b h n e : Nat} {z : Int32} {w : Int64} {L st : XV} {S : XS} {I : XI} {J : XJ} {r : XR} {cu su : Nat}  : xst sc cl nx Q mc ms K (27, l, a, b, 3, h, n, e, z, w) L ([]) S I J r cu su = (Q none S I J r) := rfl
theorem o_27_4 {sc : Nat × (Nat → Int32)} {cl : XC} {nx : XN} {Q : XQ} {mc ms : Nat} {K : XK} {l a b h n e : Nat} {z : Int32} {w : Int64} {L st : XV} {S : XS} {I : XI} {J : XJ} {r : XR} {cu su : Nat} {x : Int32} : xst sc cl nx Q mc ms K (27, l, a, b, 4, h, n, e, z, w) L ([.int x]) S I J r cu su = (x.toInt8.toInt32 = x ∧ Q (some (.int x)) S I J r) := rfl
theorem o_27_5 {sc : Nat × (Nat → Int32)} {cl : XC} {nx : XN} {Q : XQ} {mc ms : Nat} {K : XK} {l a b h n e : Nat} {z : Int32} {w : Int64} {L st : XV} {S : XS} {I : XI} {J : XJ} {r : XR} {cu su : Nat} {x : Int32} : xst sc cl nx Q mc ms K (27, l, a, b, 5, h, n, e, z, w) L ([.int x]) S I J r cu su = (x.toUInt32.toUInt16.toUInt32.toInt32 = x ∧ Q (some (.int x)) S I J r) := rfl
theorem o_28 {sc : Nat × (Nat → Int32)} {cl : XC} {nx : XN} {Q : XQ} {mc ms : Nat} {K : XK} {l a b d h n e : Nat} {z : Int32} {w : Int64} {L st : XV} {S : XS} {I : XI} {J : XJ} {r : XR} {cu su : Nat} : xst sc cl nx Q mc ms K (28, l, a, b, d, h, n, e, z, w) L st S I J r cu su = (cu + 1 ≤ mc ∧ su + nfc b ≤ ms ∧ K L (.ref S.length :: st) (S ++ [(b, 0)]) (fun q k => if q = S.length then 0 else I q k) (fun q k => if q = S.length then 0 else J q k) (fun q k => if q = S.length then none else r q k) (cu + 1) (su + nfc b)) := rfl
theorem o_29 {sc : Nat × (Nat → Int32)} {cl : XC} {nx : XN} {Q : XQ} {mc ms : Nat} {K : XK} {l a b d h n0 e : Nat} {z : Int32} {w : Int64} {L st : XV} {S : XS} {I : XI} {J : XJ} {r : XR} {cu su : Nat} {n : Int32} : xst sc cl nx Q mc ms K (29, l, a, b, d, h, n0, e, z, w) L (.int n :: st) S I J r cu su = (0 ≤ n ∧ n.toNatClampNeg ≤ 4000 ∧ cu + 1 ≤ mc ∧ su + n.toNatClampNeg ≤ ms ∧ K L (.ref S.length :: st) (S ++ [(b, n.toNatClampNeg)]) (fun q k => if q = S.length then 0 else I q k) (fun q k => if q = S.length then 0 else J q k) (fun q k => if q = S.length then none else r q k) (cu + 1) (su + n.toNatClampNeg)) := rfl
theorem o_30 {sc : Nat × (Nat → Int32)} {cl : XC} {nx : XN} {Q : XQ} {mc ms : Nat} {K : XK} {l a b d h n0 e : Nat} {z : Int32} {w : Int64} {L st : XV} {S : XS} {I : XI} {J : XJ} {r : XR} {cu su : Nat} {n : Int32} : xst sc cl nx Q mc ms K (30, l, a, b, d, h, n0, e, z, w) L (.int n :: st) S I J r cu su = (0 ≤ n ∧ n.toNatClampNeg ≤ 4000 ∧ cu + 1 ≤ mc ∧ su + n.toNatClampNeg ≤ ms ∧ K L (.ref S.length :: st) (S ++ [(103, n.toNatClampNeg)]) (fun q k => if q = S.length then 0 else I q k) (fun q k => if q = S.length then 0 else J q k) (fun q k => if q = S.length then none else r q k) (cu + 1) (su + n.toNatClampNeg)) := rfl
theorem o_31 {sc : Nat × (Nat → Int32)} {cl : XC} {nx : XN} {Q : XQ} {mc ms : Nat} {K : XK} {l a b d h n0 e : Nat} {z : Int32} {w : Int64} {L st : XV} {S : XS} {I : XI} {J : XJ} {r : XR} {cu su : Nat} {k : Int32} {n : Int32} : xst sc cl nx Q mc ms K (31, l, a, b, d, h, n0, e, z, w) L (.int k :: .int n :: st) S I J r cu su = ((∃ q n1 : Nat, S[q]? = some (101, n1)) ∧ n = 4 ∧ k = 60 ∧ cu + 5 ≤ mc ∧ su + 244 ≤ ms ∧ K L (.ref S.length :: st) (S ++ [(104, 4), (101, 60), (101, 60), (101, 60), (101, 60)]) (fun q k => if S.length ≤ q then 0 else I q k) (fun q k => if S.length ≤ q then 0 else J q k) (fun q k => if q = S.length then (if k < 4 then some (S.length + 1 + k) else none) else if S.length < q then none else r q k) (cu + 5) (su + 244)) := rfl
theorem o_32 {sc : Nat × (Nat → Int32)} {cl : XC} {nx : XN} {Q : XQ} {mc ms : Nat} {K : XK} {l a b d h n e : Nat} {z : Int32} {w : Int64} {L st : XV} {S : XS} {I : XI} {J : XJ} {r : XR} {cu su : Nat} {q : Nat} : xst sc cl nx Q mc ms K (32, l, a, b, d, h, n, e, z, w) L (.ref q :: st) S I J r cu su = (∃ t n : Nat, S[q]? = some (t, n) ∧ 100 ≤ t ∧ K L (.int (nI n) :: st) S I J r cu su) := rfl
theorem o_33 {sc : Nat × (Nat → Int32)} {cl : XC} {nx : XN} {Q : XQ} {mc ms : Nat} {K : XK} {l a b d h n e : Nat} {z : Int32} {w : Int64} {L st : XV} {S : XS} {I : XI} {J : XJ} {r : XR} {cu su : Nat} {i : Int32} {q : Nat} : xst sc cl nx Q mc ms K (33, l, a, b, d, h, n, e, z, w) L (.int i :: .ref q :: st) S I J r cu su = (∃ n : Nat, S[q]? = some (100, n) ∧ vp_in i n ∧ K L (.int (I q i.toNatClampNeg) :: st) S I J r cu su) := rfl
theorem o_34 {sc : Nat × (Nat → Int32)} {cl : XC} {nx : XN} {Q : XQ} {mc ms : Nat} {K : XK} {l a b d h n e : Nat} {z : Int32} {w : Int64} {L st : XV} {S : XS} {I : XI} {J : XJ} {r : XR} {cu su : Nat} {x : Int32} {i : Int32} {q : Nat} : xst sc cl nx Q mc ms K (34, l, a, b, d, h, n, e, z, w) L (.int x :: .int i :: .ref q :: st) S I J r cu su = (∃ n : Nat, S[q]? = some (100, n) ∧ vp_in i n ∧ K L st S (up2 I q i.toNatClampNeg x) J r cu su) := rfl
theorem o_35 {sc : Nat × (Nat → Int32)} {cl : XC} {nx : XN} {Q : XQ} {mc ms : Nat} {K : XK} {l a b d h n e : Nat} {z : Int32} {w : Int64} {L st : XV} {S : XS} {I : XI} {J : XJ} {r : XR} {cu su : Nat} {i : Int32} {q : Nat} : xst sc cl nx Q mc ms K (35, l, a, b, d, h, n, e, z, w) L (.int i :: .ref q :: st) S I J r cu su = (∃ n : Nat, S[q]? = some (101, n) ∧ vp_in i n ∧ K L (.long (J q i.toNatClampNeg) :: st) S I J r cu su) := rfl
theorem o_36 {sc : Nat × (Nat → Int32)} {cl : XC} {nx : XN} {Q : XQ} {mc ms : Nat} {K : XK} {l a b d h n e : Nat} {z : Int32} {w : Int64} {L st : XV} {S : XS} {I : XI} {J : XJ} {r : XR} {cu su : Nat} {x : Int64} {i : Int32} {q : Nat} : xst sc cl nx Q mc ms K (36, l, a, b, d, h, n, e, z, w) L (.long x :: .int i :: .ref q :: st) S I J r cu su = (∃ n : Nat, S[q]? = some (101, n) ∧ vp_in i n ∧ K L st S I (up2 J q i.toNatClampNeg x) r cu su) := rfl
theorem o_37 {sc : Nat × (Nat → Int32)} {cl : XC} {nx : XN} {Q : XQ} {mc ms : Nat} {K : XK} {l a b d h n e : Nat} {z : Int32} {w : Int64} {L st : XV} {S : XS} {I : XI} {J : XJ} {r : XR} {cu su : Nat} {i : Int32} {q : Nat} : xst sc cl nx Q mc ms K (37, l, a, b, d, h, n, e, z, w) L (.int i :: .ref q :: st) S I J r cu su = (∃ n : Nat, S[q]? = some (102, n) ∧ vp_in i n ∧ K L (.int (I q i.toNatClampNeg) :: st) S I J r cu su) := rfl
theorem o_38 {sc : Nat × (Nat → Int32)} {cl : XC} {nx : XN} {Q : XQ} {mc ms : Nat} {K : XK} {l a b d h n e : Nat} {z : Int32} {w : Int64} {L st : XV} {S : XS} {I : XI} {J : XJ} {r : XR} {cu su : Nat} {x : Int32} {i : Int32} {q : Nat} : xst sc cl nx Q mc ms K (38, l, a, b, d, h, n, e, z, w) L (.int x :: .int i :: .ref q :: st) S I J r cu su = (∃ n : Nat, S[q]? = some (102, n) ∧ vp_in i n ∧ K L st S (up2 I q i.toNatClampNeg x.toInt8.toInt32) J r cu su) := rfl
theorem o_39 {sc : Nat × (Nat → Int32)} {cl : XC} {nx : XN} {Q : XQ} {mc ms : Nat} {K : XK} {l a b d h n e : Nat} {z : Int32} {w : Int64} {L st : XV} {S : XS} {I : XI} {J : XJ} {r : XR} {cu su : Nat} {i : Int32} {q : Nat} : xst sc cl nx Q mc ms K (39, l, a, b, d, h, n, e, z, w) L (.int i :: .ref q :: st) S I J r cu su = (∃ t n : Nat, S[q]? = some (t, n) ∧ 103 ≤ t ∧ vp_in i n ∧ K L (va_rf (r q i.toNatClampNeg) :: st) S I J r cu su) := rfl
theorem o_40 {sc : Nat × (Nat → Int32)} {cl : XC} {nx : XN} {Q : XQ} {mc ms : Nat} {K : XK} {l a b d h n e : Nat} {z : Int32} {w : Int64} {L st : XV} {S : XS} {I : XI} {J : XJ} {r : XR} {cu su : Nat} {v : Nat} {i : Int32} {q : Nat} : xst sc cl nx Q mc ms K (40, l, a, b, d, h, n, e, z, w) L (.ref v :: .int i :: .ref q :: st) S I J r cu su = (∃ n : Nat, S[q]? = some (103, n) ∧ S[v]? = some (0, 0) ∧ vp_in i n ∧ K L st S I J (up2 r q i.toNatClampNeg (some v)) cu su) := rfl
theorem o_42 {sc : Nat × (Nat → Int32)} {cl : XC} {nx : XN} {Q : XQ} {mc ms : Nat} {K : XK} {l a b d h n e : Nat} {z : Int32} {w : Int64} {L st : XV} {S : XS} {I : XI} {J : XJ} {r : XR} {cu su : Nat} {q : Nat} : xst sc cl nx Q mc ms K (42, l, a, b, d, h, n, e, z, w) L (.ref q :: st) S I J r cu su = (S[q]? = some (b, 0) ∧ K L (.int (I q d) :: st) S I J r cu su) := rfl
theorem o_43 {sc : Nat × (Nat → Int32)} {cl : XC} {nx : XN} {Q : XQ} {mc ms : Nat} {K : XK} {l a b d h n e : Nat} {z : Int32} {w : Int64} {L st : XV} {S : XS} {I : XI} {J : XJ} {r : XR} {cu su : Nat} {q : Nat} : xst sc cl nx Q mc ms K (43, l, a, b, d, h, n, e, z, w) L (.ref q :: st) S I J r cu su = (S[q]? = some (b, 0) ∧ K L (.long (J q d) :: st) S I J r cu su) := rfl
theorem o_44 {sc : Nat × (Nat → Int32)} {cl : XC} {nx : XN} {Q : XQ} {mc ms : Nat} {K : XK} {l a b d h n e : Nat} {z : Int32} {w : Int64} {L st : XV} {S : XS} {I : XI} {J : XJ} {r : XR} {cu su : Nat} {q : Nat} : xst sc cl nx Q mc ms K (44, l, a, b, d, h, n, e, z, w) L (.ref q :: st) S I J r cu su = (S[q]? = some (b, 0) ∧ K L (va_rf (r q d) :: st) S I J r cu su) := rfl
theorem o_45 {sc : Nat × (Nat → Int32)} {cl : XC} {nx : XN} {Q : XQ} {mc ms : Nat} {K : XK} {l a b d h n e : Nat} {z : Int32} {w : Int64} {L st : XV} {S : XS} {I : XI} {J : XJ} {r : XR} {cu su : Nat} {x : Int32} {q : Nat} : xst sc cl nx Q mc ms K (45, l, a, b, d, h, n, e, z, w) L (.int x :: .ref q :: st) S I J r cu su = (S[q]? = some (b, 0) ∧ K L st S (up2 I q d x) J r cu su) := rfl
theorem o_46 {sc : Nat × (Nat → Int32)} {cl : XC} {nx : XN} {Q : XQ} {mc ms : Nat} {K : XK} {l a b d h n e : Nat} {z : Int32} {w : Int64} {L st : XV} {S : XS} {I : XI} {J : XJ} {r : XR} {cu su : Nat} {x : Int64} {q : Nat} : xst sc cl nx Q mc ms K (46, l, a, b, d, h, n, e, z, w) L (.long x :: .ref q :: st) S I J r cu su = (S[q]? = some (b, 0) ∧ K L st S I (up2 J q d x) r cu su) := rfl
theorem o_47 {sc : Nat × (Nat → Int32)} {cl : XC} {nx : XN} {Q : XQ} {mc ms : Nat} {K : XK} {l a b d h n e : Nat} {z : Int32} {w : Int64} {L st : XV} {S : XS} {I : XI} {J : XJ} {r : XR} {cu su : Nat} {x : Nat} {q : Nat} : xst sc cl nx Q mc ms K (47, l, a, b, d, h, n, e, z, w) L (.ref x :: .ref q :: st) S I J r cu su = (S[q]? = some (b, 0) ∧ K L st S I J (up2 r q d (some x)) cu su) := rfl
theorem o_48 {sc : Nat × (Nat → Int32)} {cl : XC} {nx : XN} {Q : XQ} {mc ms : Nat} {K : XK} {l a b d h n e : Nat} {z : Int32} {w : Int64} {L st : XV} {S : XS} {I : XI} {J : XJ} {r : XR} {cu su : Nat} : xst sc cl nx Q mc ms K (48, l, a, b, d, h, n, e, z, w) L st S I J r cu su = (n ≤ st.length ∧ xsz (st.drop n) ≤ 8 ∧ (d = 1 ∨ ∃ (q : Nat) (As : XV), (st.take n).reverse = .ref q :: As ∧ S[q]? = some (e, 0)) ∧
        cl b (st.take n).reverse S I J r (fun v S I J r => K L (v.toList ++ st.drop n) S I J r cu su)) := rfl
theorem o_49 {sc : Nat × (Nat → Int32)} {cl : XC} {nx : XN} {Q : XQ} {mc ms : Nat} {K : XK} {l a b d h n e : Nat} {z : Int32} {w : Int64} {L st : XV} {S : XS} {I : XI} {J : XJ} {r : XR} {cu su : Nat} {q : Nat} : xst sc cl nx Q mc ms K (49, l, a, b, d, h, n, e, z, w) L (.ref q :: st) S I J r cu su = (xsz st ≤ 8 ∧ K L st S I J r cu su) := rfl
theorem o_50 {sc : Nat × (Nat → Int32)} {cl : XC} {nx : XN} {Q : XQ} {mc ms : Nat} {K : XK} {l a b d h n0 e : Nat} {z : Int32} {w : Int64} {L st : XV} {S : XS} {I : XI} {J : XJ} {r : XR} {cu su : Nat} {n : Int32} {dp : Int32} {q1 : Nat} {sp : Int32} {q0 : Nat} : xst sc cl nx Q mc ms K (50, l, a, b, d, h, n0, e, z, w) L (.int n :: .int dp :: .ref q1 :: .int sp :: .ref q0 :: st) S I J r cu su = (xsz st ≤ 8 ∧ ∃ n0 n1 : Nat, S[q0]? = some (100 + d, n0) ∧ S[q1]? = some (100 + d, n1) ∧ 0 ≤ sp ∧ 0 ≤ dp ∧ 0 ≤ n ∧ sp.toNatClampNeg + n.toNatClampNeg ≤ n0 ∧ dp.toNatClampNeg + n.toNatClampNeg ≤ n1 ∧
          K L st S (if d = 1 then I else cp2 I q0 sp.toNatClampNeg q1 dp.toNatClampNeg n.toNatClampNeg) (if d = 1 then cp2 J q0 sp.toNatClampNeg q1 dp.toNatClampNeg n.toNatClampNeg else J) r cu su) := rfl
theorem o_51 {sc : Nat × (Nat → Int32)} {cl : XC} {nx : XN} {Q : XQ} {mc ms : Nat} {K : XK} {l a b d h n e : Nat} {z : Int32} {w : Int64} {L st : XV} {S : XS} {I : XI} {J : XJ} {r : XR} {cu su : Nat} {i : Nat} : xst sc cl nx Q mc ms K (51, l, a, b, d, h, n, e, z, w) L (.retAddr i :: st) S I J r cu su = (i < 29 ∧ K L (.retAddr (1000 + i) :: st) S I J r cu su) := rfl
theorem o_52 {sc : Nat × (Nat → Int32)} {cl : XC} {nx : XN} {Q : XQ} {mc ms : Nat} {K : XK} {l a b d h n e : Nat} {z : Int32} {w : Int64} {L st : XV} {S : XS} {I : XI} {J : XJ} {r : XR} {cu su : Nat} {i : Nat} : xst sc cl nx Q mc ms K (52, l, a, b, d, h, n, e, z, w) L (.retAddr i :: st) S I J r cu su = (i < 29 ∧ K L (.int 0 :: st) S I J r cu su) := rfl
theorem o_53 {sc : Nat × (Nat → Int32)} {cl : XC} {nx : XN} {Q : XQ} {mc ms : Nat} {K : XK} {l a b d h n e : Nat} {z : Int32} {w : Int64} {L st : XV} {S : XS} {I : XI} {J : XJ} {r : XR} {cu su : Nat} {i : Nat} : xst sc cl nx Q mc ms K (53, l, a, b, d, h, n, e, z, w) L (.retAddr i :: st) S I J r cu su = (i = 3000 ∧ K L (.int (nI sc.1) :: st) S I J r cu su) := rfl
theorem o_54 {sc : Nat × (Nat → Int32)} {cl : XC} {nx : XN} {Q : XQ} {mc ms : Nat} {K : XK} {l a b d h n e : Nat} {z : Int32} {w : Int64} {L st : XV} {S : XS} {I : XI} {J : XJ} {r : XR} {cu su : Nat} {j : Int32} {i : Nat} : xst sc cl nx Q mc ms K (54, l, a, b, d, h, n, e, z, w) L (.int j :: .retAddr i :: st) S I J r cu su = (i = 3000 ∧ vp_in j sc.1 ∧ K L (.int (sc.2 j.toNatClampNeg) :: st) S I J r cu su) := rfl
theorem o_55 {sc : Nat × (Nat → Int32)} {cl : XC} {nx : XN} {Q : XQ} {mc ms : Nat} {K : XK} {l a b d h n e : Nat} {z : Int32} {w : Int64} {L st : XV} {S : XS} {I : XI} {J : XJ} {r : XR} {cu su : Nat} : xst sc cl nx Q mc ms K (55, l, a, b, d, h, n, e, z, w) L st S I J r cu su = (cu + mck b ≤ mc ∧ su + msk b ≤ ms ∧ n ≤ st.length ∧ xsz (st.drop n) ≤ 8 ∧ (d = 1 ∨ ∃ (q : Nat) (As : XV), (st.take n).reverse = .ref q :: As ∧ S[q]? = some (e, 0)) ∧
        cl b (st.take n).reverse S I J r (fun v S I J r => K L (v.toList ++ st.drop n) S I J r (cu + mck b) (su + msk b))) := rfl
theorem o_56 {sc : Nat × (Nat → Int32)} {cl : XC} {nx : XN} {Q : XQ} {mc ms : Nat} {K : XK} {l a b d h n e : Nat} {z : Int32} {w : Int64} {L st : XV} {S : XS} {I : XI} {J : XJ} {r : XR} {cu su : Nat} {i : Nat} : xst sc cl nx Q mc ms K (56, l, a, b, d, h, n, e, z, w) L (.retAddr i :: st) S I J r cu su = (1000 ≤ i ∧ i < 1029 ∧ K L (.int (nI (strLen (i - 1000))) :: st) S I J r cu su) := rfl
theorem o_57 {sc : Nat × (Nat → Int32)} {cl : XC} {nx : XN} {Q : XQ} {mc ms : Nat} {K : XK} {l a b d h n e : Nat} {z : Int32} {w : Int64} {L st : XV} {S : XS} {I : XI} {J : XJ} {r : XR} {cu su : Nat} {j : Int32} {i : Nat} : xst sc cl nx Q mc ms K (57, l, a, b, d, h, n, e, z, w) L (.int j :: .retAddr i :: st) S I J r cu su = (1000 ≤ i ∧ i < 1029 ∧ vp_in j (strLen (i - 1000)) ∧ K L (.int (strAt (i - 1000) j.toNatClampNeg) :: st) S I J r cu su) := rfl
theorem o_58 {sc : Nat × (Nat → Int32)} {cl : XC} {nx : XN} {Q : XQ} {mc ms : Nat} {K : XK} {l a b d h n e : Nat} {z : Int32} {w : Int64} {L st : XV} {S : XS} {I : XI} {J : XJ} {r : XR} {cu su : Nat} : xst sc cl nx Q mc ms K (58, l, a, b, d, h, n, e, z, w) L st S I J r cu su = (K L (.int 1 :: st) S I J r cu su) := rfl
theorem o_59 {sc : Nat × (Nat → Int32)} {cl : XC} {nx : XN} {Q : XQ} {mc ms : Nat} {K : XK} {l a b d h n e : Nat} {z : Int32} {w : Int64} {L st : XV} {S : XS} {I : XI} {J : XJ} {r : XR} {cu su : Nat} : xst sc cl nx Q mc ms K (59, l, a, b, d, h, n, e, z, w) L st S I J r cu su = (K L (.retAddr 2000 :: st) S I J r cu su) := rfl
theorem o_60 {sc : Nat × (Nat → Int32)} {cl : XC} {nx : XN} {Q : XQ} {mc ms : Nat} {K : XK} {l a b d h n e : Nat} {z : Int32} {w : Int64} {L st : XV} {S : XS} {I : XI} {J : XJ} {r : XR} {cu su : Nat} : xst sc cl nx Q mc ms K (60, l, a, b, d, h, n, e, z, w) L st S I J r cu su = (n ≤ st.length ∧ xsz (st.drop n) ≤ 8 ∧ (∃ (i : Nat) (As : XV), (st.take n).reverse = .retAddr i :: As ∧ i < 29) ∧
        cl b (st.take n).reverse S I J r (fun v S I J r => K L (v.toList ++ st.drop n) S I J r cu su)) := rfl
theorem o_61 {sc : Nat × (Nat → Int32)} {cl : XC} {nx : XN} {Q : XQ} {mc ms : Nat} {K : XK} {l a b d h n e : Nat} {z : Int32} {w : Int64} {L st : XV} {S : XS} {I : XI} {J : XJ} {r : XR} {cu su : Nat} {x : Int32} {q : Nat} : xst sc cl nx Q mc ms K (61, l, a, b, d, h, n, e, z, w) L (.int x :: .ref q :: st) S I J r cu su = ((x = 0 ∨ x = 1) ∧ S[q]? = some (b, 0) ∧ K L st S (up2 I q d x) J r cu su) := rfl
end
section
/-! SOUNDNESS OF THE ABSTRACT MACHINE, a row an operation -/
def xadr (ws : va_W) (k : Nat) : Nat := match ws[k]? with
  | some q => q.1
  | none => 0
def xtr (ad : Nat → Nat) (sV : Nat → Value) : Value → Value
  | .ref k => .ref (ad k)
  | .retAddr i => sV i
  | v => v
def xmk : Value → Bool
  | .float _ => true
  | _ => false
def xfld (ad : Nat → Nat) (I : XI) (J : XJ) (r : XR) (t q k : Nat) : Value := match xkd t k with
  | 0 => .int (I q k)
  | 1 => .long (J q k)
  | _ => va_rf ((r q k).map ad)
def xobj (ad : Nat → Nat) (I : XI) (J : XJ) (r : XR) (t q : Nat) : List Value := (List.range (nfc t)).map (xfld ad I J r t q)
def xarr (ad : Nat → Nat) (I : XI) (J : XJ) (r : XR) (t n q : Nat) : vp_A := match t with
  | 100 => (n, .inl (I q))
  | 101 => (n, .inr (.inl (J q)))
  | 102 => (n, .inl (I q))
  | _ => (n, .inr (.inr (.inr (.inr (fun j => (r q j).map ad)))))
def xcell (ad : Nat → Nat) (I : XI) (J : XJ) (r : XR) (cA : ClassId) (t n q : Nat) : va_E := if t < 100 then .inr (t, xobj ad I J r t q) else .inl (cA, xarr ad I J r t n q)
def xok (S : XS) : Value → Prop
  | .ref k => k < S.length
  | _ => True
def XRel (a0 : Nat → Nat) (n0 : Nat) (tys : List (ClassId × FieldType)) (ws : va_W) (S : XS) (I : XI) (J : XJ) (r : XR) : Prop :=
  ws.length = S.length ∧
  (∀ q t n : Nat, S[q]? = some (t, n) → ∃ cA : ClassId, ws[q]? = some (xadr ws q, xcell (xadr ws) I J r cA t n q) ∧ (100 ≤ t → ∃ t0 : Nat, tys[t0]? = some (cA, xaty t))) ∧
  (∀ q k v : Nat, r q k = some v → v < S.length) ∧
  (∀ q n j : Nat, S[q]? = some (102, n) → (I q j).toInt8.toInt32 = I q j) ∧
  n0 ≤ S.length ∧ ∀ k, k < n0 → xadr ws k = a0 k
def xlens : List Nat := xstb.map List.length
def xbyts : List (List Int32) := xstb.map (fun l => l.map nI)
def XStr (A : Nat → Prop) (sV : Nat → Value) (U : State) (H : Heap) : Prop :=
  (∃ adK adV : Nat → Nat, vk_S 29 xlens xbyts adK adV A U H ∧ ∀ i, i < 29 → (∀ x, xstl[i]? = some x → vk_R x.1 x.2.1 x.2.2 (adK i) U) ∧ sV i = .ref (adK i) ∧ sV (1000 + i) = .ref (adV i)) ∧
  va_Z "java/lang/String" "COMPACT_STRINGS" "Z" (.int 1) A U H ∧ va_Z "jdk/internal/util/Preconditions" "SIOOBE_FORMATTER" "Ljava/util/function/BiFunction;" (sV 2000) A U H ∧ (∀ i, sV i = .null ∨ ∃ b, sV i = .ref b) ∧ va_AO "FreckleChart$Coast" U ∧ va_AOA .long U
def XScr (sc : Nat × (Nat → Int32)) (A : Nat → Prop) (sV : Nat → Value) (s : State) : Prop := ∃ b : Nat, sV 3000 = .ref b ∧ va_X b sc.1 sc.2 s s.heap ∧ b < s.heap.size ∧ ¬ A b
def XFx (p : Program) (s : State) (m : MethodId) (meth : Method) (c : Code) (args : Array Value) (Rm : Room) (cc : ByteArray) (own : String) (nL : Nat) (ini law : Bool) (sc : Nat × (Nat → Int32)) (mc ms : Nat) (A : Nat → Prop) (sV : Nat → Value) : Prop :=
  p.tables.exec = Jvm.exec ∧ c.code = cc ∧ c.maxLocals = nL ∧ s.vm.findClass own = some m.cls ∧ (∀ w ∈ xW, w.before args s = true) ∧ (ini = true → meth.name = "<init>") ∧ (∀ q : Nat, s.heap.size ≤ q → A q) ∧
  XStr A sV s s.heap ∧ (law = true → XScr sc A sV s) ∧ 1 ≤ Rm.frames ∧ 40 ≤ Rm.locals ∧ mc ≤ Rm.cells ∧ ms ≤ Rm.slots
def XLs (ad : Nat → Nat) (sV : Nat → Value) (nL : Nat) (ls : Array Slot) (L : XV) : Prop := ls.size = nL ∧ lv_wf ls ∧ ∀ (i : Nat) (v : Value), L[i]? = some v → xmk v = false → ls[i]? = some (.val (xtr ad sV v))
def XMem (dC : Nat → ClassId) (dI : Nat → Nat → Nat) (A : Nat → Prop) (s : State) (a0 : Nat → Nat) (n0 : Nat) (H : Heap) (locs : List Loc) (ws : va_W) (tys : List (ClassId × FieldType)) (S : XS) (I : XI) (J : XJ) (r : XR) : Prop :=
  va_K (dC, dI) xcl tys s ∧ va_P (dC, dI) xcl ws H ∧ va_D A ws ∧ va_S A s.heap H locs ∧ XRel a0 n0 tys ws S I J r
def XH (dC : Nat → ClassId) (dI : Nat → Nat → Nat) (A : Nat → Prop) (s : State) (a0 : Nat → Nat) (n0 : Nat) (sV : Nat → Value) (nL mc ms : Nat) (ls : Array Slot) (H : Heap) (locs : List Loc) (ws : va_W) (tys : List (ClassId × FieldType)) (L st : XV) (S : XS) (I : XI) (J : XJ) (r : XR) (cu su : Nat) : Prop :=
  XLs (xadr ws) sV nL ls L ∧ XMem dC dI A s a0 n0 H locs ws tys S I J r ∧ (∀ v ∈ L, xok S v) ∧ (∀ v ∈ st, xok S v) ∧ cu ≤ mc ∧ su ≤ ms
/-- the machine's predicate for a state of the abstract machine -/
def XW (p : Program) (l : Launch) (e : Env) (Rm : Room) (s : State) (m : MethodId) (args : Array Value) (below : List Frame) (meth : Method) (c : Code) (dC : Nat → ClassId) (dI : Nat → Nat → Nat) (A : Nat → Prop) (a0 : Nat → Nat) (n0 : Nat) (sV : Nat → Value) (nL mc ms : Nat) (Zf : State → Prop) : XN :=
  fun pc L st S I J r cu su => ∀ (ls : Array Slot) (H : Heap) (locs : List Loc) (ws : va_W) (tys : List (ClassId × FieldType)), XH dC dI A s a0 n0 sV nL mc ms ls H locs ws tys L st S I J r cu su →
    W p l e Rm s m args below meth c H locs cu su Zf (F0 m pc ls (st.map (xtr (xadr ws) sV)))
def xdec (b : ByteArray) (pc : Nat) (i : Instr) (len : Nat) : Bool := decide (decode b pc = .ok (i, len))
theorem xdec_ok {b : ByteArray} {pc len : Nat} {i : Instr} (h : xdec b pc i len = true) : decode b pc = .ok (i, len) := of_decide_eq_true h
/-! lemmas of the picture -/
theorem xadr_of {ws : va_W} {q : Nat} {x : Nat × va_E} (h : ws[q]? = some x) : xadr ws q = x.1 := by simp [xadr, h]
theorem xadr_set {ws : va_W} {q : Nat} {e : va_E} {x : Nat × va_E} (h : ws[q]? = some x) : xadr (ws.set q (xadr ws q, e)) = xadr ws := by
  have hq : q < ws.length := (List.getElem?_eq_some_iff.mp h).1
  funext k
  by_cases hk : k = q
  · subst hk
    simp [xadr, List.getElem?_set, hq]
  · simp [xadr, List.getElem?_set, Ne.symm hk]
theorem XRel.set {a0 : Nat → Nat} {n0 : Nat} {tys : List (ClassId × FieldType)} {ws : va_W} {S : XS} {I I' : XI} {J J' : XJ} {r r' : XR} (h : XRel a0 n0 tys ws S I J r) {q t n : Nat} (hq : S[q]? = some (t, n)) {cA : ClassId} (hc : ws[q]? = some (xadr ws q, xcell (xadr ws) I J r cA t n q)) (hty : 100 ≤ t → ∃ t0 : Nat, tys[t0]? = some (cA, xaty t))
    (hI : ∀ p, p ≠ q → I' p = I p) (hJ : ∀ p, p ≠ q → J' p = J p) (hr : ∀ p, p ≠ q → r' p = r p) (hv : ∀ k v : Nat, r' q k = some v → v < S.length) (hb : t = 102 → ∀ j, (I' q j).toInt8.toInt32 = I' q j) :
    XRel a0 n0 tys (ws.set q (xadr ws q, xcell (xadr ws) I' J' r' cA t n q)) S I' J' r' := by
  obtain ⟨h1, h2, h3, h4, h5, h6⟩ := h
  have hqs : q < ws.length := (List.getElem?_eq_some_iff.mp hc).1
  have had := xadr_set (e := xcell (xadr ws) I' J' r' cA t n q) hc
  refine ⟨by simp [h1], fun p t' n' hp => ?_, fun p k v hp => ?_, fun p n' j hp => ?_, h5, fun k hk => by rw [had]; exact h6 k hk⟩
  · rw [had]
    by_cases e : p = q
    · subst e
      rw [hq] at hp
      cases hp
      exact ⟨cA, by simp [List.getElem?_set, hqs], hty⟩
    · obtain ⟨c', g1, g2⟩ := h2 p t' n' hp
      refine ⟨c', ?_, g2⟩
      rw [List.getElem?_set, if_neg (Ne.symm e), g1]
      have e1 : xcell (xadr ws) I J r c' t' n' p = xcell (xadr ws) I' J' r' c' t' n' p := by
        unfold xcell
        split
        · congr 2
          unfold xobj
          congr 1
          funext k
          unfold xfld
          rw [hI p e, hJ p e, hr p e]
        · congr 2
          unfold xarr
          split <;> simp only [hI p e, hJ p e, hr p e]
      rw [e1]
  · by_cases e : p = q
    · subst e; exact hv k v hp
    · rw [hr p e] at hp; exact h3 p k v hp
  · by_cases e : p = q
    · subst e
      rw [hq] at hp
      cases hp
      exact hb rfl j
    · rw [hI p e]; exact h4 p n' j hp
/-- the cell at a place -/
theorem XRel.at {a0 : Nat → Nat} {n0 : Nat} {tys : List (ClassId × FieldType)} {ws : va_W} {S : XS} {I : XI} {J : XJ} {r : XR} (h : XRel a0 n0 tys ws S I J r) {q t n : Nat} (hq : S[q]? = some (t, n)) : ∃ cA : ClassId, ws[q]? = some (xadr ws q, xcell (xadr ws) I J r cA t n q) ∧ (100 ≤ t → ∃ t0 : Nat, tys[t0]? = some (cA, xaty t)) := h.2.1 q t n hq
theorem up2_same {α : Type} {f : Nat → Nat → α} {a i : Nat} {v : α} : up2 f a i v a = fun j => if j = i then v else f a j := by funext j; simp [up2]
theorem up2_ne {α : Type} {f : Nat → Nat → α} {a i p : Nat} {v : α} (h : p ≠ a) : up2 f a i v p = f p := by funext j; simp [up2, h]
theorem upd_up2 {f : XI} {a i : Nat} {v : Int32} : upd (f a) i v = up2 f a i v a := by rw [up2_same]; funext j; simp [upd]
theorem updL_up2 {f : XJ} {a i : Nat} {v : Int64} : vp_updL (f a) i v = up2 f a i v a := by rw [up2_same]; funext j; simp [vp_updL]
theorem xok_mono {S S' : XS} (h : S.length ≤ S'.length) {v : Value} (hv : xok S v) : xok S' v := by
  cases v <;> first | trivial | exact Nat.lt_of_lt_of_le hv h
theorem xtr_int {ad : Nat → Nat} {sV : Nat → Value} {x : Int32} : xtr ad sV (.int x) = .int x := rfl
theorem xtr_rf {ad : Nat → Nat} {sV : Nat → Value} {o : Option Nat} : xtr ad sV (va_rf o) = va_rf (o.map ad) := by cases o <;> rfl
theorem xtr_cat {ad : Nat → Nat} {sV : Nat → Value} (hs : ∀ i, (sV i).category = 1) (v : Value) : (xtr ad sV v).category = v.category := by
  cases v <;> first | rfl | (show (sV _).category = _; rw [hs]; rfl)
theorem xsz_sum {ad : Nat → Nat} {sV : Nat → Value} (hs : ∀ i, (sV i).category = 1) (st : XV) : ((st.map (xtr ad sV)).map fun v => v.category).sum = xsz st := by
  induction st with
  | nil => rfl
  | cons v vs ih =>
    simp only [List.map_cons, List.sum_cons, xsz, xtr_cat hs]
    rw [ih]
/-! the locals -/
def xlv (ad : Nat → Nat) (sV : Nat → Value) : Nat → XV → List (Nat × Value)
  | _, [] => []
  | i, v :: L => if xmk v then xlv ad sV (i + 1) L else (i, xtr ad sV v) :: xlv ad sV (i + 1) L
theorem xlv_mem {ad : Nat → Nat} {sV : Nat → Value} : ∀ (L : XV) (i : Nat) (q : Nat × Value), q ∈ xlv ad sV i L ↔ ∃ (j : Nat) (v : Value), L[j]? = some v ∧ xmk v = false ∧ q = (i + j, xtr ad sV v)
  | [], i, q => by simp [xlv]
  | v :: L, i, q => by
    have ih := xlv_mem (ad := ad) (sV := sV) L (i + 1) q
    have go : (∃ (j : Nat) (u : Value), L[j]? = some u ∧ xmk u = false ∧ q = (i + 1 + j, xtr ad sV u)) → ∃ (j : Nat) (u : Value), (v :: L)[j]? = some u ∧ xmk u = false ∧ q = (i + j, xtr ad sV u) := by
      rintro ⟨j, u, a, b, c⟩
      exact ⟨j + 1, u, by simpa using a, b, by rw [c]; congr 1; omega⟩
    have back : ∀ (j : Nat) (u : Value), (v :: L)[j + 1]? = some u → xmk u = false → q = (i + (j + 1), xtr ad sV u) → ∃ (j : Nat) (u : Value), L[j]? = some u ∧ xmk u = false ∧ q = (i + 1 + j, xtr ad sV u) := by
      intro j u a b c
      exact ⟨j, u, by simpa using a, b, by rw [c]; congr 1; omega⟩
    by_cases hm : xmk v = true
    · rw [xlv, if_pos hm, ih]
      constructor
      · exact go
      · rintro ⟨j, u, a, b, c⟩
        cases j with
        | zero => simp at a; subst a; rw [hm] at b; cases b
        | succ j => exact back j u a b c
    · rw [xlv, if_neg hm, List.mem_cons, ih]
      constructor
      · rintro (h | h)
        · exact ⟨0, v, rfl, by simpa using hm, h⟩
        · exact go h
      · rintro ⟨j, u, a, b, c⟩
        cases j with
        | zero => simp at a; subst a; exact Or.inl c
        | succ j => exact Or.inr (back j u a b c)
theorem XLs.has {ad : Nat → Nat} {sV : Nat → Value} {nL : Nat} {ls : Array Slot} {L : XV} (h : XLs ad sV nL ls L) : lv_has ls nL (xlv ad sV 0 L) := by
  refine ⟨h.1, h.2.1, fun q hq => ?_⟩
  obtain ⟨j, v, a, b, c⟩ := (xlv_mem L 0 q).mp hq
  rw [c, Nat.zero_add]
  exact h.2.2 j v a b
theorem lget_at {L : XV} {i : Nat} {v : Value} (h : lget L i = v) (hm : xmk v = false) : L[i]? = some v := by
  unfold lget at h
  rw [List.getD_eq_getElem?_getD] at h
  cases hx : L[i]? with
  | none => rw [hx] at h; simp at h; subst h; cases hm
  | some u => rw [hx] at h; simp at h; rw [h]
theorem lget_of {L : XV} {i : Nat} {v : Value} (h : L[i]? = some v) : lget L i = v := by simp [lget, List.getD_eq_getElem?_getD, h]
theorem lset1_get {L : XV} {i j : Nat} {v u : Value} (h : (lset1 L i v)[j]? = some u) : (j = i ∧ u = v) ∨ (j ≠ i ∧ (u = .float 0 ∨ (L[j]? = some u ∧ (j + 1 = i → isL2 u = false)))) := by
  unfold lset1 at h
  by_cases e : j = i
  · subst e
    left
    rw [List.getElem?_set] at h
    simp at h
    exact ⟨rfl, h.2.symm⟩
  · right
    refine ⟨e, ?_⟩
    rw [List.getElem?_set, if_neg (Ne.symm e)] at h
    by_cases i0 : i = 0
    · rw [if_pos i0] at h
      exact Or.inr ⟨h, fun q => by omega⟩
    · rw [if_neg i0] at h
      by_cases hl : isL2 (lget L (i - 1)) = true
      · rw [if_pos hl, List.getElem?_set] at h
        by_cases e2 : i - 1 = j
        · rw [if_pos e2] at h
          split at h
          · left; simpa using h.symm
          · cases h
        · rw [if_neg e2] at h
          exact Or.inr ⟨h, fun q => by omega⟩
      · rw [if_neg hl] at h
        refine Or.inr ⟨h, fun q => ?_⟩
        have : i - 1 = j := by omega
        rw [this, lget_of h] at hl
        simpa using hl
theorem lset1_mem {L : XV} {i : Nat} {v u : Value} (h : u ∈ lset1 L i v) : u = v ∨ u = .float 0 ∨ u ∈ L := by
  obtain ⟨j, hj⟩ := List.getElem?_of_mem h
  rcases lset1_get hj with ⟨-, e⟩ | ⟨-, e | ⟨e, -⟩⟩
  · exact Or.inl e
  · exact Or.inr (Or.inl e)
  · exact Or.inr (Or.inr (List.mem_of_getElem? e))
theorem XLs.set1 {ad : Nat → Nat} {sV : Nat → Value} {nL : Nat} {ls' : Array Slot} {L : XV} {i : Nat} {v : Value} (h' : lv_has ls' nL ((i, xtr ad sV v) :: (xlv ad sV 0 L).filter (fun q => !(q.1 == i) && !(q.1 + 1 == i && q.2.category == 2)))) (hs : ∀ i, (sV i).category = 1) : XLs ad sV nL ls' (lset1 L i v) := by
  refine ⟨h'.1, h'.2.1, fun j u hj hm => ?_⟩
  rcases lset1_get hj with ⟨e1, e2⟩ | ⟨e1, e2 | ⟨e2, e3⟩⟩
  · subst e1; subst e2
    exact h'.2.2 (j, xtr ad sV u) List.mem_cons_self
  · subst e2; cases hm
  · refine h'.2.2 (j, xtr ad sV u) (List.mem_cons_of_mem _ (List.mem_filter.mpr ⟨(xlv_mem L 0 _).mpr ⟨j, u, e2, hm, by simp⟩, ?_⟩))
    simp only [Bool.and_eq_true, Bool.not_eq_true', beq_eq_false_iff_ne, ne_eq, Bool.and_eq_false_iff]
    refine ⟨e1, ?_⟩
    by_cases q : j + 1 = i
    · right
      have h3 := e3 q
      rw [xtr_cat hs]
      cases u <;> first | (show ¬ (1 = 2); omega) | (simp [isL2] at h3)
    · left; exact q
section XOps
variable {p : Program} {l : Launch} {e : Env} {Rm : Room} {s : State} {m : MethodId} {args : Array Value} {below : List Frame} {meth : Method} {c : Code} {dC : Nat → ClassId} {dI : Nat → Nat → Nat} {A : Nat → Prop} {a0 : Nat → Nat} {n0 : Nat} {sV : Nat → Value} {nL mc ms : Nat} {Zf : State → Prop} {cc : ByteArray} {own : String} {ini law : Bool} {sc : Nat × (Nat → Int32)} {K : XK} {pc pc' : Nat} {L st : XV} {S : XS} {I : XI} {J : XJ} {r : XR} {cu su : Nat}
/-- one more on the stack, by a row that needs no more -/
theorem XH.push {ls : Array Slot} {H : Heap} {locs : List Loc} {ws : va_W} {tys : List (ClassId × FieldType)} {st' : XV} (h : XH dC dI A s a0 n0 sV nL mc ms ls H locs ws tys L st S I J r cu su) (hs : ∀ v ∈ st', xok S v) : XH dC dI A s a0 n0 sV nL mc ms ls H locs ws tys L st' S I J r cu su :=
  ⟨h.1, h.2.1, h.2.2.1, hs, h.2.2.2.2⟩
theorem ok_cons {v : Value} (hv : xok S v) (h : ∀ v ∈ st, xok S v) : ∀ u ∈ v :: st, xok S u := fun u hu => by
  rcases List.mem_cons.mp hu with rfl | hu
  · exact hv
  · exact h u hu
theorem ok_tl {v : Value} (h : ∀ u ∈ v :: st, xok S u) : ∀ u ∈ st, xok S u := fun u hu => h u (List.mem_cons_of_mem _ hu)
theorem ok_hd {v : Value} (h : ∀ u ∈ v :: st, xok S u) : xok S v := h v List.mem_cons_self
theorem XFx.cat (F : XFx p s m meth c args Rm cc own nL ini law sc mc ms A sV) : ∀ i, (sV i).category = 1 := fun i => by
  rcases F.2.2.2.2.2.2.2.1.2.2.2.1 i with h | ⟨b, h⟩ <;> rw [h] <;> rfl
/-- a store of one slot -/
theorem XH.st1 {ls ls' : Array Slot} {H : Heap} {locs : List Loc} {ws : va_W} {tys : List (ClassId × FieldType)} {i : Nat} {v : Value} (h : XH dC dI A s a0 n0 sV nL mc ms ls H locs ws tys L st S I J r cu su) (h' : lv_has ls' nL ((i, xtr (xadr ws) sV v) :: (xlv (xadr ws) sV 0 L).filter (fun q => !(q.1 == i) && !(q.1 + 1 == i && q.2.category == 2)))) (hs : ∀ i, (sV i).category = 1) (hv : xok S v) {st' : XV} (hst : ∀ v ∈ st', xok S v) :
    XH dC dI A s a0 n0 sV nL mc ms ls' H locs ws tys (lset1 L i v) st' S I J r cu su :=
  ⟨XLs.set1 h' hs, h.2.1, fun u hu => by
    rcases lset1_mem hu with rfl | rfl | hu
    · exact hv
    · trivial
    · exact h.2.2.1 u hu, hst, h.2.2.2.2⟩
theorem xs_iconst (F : XFx p s m meth c args Rm cc own nL ini law sc mc ms A sV) {d a : Nat} {z : Int32} (hd : (d = 0 ∧ pc' = pc + 1 ∧ decode cc pc = .ok (.iconst z.toInt, 1)) ∨ (d = 1 ∧ pc' = pc + 2 ∧ decode cc pc = .ok (.bipush z.toInt, 2) ∧ (Int8.ofInt z.toInt).toInt32 = z) ∨ (d = 2 ∧ pc' = pc + 3 ∧ decode cc pc = .ok (.sipush z.toInt, 3) ∧ (Int16.ofInt z.toInt).toInt32 = z) ∨ (d = 3 ∧ pc' = pc + 2 ∧ decode cc pc = .ok (.ldc a, 2) ∧ Cond.constant own a z ∈ xW) ∨ (d = 4 ∧ pc' = pc + 3 ∧ decode cc pc = .ok (.ldc_w a, 3) ∧ Cond.constant own a z ∈ xW))
    (k : XW p l e Rm s m args below meth c dC dI A a0 n0 sV nL mc ms Zf pc' L (.int z :: st) S I J r cu su) : XW p l e Rm s m args below meth c dC dI A a0 n0 sV nL mc ms Zf pc L st S I J r cu su := by
  intro ls H locs ws tys h
  have k1 := k ls H locs ws tys (h.push (ok_cons trivial h.2.2.2.1))
  obtain ⟨hx, hb, -, hown, hts, -⟩ := F
  rcases hd with ⟨-, rfl, h1⟩ | ⟨-, rfl, h1, h2⟩ | ⟨-, rfl, h1, h2⟩ | ⟨-, rfl, h1, h2⟩ | ⟨-, rfl, h1, h2⟩
  · exact lv_iconst hx hb h1 (Int32.ofInt_toInt z) k1
  · exact lv_bipush hx hb h1 h2 k1
  · exact lv_sipush hx hb h1 h2 k1
  · exact lv_ldc hx hb hown (hts _ h2) h1 k1
  · exact lv_ldcw hx hb hown (hts _ h2) h1 k1
theorem xs_lconst (F : XFx p s m meth c args Rm cc own nL ini law sc mc ms A sV) {a : Nat} {w : Int64} (hd : (pc' = pc + 1 ∧ ((w = 0 ∧ decode cc pc = .ok (.lconst 0, 1)) ∨ (w = 1 ∧ decode cc pc = .ok (.lconst 1, 1)))) ∨ (pc' = pc + 3 ∧ decode cc pc = .ok (.ldc2_w a, 3) ∧ Cond.constantLong own a w ∈ xW))
    (k : XW p l e Rm s m args below meth c dC dI A a0 n0 sV nL mc ms Zf pc' L (.long w :: st) S I J r cu su) : XW p l e Rm s m args below meth c dC dI A a0 n0 sV nL mc ms Zf pc L st S I J r cu su := by
  intro ls H locs ws tys h
  have k1 := k ls H locs ws tys (h.push (ok_cons trivial h.2.2.2.1))
  obtain ⟨hx, hb, -, hown, hts, -⟩ := F
  rcases hd with ⟨rfl, ⟨rfl, h1⟩ | ⟨rfl, h1⟩⟩ | ⟨rfl, h1, h2⟩
  · exact lv_lconst hx hb h1 (by decide) k1
  · exact lv_lconst hx hb h1 (by decide) k1
  · exact lv_ldc2 hx hb hown (hts _ h2) h1 k1
theorem xs_ldcS (F : XFx p s m meth c args Rm cc own nL ini law sc mc ms A sV) {a b : Nat} {tx : String} (hb29 : b < 29) (hx9 : xstl[b]? = some (own, a, tx)) (hd : decode cc pc = .ok (.ldc a, 2))
    (k : XW p l e Rm s m args below meth c dC dI A a0 n0 sV nL mc ms Zf (pc + 2) L (.retAddr b :: st) S I J r cu su) : XW p l e Rm s m args below meth c dC dI A a0 n0 sV nL mc ms Zf pc L st S I J r cu su := by
  intro ls H locs ws tys h
  have k1 := k ls H locs ws tys (h.push (ok_cons trivial h.2.2.2.1))
  obtain ⟨hx, hb, -, hown, hts, -, -, ⟨⟨adK, adV, -, h9⟩, -⟩, -⟩ := F
  obtain ⟨g1, g2, -⟩ := h9 b hb29
  refine va_ldcS hx hb hown (g1 _ hx9) hd ?_
  have e1 : xtr (xadr ws) sV (.retAddr b) = .ref (adK b) := g2
  rw [List.map_cons, e1] at k1
  exact k1
theorem xs_null (F : XFx p s m meth c args Rm cc own nL ini law sc mc ms A sV) (hd : decode cc pc = .ok (.aconst_null, 1))
    (k : XW p l e Rm s m args below meth c dC dI A a0 n0 sV nL mc ms Zf (pc + 1) L (.null :: st) S I J r cu su) : XW p l e Rm s m args below meth c dC dI A a0 n0 sV nL mc ms Zf pc L st S I J r cu su := by
  intro ls H locs ws tys h
  exact lv_null F.1 F.2.1 hd (k ls H locs ws tys (h.push (ok_cons trivial h.2.2.2.1)))
theorem xs_iload (F : XFx p s m meth c args Rm cc own nL ini law sc mc ms A sV) {a : Nat} {x : Int32} (hg : lget L a = .int x) (hd : (pc' = pc + 1 ∧ ∃ k : Fin 4, (k : Nat) = a ∧ decode cc pc = .ok (.iload_n k, 1)) ∨ (pc' = pc + 2 ∧ decode cc pc = .ok (.iload a, 2)))
    (k : XW p l e Rm s m args below meth c dC dI A a0 n0 sV nL mc ms Zf pc' L (.int x :: st) S I J r cu su) : XW p l e Rm s m args below meth c dC dI A a0 n0 sV nL mc ms Zf pc L st S I J r cu su := by
  intro ls H locs ws tys h
  have k1 := k ls H locs ws tys (h.push (ok_cons trivial h.2.2.2.1))
  have hl := h.1.2.2 a _ (lget_at hg rfl) rfl
  rcases hd with ⟨rfl, f, h0, h1⟩ | ⟨rfl, h1⟩
  · exact lv_iload_n F.1 F.2.1 h1 h0 hl k1
  · exact lv_iload F.1 F.2.1 h1 hl k1
theorem xs_lload (F : XFx p s m meth c args Rm cc own nL ini law sc mc ms A sV) {a : Nat} {x : Int64} (hg : lget L a = .long x) (hd : (pc' = pc + 1 ∧ ∃ k : Fin 4, (k : Nat) = a ∧ decode cc pc = .ok (.lload_n k, 1)) ∨ (pc' = pc + 2 ∧ decode cc pc = .ok (.lload a, 2)))
    (k : XW p l e Rm s m args below meth c dC dI A a0 n0 sV nL mc ms Zf pc' L (.long x :: st) S I J r cu su) : XW p l e Rm s m args below meth c dC dI A a0 n0 sV nL mc ms Zf pc L st S I J r cu su := by
  intro ls H locs ws tys h
  have k1 := k ls H locs ws tys (h.push (ok_cons trivial h.2.2.2.1))
  have hl := h.1.2.2 a _ (lget_at hg rfl) rfl
  rcases hd with ⟨rfl, f, h0, h1⟩ | ⟨rfl, h1⟩
  · exact lv_lload_n F.1 F.2.1 h1 h0 hl k1
  · exact lv_lload F.1 F.2.1 h1 hl k1
theorem lget_mem {i : Nat} {v : Value} (h : lget L i = v) (hm : xmk v = false) : v ∈ L := List.mem_of_getElem? (lget_at h hm)
theorem xs_aload (F : XFx p s m meth c args Rm cc own nL ini law sc mc ms A sV) {a x : Nat} (hg : lget L a = .ref x) (hd : (pc' = pc + 1 ∧ ∃ k : Fin 4, (k : Nat) = a ∧ decode cc pc = .ok (.aload_n k, 1)) ∨ (pc' = pc + 2 ∧ decode cc pc = .ok (.aload a, 2)))
    (k : XW p l e Rm s m args below meth c dC dI A a0 n0 sV nL mc ms Zf pc' L (.ref x :: st) S I J r cu su) : XW p l e Rm s m args below meth c dC dI A a0 n0 sV nL mc ms Zf pc L st S I J r cu su := by
  intro ls H locs ws tys h
  have k1 := k ls H locs ws tys (h.push (ok_cons (h.2.2.1 _ (lget_mem hg rfl)) h.2.2.2.1))
  have hl := h.1.2.2 a _ (lget_at hg rfl) rfl
  rcases hd with ⟨rfl, f, h0, h1⟩ | ⟨rfl, h1⟩
  · exact lv_aload_n F.1 F.2.1 h1 h0 hl k1
  · exact lv_aload F.1 F.2.1 h1 hl k1
theorem xs_aloadR (F : XFx p s m meth c args Rm cc own nL ini law sc mc ms A sV) {a x : Nat} (hg : lget L a = .retAddr x) (hr0 : sV x = .null ∨ ∃ b, sV x = .ref b) (hd : (pc' = pc + 1 ∧ ∃ k : Fin 4, (k : Nat) = a ∧ decode cc pc = .ok (.aload_n k, 1)) ∨ (pc' = pc + 2 ∧ decode cc pc = .ok (.aload a, 2)))
    (k : XW p l e Rm s m args below meth c dC dI A a0 n0 sV nL mc ms Zf pc' L (.retAddr x :: st) S I J r cu su) : XW p l e Rm s m args below meth c dC dI A a0 n0 sV nL mc ms Zf pc L st S I J r cu su := by
  intro ls H locs ws tys h
  have k1 := k ls H locs ws tys (h.push (ok_cons trivial h.2.2.2.1))
  have hl := h.1.2.2 a _ (lget_at hg rfl) rfl
  have e1 : xtr (xadr ws) sV (.retAddr x) = sV x := rfl
  rw [List.map_cons, e1] at k1
  rw [e1] at hl
  rcases hr0 with e2 | ⟨b, e2⟩
  · rw [e2] at k1 hl
    rcases hd with ⟨rfl, f, h0, h1⟩ | ⟨rfl, h1⟩
    · exact lv_aload_nN F.1 F.2.1 h1 h0 hl k1
    · exact lv_aloadN F.1 F.2.1 h1 hl k1
  · rw [e2] at k1 hl
    rcases hd with ⟨rfl, f, h0, h1⟩ | ⟨rfl, h1⟩
    · exact lv_aload_n F.1 F.2.1 h1 h0 hl k1
    · exact lv_aload F.1 F.2.1 h1 hl k1
theorem xs_istore (F : XFx p s m meth c args Rm cc own nL ini law sc mc ms A sV) {a : Nat} {x : Int32} (ha : a < nL) (hd : (pc' = pc + 1 ∧ ∃ k : Fin 4, (k : Nat) = a ∧ decode cc pc = .ok (.istore_n k, 1)) ∨ (pc' = pc + 2 ∧ decode cc pc = .ok (.istore a, 2)))
    (k : XW p l e Rm s m args below meth c dC dI A a0 n0 sV nL mc ms Zf pc' (lset1 L a (.int x)) st S I J r cu su) : XW p l e Rm s m args below meth c dC dI A a0 n0 sV nL mc ms Zf pc L (.int x :: st) S I J r cu su := by
  intro ls H locs ws tys h
  have go : ∀ ls', lv_has ls' nL ((a, Value.int x) :: (xlv (xadr ws) sV 0 L).filter (fun q => !(q.1 == a) && !(q.1 + 1 == a && q.2.category == 2))) → W p l e Rm s m args below meth c H locs cu su Zf (F0 m pc' ls' (st.map (xtr (xadr ws) sV))) :=
    fun ls' h' => k ls' H locs ws tys (XH.st1 (v := .int x) h h' F.cat trivial (ok_tl h.2.2.2.1))
  rcases hd with ⟨rfl, f, h0, h1⟩ | ⟨rfl, h1⟩
  · exact lv_istore_n F.1 F.2.1 h1 h0 h.1.has ha rfl go
  · exact lv_istore F.1 F.2.1 h1 h.1.has ha rfl go
theorem xs_astore (F : XFx p s m meth c args Rm cc own nL ini law sc mc ms A sV) {a x : Nat} (ha : a < nL) (hd : (pc' = pc + 1 ∧ ∃ k : Fin 4, (k : Nat) = a ∧ decode cc pc = .ok (.astore_n k, 1)) ∨ (pc' = pc + 2 ∧ decode cc pc = .ok (.astore a, 2)))
    (k : XW p l e Rm s m args below meth c dC dI A a0 n0 sV nL mc ms Zf pc' (lset1 L a (.ref x)) st S I J r cu su) : XW p l e Rm s m args below meth c dC dI A a0 n0 sV nL mc ms Zf pc L (.ref x :: st) S I J r cu su := by
  intro ls H locs ws tys h
  have go : ∀ ls', lv_has ls' nL ((a, Value.ref (xadr ws x)) :: (xlv (xadr ws) sV 0 L).filter (fun q => !(q.1 == a) && !(q.1 + 1 == a && q.2.category == 2))) → W p l e Rm s m args below meth c H locs cu su Zf (F0 m pc' ls' (st.map (xtr (xadr ws) sV))) :=
    fun ls' h' => k ls' H locs ws tys (XH.st1 (v := .ref x) h h' F.cat (ok_hd h.2.2.2.1) (ok_tl h.2.2.2.1))
  rcases hd with ⟨rfl, f, h0, h1⟩ | ⟨rfl, h1⟩
  · exact lv_astore_n F.1 F.2.1 h1 h0 h.1.has ha rfl go
  · exact lv_astore F.1 F.2.1 h1 h.1.has ha rfl go
theorem xs_astoreN (F : XFx p s m meth c args Rm cc own nL ini law sc mc ms A sV) {a : Nat} (ha : a < nL) (hd : (pc' = pc + 1 ∧ ∃ k : Fin 4, (k : Nat) = a ∧ decode cc pc = .ok (.astore_n k, 1)) ∨ (pc' = pc + 2 ∧ decode cc pc = .ok (.astore a, 2)))
    (k : XW p l e Rm s m args below meth c dC dI A a0 n0 sV nL mc ms Zf pc' (lset1 L a .null) st S I J r cu su) : XW p l e Rm s m args below meth c dC dI A a0 n0 sV nL mc ms Zf pc L (.null :: st) S I J r cu su := by
  intro ls H locs ws tys h
  have go : ∀ ls', lv_has ls' nL ((a, Value.null) :: (xlv (xadr ws) sV 0 L).filter (fun q => !(q.1 == a) && !(q.1 + 1 == a && q.2.category == 2))) → W p l e Rm s m args below meth c H locs cu su Zf (F0 m pc' ls' (st.map (xtr (xadr ws) sV))) :=
    fun ls' h' => k ls' H locs ws tys (XH.st1 (v := .null) h h' F.cat trivial (ok_tl h.2.2.2.1))
  rcases hd with ⟨rfl, f, h0, h1⟩ | ⟨rfl, h1⟩
  · exact lv_astore_nN F.1 F.2.1 h1 h0 h.1.has ha rfl go
  · exact lv_astoreN F.1 F.2.1 h1 h.1.has ha rfl go
theorem XLs.set2 {ad : Nat → Nat} {ls' : Array Slot} {i : Nat} {v : Value} (h' : lv_has ls' nL ((i, xtr ad sV v) :: (xlv ad sV 0 L).filter (fun q => !(q.1 == i) && (!(q.1 == i + 1) && !(q.1 + 1 == i && q.2.category == 2))))) (hs : ∀ i, (sV i).category = 1) : XLs ad sV nL ls' (lset2 L i v) := by
  refine ⟨h'.1, h'.2.1, fun j u hj hm => ?_⟩
  unfold lset2 at hj
  rw [List.getElem?_set] at hj
  by_cases q1 : i + 1 = j
  · rw [if_pos q1] at hj
    split at hj
    · cases hj; cases hm
    · cases hj
  · rw [if_neg q1] at hj
    rcases lset1_get hj with ⟨e1, e2⟩ | ⟨e1, e2 | ⟨e2, e3⟩⟩
    · subst e1; subst e2
      exact h'.2.2 (j, xtr ad sV u) List.mem_cons_self
    · subst e2; cases hm
    · refine h'.2.2 (j, xtr ad sV u) (List.mem_cons_of_mem _ (List.mem_filter.mpr ⟨(xlv_mem L 0 _).mpr ⟨j, u, e2, hm, by simp⟩, ?_⟩))
      simp only [Bool.and_eq_true, Bool.not_eq_true', beq_eq_false_iff_ne, ne_eq, Bool.and_eq_false_iff]
      refine ⟨e1, fun q => q1 q.symm, ?_⟩
      by_cases q : j + 1 = i
      · right
        have h3 := e3 q
        rw [xtr_cat hs]
        cases u <;> first | (show ¬ (1 = 2); omega) | (simp [isL2] at h3)
      · left; exact q
theorem xs_lstore (F : XFx p s m meth c args Rm cc own nL ini law sc mc ms A sV) {a : Nat} {x : Int64} (ha : a + 1 < nL) (hd : (pc' = pc + 1 ∧ ∃ k : Fin 4, (k : Nat) = a ∧ decode cc pc = .ok (.lstore_n k, 1)) ∨ (pc' = pc + 2 ∧ decode cc pc = .ok (.lstore a, 2)))
    (k : XW p l e Rm s m args below meth c dC dI A a0 n0 sV nL mc ms Zf pc' (lset2 L a (.long x)) st S I J r cu su) : XW p l e Rm s m args below meth c dC dI A a0 n0 sV nL mc ms Zf pc L (.long x :: st) S I J r cu su := by
  intro ls H locs ws tys h
  have go : ∀ ls', lv_has ls' nL ((a, Value.long x) :: (xlv (xadr ws) sV 0 L).filter (fun q => !(q.1 == a) && (!(q.1 == a + 1) && !(q.1 + 1 == a && q.2.category == 2)))) → W p l e Rm s m args below meth c H locs cu su Zf (F0 m pc' ls' (st.map (xtr (xadr ws) sV))) := by
    intro ls' h'
    refine k ls' H locs ws tys ⟨XLs.set2 (v := .long x) h' F.cat, h.2.1, fun u hu => ?_, ok_tl h.2.2.2.1, h.2.2.2.2⟩
    rcases List.mem_or_eq_of_mem_set hu with hu | rfl
    · rcases lset1_mem hu with rfl | rfl | hu
      · trivial
      · trivial
      · exact h.2.2.1 u hu
    · trivial
  rcases hd with ⟨rfl, f, h0, h1⟩ | ⟨rfl, h1⟩
  · exact lv_lstore_n F.1 F.2.1 h1 h0 h.1.has ha rfl go
  · exact lv_lstore F.1 F.2.1 h1 h.1.has ha rfl go
theorem xs_iinc (F : XFx p s m meth c args Rm cc own nL ini law sc mc ms A sV) {a : Nat} {x z : Int32} (hg : lget L a = .int x) (ha : a < nL) (hd : decode cc pc = .ok (.iinc a z.toInt, 3))
    (k : XW p l e Rm s m args below meth c dC dI A a0 n0 sV nL mc ms Zf (pc + 3) (lset1 L a (.int (x + z))) st S I J r cu su) : XW p l e Rm s m args below meth c dC dI A a0 n0 sV nL mc ms Zf pc L st S I J r cu su := by
  intro ls H locs ws tys h
  have hm : (a, Value.int x) ∈ xlv (xadr ws) sV 0 L := (xlv_mem L 0 _).mpr ⟨a, .int x, lget_at hg rfl, rfl, by simp [xtr]⟩
  obtain ⟨j, hj⟩ := List.getElem?_of_mem hm
  exact lv_iinc (k := j) F.1 F.2.1 hd h.1.has hj (by rw [Int32.ofInt_toInt]) ha rfl (fun ls' h' => k ls' H locs ws tys (XH.st1 (v := .int (x + z)) h h' F.cat trivial h.2.2.2.1))
theorem xs_iadd (F : XFx p s m meth c args Rm cc own nL ini law sc mc ms A sV) {x y : Int32} (hd : decode cc pc = .ok (.iadd, 1)) (k : XW p l e Rm s m args below meth c dC dI A a0 n0 sV nL mc ms Zf (pc + 1) L (.int (ibin 0 x y) :: st) S I J r cu su) : XW p l e Rm s m args below meth c dC dI A a0 n0 sV nL mc ms Zf pc L (.int y :: .int x :: st) S I J r cu su := by
  intro ls H locs ws tys h
  exact lv_iadd F.1 F.2.1 hd (k ls H locs ws tys (h.push (ok_cons trivial (ok_tl (ok_tl h.2.2.2.1)))))
theorem xs_isub (F : XFx p s m meth c args Rm cc own nL ini law sc mc ms A sV) {x y : Int32} (hd : decode cc pc = .ok (.isub, 1)) (k : XW p l e Rm s m args below meth c dC dI A a0 n0 sV nL mc ms Zf (pc + 1) L (.int (ibin 1 x y) :: st) S I J r cu su) : XW p l e Rm s m args below meth c dC dI A a0 n0 sV nL mc ms Zf pc L (.int y :: .int x :: st) S I J r cu su := by
  intro ls H locs ws tys h
  exact lv_isub F.1 F.2.1 hd (k ls H locs ws tys (h.push (ok_cons trivial (ok_tl (ok_tl h.2.2.2.1)))))
theorem xs_imul (F : XFx p s m meth c args Rm cc own nL ini law sc mc ms A sV) {x y : Int32} (hd : decode cc pc = .ok (.imul, 1)) (k : XW p l e Rm s m args below meth c dC dI A a0 n0 sV nL mc ms Zf (pc + 1) L (.int (ibin 2 x y) :: st) S I J r cu su) : XW p l e Rm s m args below meth c dC dI A a0 n0 sV nL mc ms Zf pc L (.int y :: .int x :: st) S I J r cu su := by
  intro ls H locs ws tys h
  exact lv_imul F.1 F.2.1 hd (k ls H locs ws tys (h.push (ok_cons trivial (ok_tl (ok_tl h.2.2.2.1)))))
theorem xs_iand (F : XFx p s m meth c args Rm cc own nL ini law sc mc ms A sV) {x y : Int32} (hd : decode cc pc = .ok (.iand, 1)) (k : XW p l e Rm s m args below meth c dC dI A a0 n0 sV nL mc ms Zf (pc + 1) L (.int (ibin 3 x y) :: st) S I J r cu su) : XW p l e Rm s m args below meth c dC dI A a0 n0 sV nL mc ms Zf pc L (.int y :: .int x :: st) S I J r cu su := by
  intro ls H locs ws tys h
  exact lv_iand F.1 F.2.1 hd (k ls H locs ws tys (h.push (ok_cons trivial (ok_tl (ok_tl h.2.2.2.1)))))
theorem xs_ior (F : XFx p s m meth c args Rm cc own nL ini law sc mc ms A sV) {x y : Int32} (hd : decode cc pc = .ok (.ior, 1)) (k : XW p l e Rm s m args below meth c dC dI A a0 n0 sV nL mc ms Zf (pc + 1) L (.int (ibin 4 x y) :: st) S I J r cu su) : XW p l e Rm s m args below meth c dC dI A a0 n0 sV nL mc ms Zf pc L (.int y :: .int x :: st) S I J r cu su := by
  intro ls H locs ws tys h
  exact lv_ior F.1 F.2.1 hd (k ls H locs ws tys (h.push (ok_cons trivial (ok_tl (ok_tl h.2.2.2.1)))))
theorem xs_ixor (F : XFx p s m meth c args Rm cc own nL ini law sc mc ms A sV) {x y : Int32} (hd : decode cc pc = .ok (.ixor, 1)) (k : XW p l e Rm s m args below meth c dC dI A a0 n0 sV nL mc ms Zf (pc + 1) L (.int (ibin 5 x y) :: st) S I J r cu su) : XW p l e Rm s m args below meth c dC dI A a0 n0 sV nL mc ms Zf pc L (.int y :: .int x :: st) S I J r cu su := by
  intro ls H locs ws tys h
  exact lv_ixor F.1 F.2.1 hd (k ls H locs ws tys (h.push (ok_cons trivial (ok_tl (ok_tl h.2.2.2.1)))))
theorem xs_ishl (F : XFx p s m meth c args Rm cc own nL ini law sc mc ms A sV) {x y : Int32} (hd : decode cc pc = .ok (.ishl, 1)) (k : XW p l e Rm s m args below meth c dC dI A a0 n0 sV nL mc ms Zf (pc + 1) L (.int (ibin 6 x y) :: st) S I J r cu su) : XW p l e Rm s m args below meth c dC dI A a0 n0 sV nL mc ms Zf pc L (.int y :: .int x :: st) S I J r cu su := by
  intro ls H locs ws tys h
  exact lv_ishl F.1 F.2.1 hd (k ls H locs ws tys (h.push (ok_cons trivial (ok_tl (ok_tl h.2.2.2.1)))))
theorem xs_ishr (F : XFx p s m meth c args Rm cc own nL ini law sc mc ms A sV) {x y : Int32} (hd : decode cc pc = .ok (.ishr, 1)) (k : XW p l e Rm s m args below meth c dC dI A a0 n0 sV nL mc ms Zf (pc + 1) L (.int (ibin 7 x y) :: st) S I J r cu su) : XW p l e Rm s m args below meth c dC dI A a0 n0 sV nL mc ms Zf pc L (.int y :: .int x :: st) S I J r cu su := by
  intro ls H locs ws tys h
  exact lv_ishr F.1 F.2.1 hd (k ls H locs ws tys (h.push (ok_cons trivial (ok_tl (ok_tl h.2.2.2.1)))))
theorem xs_iushr (F : XFx p s m meth c args Rm cc own nL ini law sc mc ms A sV) {x y : Int32} (hd : decode cc pc = .ok (.iushr, 1)) (k : XW p l e Rm s m args below meth c dC dI A a0 n0 sV nL mc ms Zf (pc + 1) L (.int (ibin 8 x y) :: st) S I J r cu su) : XW p l e Rm s m args below meth c dC dI A a0 n0 sV nL mc ms Zf pc L (.int y :: .int x :: st) S I J r cu su := by
  intro ls H locs ws tys h
  exact lv_iushr F.1 F.2.1 hd rfl (k ls H locs ws tys (h.push (ok_cons trivial (ok_tl (ok_tl h.2.2.2.1)))))
theorem xs_ladd (F : XFx p s m meth c args Rm cc own nL ini law sc mc ms A sV) {x y : Int64} (hd : decode cc pc = .ok (.ladd, 1)) (k : XW p l e Rm s m args below meth c dC dI A a0 n0 sV nL mc ms Zf (pc + 1) L (.long (lbin 0 x y) :: st) S I J r cu su) : XW p l e Rm s m args below meth c dC dI A a0 n0 sV nL mc ms Zf pc L (.long y :: .long x :: st) S I J r cu su := by
  intro ls H locs ws tys h
  exact lv_ladd F.1 F.2.1 hd (k ls H locs ws tys (h.push (ok_cons trivial (ok_tl (ok_tl h.2.2.2.1)))))
theorem xs_lsub (F : XFx p s m meth c args Rm cc own nL ini law sc mc ms A sV) {x y : Int64} (hd : decode cc pc = .ok (.lsub, 1)) (k : XW p l e Rm s m args below meth c dC dI A a0 n0 sV nL mc ms Zf (pc + 1) L (.long (lbin 1 x y) :: st) S I J r cu su) : XW p l e Rm s m args below meth c dC dI A a0 n0 sV nL mc ms Zf pc L (.long y :: .long x :: st) S I J r cu su := by
  intro ls H locs ws tys h
  exact lv_lsub F.1 F.2.1 hd (k ls H locs ws tys (h.push (ok_cons trivial (ok_tl (ok_tl h.2.2.2.1)))))
theorem xs_lmul (F : XFx p s m meth c args Rm cc own nL ini law sc mc ms A sV) {x y : Int64} (hd : decode cc pc = .ok (.lmul, 1)) (k : XW p l e Rm s m args below meth c dC dI A a0 n0 sV nL mc ms Zf (pc + 1) L (.long (lbin 2 x y) :: st) S I J r cu su) : XW p l e Rm s m args below meth c dC dI A a0 n0 sV nL mc ms Zf pc L (.long y :: .long x :: st) S I J r cu su := by
  intro ls H locs ws tys h
  exact lv_lmul F.1 F.2.1 hd (k ls H locs ws tys (h.push (ok_cons trivial (ok_tl (ok_tl h.2.2.2.1)))))
theorem xs_land (F : XFx p s m meth c args Rm cc own nL ini law sc mc ms A sV) {x y : Int64} (hd : decode cc pc = .ok (.land, 1)) (k : XW p l e Rm s m args below meth c dC dI A a0 n0 sV nL mc ms Zf (pc + 1) L (.long (lbin 3 x y) :: st) S I J r cu su) : XW p l e Rm s m args below meth c dC dI A a0 n0 sV nL mc ms Zf pc L (.long y :: .long x :: st) S I J r cu su := by
  intro ls H locs ws tys h
  exact lv_land F.1 F.2.1 hd (k ls H locs ws tys (h.push (ok_cons trivial (ok_tl (ok_tl h.2.2.2.1)))))
theorem xs_lor (F : XFx p s m meth c args Rm cc own nL ini law sc mc ms A sV) {x y : Int64} (hd : decode cc pc = .ok (.lor, 1)) (k : XW p l e Rm s m args below meth c dC dI A a0 n0 sV nL mc ms Zf (pc + 1) L (.long (lbin 4 x y) :: st) S I J r cu su) : XW p l e Rm s m args below meth c dC dI A a0 n0 sV nL mc ms Zf pc L (.long y :: .long x :: st) S I J r cu su := by
  intro ls H locs ws tys h
  exact lv_lor F.1 F.2.1 hd (k ls H locs ws tys (h.push (ok_cons trivial (ok_tl (ok_tl h.2.2.2.1)))))
theorem xs_idiv (F : XFx p s m meth c args Rm cc own nL ini law sc mc ms A sV) {x y : Int32} (hy : ¬ y = 0) (hd : decode cc pc = .ok (.idiv, 1)) (k : XW p l e Rm s m args below meth c dC dI A a0 n0 sV nL mc ms Zf (pc + 1) L (.int (x / y) :: st) S I J r cu su) : XW p l e Rm s m args below meth c dC dI A a0 n0 sV nL mc ms Zf pc L (.int y :: .int x :: st) S I J r cu su := by
  intro ls H locs ws tys h
  exact lv_idiv F.1 F.2.1 hd hy (k ls H locs ws tys (h.push (ok_cons trivial (ok_tl (ok_tl h.2.2.2.1)))))
theorem xs_irem (F : XFx p s m meth c args Rm cc own nL ini law sc mc ms A sV) {x y : Int32} (hy : ¬ y = 0) (hd : decode cc pc = .ok (.irem, 1)) (k : XW p l e Rm s m args below meth c dC dI A a0 n0 sV nL mc ms Zf (pc + 1) L (.int (x - x / y * y) :: st) S I J r cu su) : XW p l e Rm s m args below meth c dC dI A a0 n0 sV nL mc ms Zf pc L (.int y :: .int x :: st) S I J r cu su := by
  intro ls H locs ws tys h
  exact lv_irem F.1 F.2.1 hd hy (k ls H locs ws tys (h.push (ok_cons trivial (ok_tl (ok_tl h.2.2.2.1)))))
theorem xs_ldiv (F : XFx p s m meth c args Rm cc own nL ini law sc mc ms A sV) {x y : Int64} (hy : ¬ y = 0) (hd : decode cc pc = .ok (.ldiv, 1)) (k : XW p l e Rm s m args below meth c dC dI A a0 n0 sV nL mc ms Zf (pc + 1) L (.long (x / y) :: st) S I J r cu su) : XW p l e Rm s m args below meth c dC dI A a0 n0 sV nL mc ms Zf pc L (.long y :: .long x :: st) S I J r cu su := by
  intro ls H locs ws tys h
  exact lv_ldiv F.1 F.2.1 hd hy (k ls H locs ws tys (h.push (ok_cons trivial (ok_tl (ok_tl h.2.2.2.1)))))
theorem xs_lrem (F : XFx p s m meth c args Rm cc own nL ini law sc mc ms A sV) {x y : Int64} (hy : ¬ y = 0) (hd : decode cc pc = .ok (.lrem, 1)) (k : XW p l e Rm s m args below meth c dC dI A a0 n0 sV nL mc ms Zf (pc + 1) L (.long (x - x / y * y) :: st) S I J r cu su) : XW p l e Rm s m args below meth c dC dI A a0 n0 sV nL mc ms Zf pc L (.long y :: .long x :: st) S I J r cu su := by
  intro ls H locs ws tys h
  exact lv_lrem F.1 F.2.1 hd hy (k ls H locs ws tys (h.push (ok_cons trivial (ok_tl (ok_tl h.2.2.2.1)))))
theorem xs_lshl (F : XFx p s m meth c args Rm cc own nL ini law sc mc ms A sV) {x : Int64} {y : Int32} (hd : decode cc pc = .ok (.lshl, 1)) (k : XW p l e Rm s m args below meth c dC dI A a0 n0 sV nL mc ms Zf (pc + 1) L (.long (x <<< (y.toInt64 &&& 63)) :: st) S I J r cu su) : XW p l e Rm s m args below meth c dC dI A a0 n0 sV nL mc ms Zf pc L (.int y :: .long x :: st) S I J r cu su := by
  intro ls H locs ws tys h
  exact lv_lshl F.1 F.2.1 hd rfl (k ls H locs ws tys (h.push (ok_cons trivial (ok_tl (ok_tl h.2.2.2.1)))))
theorem xs_lcmp (F : XFx p s m meth c args Rm cc own nL ini law sc mc ms A sV) {x y : Int64} (hd : decode cc pc = .ok (.lcmp, 1)) (k : XW p l e Rm s m args below meth c dC dI A a0 n0 sV nL mc ms Zf (pc + 1) L (.int (lg_cmp x y) :: st) S I J r cu su) : XW p l e Rm s m args below meth c dC dI A a0 n0 sV nL mc ms Zf pc L (.long y :: .long x :: st) S I J r cu su := by
  intro ls H locs ws tys h
  exact W.lcmp F.1 F.2.1 hd (k ls H locs ws tys (h.push (ok_cons trivial (ok_tl (ok_tl h.2.2.2.1)))))
theorem xs_i2l (F : XFx p s m meth c args Rm cc own nL ini law sc mc ms A sV) {x : Int32} (hd : decode cc pc = .ok (.i2l, 1)) (k : XW p l e Rm s m args below meth c dC dI A a0 n0 sV nL mc ms Zf (pc + 1) L (.long (x.toInt64) :: st) S I J r cu su) : XW p l e Rm s m args below meth c dC dI A a0 n0 sV nL mc ms Zf pc L (.int x :: st) S I J r cu su := by
  intro ls H locs ws tys h
  exact lv_i2l F.1 F.2.1 hd rfl (k ls H locs ws tys (h.push (ok_cons trivial (ok_tl h.2.2.2.1))))
theorem xs_l2i (F : XFx p s m meth c args Rm cc own nL ini law sc mc ms A sV) {x : Int64} (hd : decode cc pc = .ok (.l2i, 1)) (k : XW p l e Rm s m args below meth c dC dI A a0 n0 sV nL mc ms Zf (pc + 1) L (.int (x.toInt32) :: st) S I J r cu su) : XW p l e Rm s m args below meth c dC dI A a0 n0 sV nL mc ms Zf pc L (.long x :: st) S I J r cu su := by
  intro ls H locs ws tys h
  exact lv_l2i F.1 F.2.1 hd rfl (k ls H locs ws tys (h.push (ok_cons trivial (ok_tl h.2.2.2.1))))
theorem xs_i2b (F : XFx p s m meth c args Rm cc own nL ini law sc mc ms A sV) {x : Int32} (hd : decode cc pc = .ok (.i2b, 1)) (k : XW p l e Rm s m args below meth c dC dI A a0 n0 sV nL mc ms Zf (pc + 1) L (.int (x.toInt8.toInt32) :: st) S I J r cu su) : XW p l e Rm s m args below meth c dC dI A a0 n0 sV nL mc ms Zf pc L (.int x :: st) S I J r cu su := by
  intro ls H locs ws tys h
  exact lv_i2b F.1 F.2.1 hd rfl (k ls H locs ws tys (h.push (ok_cons trivial (ok_tl h.2.2.2.1))))
theorem xs_i2s (F : XFx p s m meth c args Rm cc own nL ini law sc mc ms A sV) {x : Int32} (hd : decode cc pc = .ok (.i2s, 1)) (k : XW p l e Rm s m args below meth c dC dI A a0 n0 sV nL mc ms Zf (pc + 1) L (.int (x.toInt16.toInt32) :: st) S I J r cu su) : XW p l e Rm s m args below meth c dC dI A a0 n0 sV nL mc ms Zf pc L (.int x :: st) S I J r cu su := by
  intro ls H locs ws tys h
  exact lv_i2s F.1 F.2.1 hd rfl (k ls H locs ws tys (h.push (ok_cons trivial (ok_tl h.2.2.2.1))))
theorem xs_i2c (F : XFx p s m meth c args Rm cc own nL ini law sc mc ms A sV) {x : Int32} (hd : decode cc pc = .ok (.i2c, 1)) (k : XW p l e Rm s m args below meth c dC dI A a0 n0 sV nL mc ms Zf (pc + 1) L (.int ((x.toUInt32 % 65536).toInt32) :: st) S I J r cu su) : XW p l e Rm s m args below meth c dC dI A a0 n0 sV nL mc ms Zf pc L (.int x :: st) S I J r cu su := by
  intro ls H locs ws tys h
  exact lv_i2c F.1 F.2.1 hd rfl (k ls H locs ws tys (h.push (ok_cons trivial (ok_tl h.2.2.2.1))))
theorem xs_lneg (F : XFx p s m meth c args Rm cc own nL ini law sc mc ms A sV) {x : Int64} (hd : decode cc pc = .ok (.lneg, 1)) (k : XW p l e Rm s m args below meth c dC dI A a0 n0 sV nL mc ms Zf (pc + 1) L (.long (-x) :: st) S I J r cu su) : XW p l e Rm s m args below meth c dC dI A a0 n0 sV nL mc ms Zf pc L (.long x :: st) S I J r cu su := by
  intro ls H locs ws tys h
  exact lv_lneg F.1 F.2.1 hd (k ls H locs ws tys (h.push (ok_cons trivial (ok_tl h.2.2.2.1))))
theorem xs_ineg (F : XFx p s m meth c args Rm cc own nL ini law sc mc ms A sV) {x : Int32} (hd : decode cc pc = .ok (.ineg, 1)) (k : XW p l e Rm s m args below meth c dC dI A a0 n0 sV nL mc ms Zf (pc + 1) L (.int (-x) :: st) S I J r cu su) : XW p l e Rm s m args below meth c dC dI A a0 n0 sV nL mc ms Zf pc L (.int x :: st) S I J r cu su := by
  intro ls H locs ws tys h
  exact lv_ineg F.1 F.2.1 hd (k ls H locs ws tys (h.push (ok_cons trivial (ok_tl h.2.2.2.1))))
theorem xs_dup (F : XFx p s m meth c args Rm cc own nL ini law sc mc ms A sV) {v : Value} (hv : v.category = 1) (hd : decode cc pc = .ok (.dup, 1)) (k : XW p l e Rm s m args below meth c dC dI A a0 n0 sV nL mc ms Zf (pc + 1) L (v :: v :: st) S I J r cu su) : XW p l e Rm s m args below meth c dC dI A a0 n0 sV nL mc ms Zf pc L (v :: st) S I J r cu su := by
  intro ls H locs ws tys h
  exact lv_dup F.1 F.2.1 hd (by rw [xtr_cat F.cat]; exact hv) (k ls H locs ws tys (h.push (ok_cons (ok_hd h.2.2.2.1) h.2.2.2.1)))
theorem xs_dup2 (F : XFx p s m meth c args Rm cc own nL ini law sc mc ms A sV) {v u : Value} (hv : v.category = 1) (hu : u.category = 1) (hd : decode cc pc = .ok (.dup2, 1)) (k : XW p l e Rm s m args below meth c dC dI A a0 n0 sV nL mc ms Zf (pc + 1) L (v :: u :: v :: u :: st) S I J r cu su) : XW p l e Rm s m args below meth c dC dI A a0 n0 sV nL mc ms Zf pc L (v :: u :: st) S I J r cu su := by
  intro ls H locs ws tys h
  exact lv_dup2_11 F.1 F.2.1 hd (by rw [xtr_cat F.cat]; exact hv) (by rw [xtr_cat F.cat]; exact hu) (k ls H locs ws tys (h.push (ok_cons (ok_hd h.2.2.2.1) (ok_cons (ok_hd (ok_tl h.2.2.2.1)) h.2.2.2.1))))
theorem xs_pop (F : XFx p s m meth c args Rm cc own nL ini law sc mc ms A sV) {v : Value} (hv : v.category = 1) (hd : decode cc pc = .ok (.pop, 1)) (k : XW p l e Rm s m args below meth c dC dI A a0 n0 sV nL mc ms Zf (pc + 1) L (st) S I J r cu su) : XW p l e Rm s m args below meth c dC dI A a0 n0 sV nL mc ms Zf pc L (v :: st) S I J r cu su := by
  intro ls H locs ws tys h
  exact lv_pop F.1 F.2.1 hd (by rw [xtr_cat F.cat]; exact hv) (k ls H locs ws tys (h.push (ok_tl h.2.2.2.1)))
theorem icnd_cases {d : Nat} (h : d < 6) : d = 0 ∨ d = 1 ∨ d = 2 ∨ d = 3 ∨ d = 4 ∨ d = 5 := by omega
def xcnd (d : Nat) : Jvm.ClassFile.Cond := match d with
  | 0 => .eq
  | 1 => .ne
  | 2 => .lt
  | 3 => .ge
  | 4 => .gt
  | _ => .le
theorem xs_if (F : XFx p s m meth c args Rm cc own nL ini law sc mc ms A sV) {d a : Nat} {x : Int32} (hd6 : d < 6) {off : Int} (hd : decode cc pc = .ok (.ifCond (xcnd d) off, 3)) (ht : (pc : Int) + off = (a : Int)) (kt : icnd d x 0 → XW p l e Rm s m args below meth c dC dI A a0 n0 sV nL mc ms Zf a L (st) S I J r cu su) (kf : ¬ icnd d x 0 → XW p l e Rm s m args below meth c dC dI A a0 n0 sV nL mc ms Zf (pc + 3) L (st) S I J r cu su) : XW p l e Rm s m args below meth c dC dI A a0 n0 sV nL mc ms Zf pc L (.int x :: st) S I J r cu su := by
  intro ls H locs ws tys h
  have k1 := fun q => kt q ls H locs ws tys (h.push (ok_tl h.2.2.2.1))
  have k2 := fun q => kf q ls H locs ws tys (h.push (ok_tl h.2.2.2.1))
  rcases icnd_cases hd6 with rfl | rfl | rfl | rfl | rfl | rfl
  · exact lv_if_eq F.1 F.2.1 hd ht k1 k2
  · exact lv_if_ne F.1 F.2.1 hd ht k1 (fun q => k2 (fun z => z q))
  · exact lv_if_lt F.1 F.2.1 hd ht k1 k2
  · exact lv_if_ge F.1 F.2.1 hd ht k1 k2
  · exact lv_if_gt F.1 F.2.1 hd ht k1 k2
  · exact lv_if_le F.1 F.2.1 hd ht k1 k2
theorem xs_icmp (F : XFx p s m meth c args Rm cc own nL ini law sc mc ms A sV) {d a : Nat} {x y : Int32} (hd6 : d < 6) {off : Int} (hd : decode cc pc = .ok (.if_icmp (xcnd d) off, 3)) (ht : (pc : Int) + off = (a : Int)) (kt : icnd d x y → XW p l e Rm s m args below meth c dC dI A a0 n0 sV nL mc ms Zf a L (st) S I J r cu su) (kf : ¬ icnd d x y → XW p l e Rm s m args below meth c dC dI A a0 n0 sV nL mc ms Zf (pc + 3) L (st) S I J r cu su) : XW p l e Rm s m args below meth c dC dI A a0 n0 sV nL mc ms Zf pc L (.int y :: .int x :: st) S I J r cu su := by
  intro ls H locs ws tys h
  have k1 := fun q => kt q ls H locs ws tys (h.push (ok_tl (ok_tl h.2.2.2.1)))
  have k2 := fun q => kf q ls H locs ws tys (h.push (ok_tl (ok_tl h.2.2.2.1)))
  rcases icnd_cases hd6 with rfl | rfl | rfl | rfl | rfl | rfl
  · exact lv_icmp_eq F.1 F.2.1 hd ht k1 k2
  · exact lv_icmp_ne F.1 F.2.1 hd ht k1 (fun q => k2 (fun z => z q))
  · exact lv_icmp_lt F.1 F.2.1 hd ht k1 k2
  · exact lv_icmp_ge F.1 F.2.1 hd ht k1 k2
  · exact lv_icmp_gt F.1 F.2.1 hd ht k1 k2
  · exact lv_icmp_le F.1 F.2.1 hd ht k1 k2
theorem xs_goto (F : XFx p s m meth c args Rm cc own nL ini law sc mc ms A sV) {a : Nat} {off : Int} (hd : decode cc pc = .ok (.goto off, 3)) (ht : (pc : Int) + off = (a : Int)) (k : XW p l e Rm s m args below meth c dC dI A a0 n0 sV nL mc ms Zf a L (st) S I J r cu su) : XW p l e Rm s m args below meth c dC dI A a0 n0 sV nL mc ms Zf pc L (st) S I J r cu su := by
  intro ls H locs ws tys h
  exact lv_goto F.1 F.2.1 hd ht (k ls H locs ws tys h)
theorem xs_ifnull_N (F : XFx p s m meth c args Rm cc own nL ini law sc mc ms A sV) {a x : Nat} {off : Int} (hd : decode cc pc = .ok (.ifnull off, 3)) (ht : (pc : Int) + off = (a : Int)) (k : XW p l e Rm s m args below meth c dC dI A a0 n0 sV nL mc ms Zf a L (st) S I J r cu su) : XW p l e Rm s m args below meth c dC dI A a0 n0 sV nL mc ms Zf pc L (.null :: st) S I J r cu su := by
  intro ls H locs ws tys h
  exact lv_ifnullN F.1 F.2.1 hd ht (k ls H locs ws tys (h.push (ok_tl h.2.2.2.1)))
theorem xs_ifnull_R (F : XFx p s m meth c args Rm cc own nL ini law sc mc ms A sV) {a x : Nat} {off : Int} (hd : decode cc pc = .ok (.ifnull off, 3)) (ht : (pc : Int) + off = (a : Int)) (k : XW p l e Rm s m args below meth c dC dI A a0 n0 sV nL mc ms Zf (pc + 3) L (st) S I J r cu su) : XW p l e Rm s m args below meth c dC dI A a0 n0 sV nL mc ms Zf pc L (.ref x :: st) S I J r cu su := by
  intro ls H locs ws tys h
  exact lv_ifnull F.1 F.2.1 hd (k ls H locs ws tys (h.push (ok_tl h.2.2.2.1)))
theorem xs_ifnonnull_N (F : XFx p s m meth c args Rm cc own nL ini law sc mc ms A sV) {a x : Nat} {off : Int} (hd : decode cc pc = .ok (.ifnonnull off, 3)) (ht : (pc : Int) + off = (a : Int)) (k : XW p l e Rm s m args below meth c dC dI A a0 n0 sV nL mc ms Zf (pc + 3) L (st) S I J r cu su) : XW p l e Rm s m args below meth c dC dI A a0 n0 sV nL mc ms Zf pc L (.null :: st) S I J r cu su := by
  intro ls H locs ws tys h
  exact lv_ifnonnullN F.1 F.2.1 hd (k ls H locs ws tys (h.push (ok_tl h.2.2.2.1)))
theorem xs_ifnonnull_R (F : XFx p s m meth c args Rm cc own nL ini law sc mc ms A sV) {a x : Nat} {off : Int} (hd : decode cc pc = .ok (.ifnonnull off, 3)) (ht : (pc : Int) + off = (a : Int)) (k : XW p l e Rm s m args below meth c dC dI A a0 n0 sV nL mc ms Zf a L (st) S I J r cu su) : XW p l e Rm s m args below meth c dC dI A a0 n0 sV nL mc ms Zf pc L (.ref x :: st) S I J r cu su := by
  intro ls H locs ws tys h
  exact lv_ifnonnull F.1 F.2.1 hd ht (k ls H locs ws tys (h.push (ok_tl h.2.2.2.1)))
end XOps
end
section
section XOps
variable {p : Program} {l : Launch} {e : Env} {Rm : Room} {s : State} {m : MethodId} {args : Array Value} {below : List Frame} {meth : Method} {c : Code} {dC : Nat → ClassId} {dI : Nat → Nat → Nat} {A : Nat → Prop} {a0 : Nat → Nat} {n0 : Nat} {sV : Nat → Value} {nL mc ms : Nat} {Zf : State → Prop} {cc : ByteArray} {own : String} {ini law : Bool} {sc : Nat × (Nat → Int32)} {K : XK} {pc pc' : Nat} {L st : XV} {S : XS} {I : XI} {J : XJ} {r : XR} {cu su : Nat}
/-! ===== the tables, decided ===== -/
def xC (b : Nat) : vw_C := xcl.getD b (cR0, cT0, 19)
theorem lt11 {b : Nat} (h : b < 11) : b = 0 ∨ b = 1 ∨ b = 2 ∨ b = 3 ∨ b = 4 ∨ b = 5 ∨ b = 6 ∨ b = 7 ∨ b = 8 ∨ b = 9 ∨ b = 10 := by omega
theorem xC_at {b : Nat} (h : b < 11) : xcl[b]? = some ((xC b).1, (xC b).2.1, (xC b).2.2) := by
  rcases lt11 h with rfl | rfl | rfl | rfl | rfl | rfl | rfl | rfl | rfl | rfl | rfl <;> rfl
theorem xC_n {b : Nat} (h : b < 11) : (xC b).2.2 = nfc b := by
  rcases lt11 h with rfl | rfl | rfl | rfl | rfl | rfl | rfl | rfl | rfl | rfl | rfl <;> rfl
def xkof : FieldType → Nat
  | .long => 1
  | .object _ => 2
  | .array _ => 2
  | .int => 0
  | .boolean => 0
  | _ => 9
def xclsOk (b : Nat) : Bool := (List.range (nfc b)).all fun k => xw ((xlyl.getD b []).getD k 0) (u_lay (xC b).1 (xC b).2.1 k) && decide (parseFieldDescriptor ((xC b).2.1 k).2.2.1 = some (xty b k)) && decide (xkof (xty b k) = xkd b k) && (List.range (nfc b)).all fun j => decide (k = j) || decide (((xC b).2.1 k).2.1 ≠ ((xC b).2.1 j).2.1)
theorem xcls_all : ∀ b, b < 11 → xclsOk b = true := by decide +kernel
theorem xcls_one {b k : Nat} (h : b < 11) (hk : k < nfc b) : xw ((xlyl.getD b []).getD k 0) (u_lay (xC b).1 (xC b).2.1 k) = true ∧ parseFieldDescriptor ((xC b).2.1 k).2.2.1 = some (xty b k) ∧ xkof (xty b k) = xkd b k ∧ ∀ j, j < nfc b → k ≠ j → ((xC b).2.1 k).2.1 ≠ ((xC b).2.1 j).2.1 := by
  have h1 := List.all_eq_true.mp (xcls_all b h) k (List.mem_range.mpr hk)
  simp only [Bool.and_eq_true, decide_eq_true_eq] at h1
  refine ⟨h1.1.1.1, h1.1.1.2, h1.1.2, fun j hj hne => ?_⟩
  have h2 := List.all_eq_true.mp h1.2 j (List.mem_range.mpr hj)
  rcases Bool.or_eq_true_iff.mp h2 with q | q
  · exact absurd (of_decide_eq_true q) hne
  · exact of_decide_eq_true q
theorem xlay_in {b : Nat} (h : b < 11) : ∀ w ∈ u_ws (xC b).1 (xC b).2.1 (xC b).2.2, w ∈ xW := by
  intro w hw
  rw [xC_n h] at hw
  obtain ⟨k, hk, rfl⟩ := List.mem_map.mp hw
  exact xw_in (xcls_one h (List.mem_range.mp hk)).1
theorem xobj_get {ad : Nat → Nat} {I : XI} {J : XJ} {r : XR} {t q k : Nat} (h : k < nfc t) : (xobj ad I J r t q)[k]? = some (xfld ad I J r t q k) := by
  simp [xobj, List.getElem?_map, List.getElem?_range h]
theorem xobj_len {ad : Nat → Nat} {I : XI} {J : XJ} {r : XR} {t q : Nat} : (xobj ad I J r t q).length = nfc t := by simp [xobj]
theorem xobj_set {ad : Nat → Nat} {I I' : XI} {J J' : XJ} {r r' : XR} {t q k : Nat} {v : Value} (hv : xfld ad I' J' r' t q k = v) (hne : ∀ j, j ≠ k → xfld ad I' J' r' t q j = xfld ad I J r t q j) : (xobj ad I J r t q).set k v = xobj ad I' J' r' t q := by
  apply List.ext_getElem?
  intro j
  rw [List.getElem?_set]
  by_cases hk : k < nfc t
  · by_cases e : k = j
    · subst e
      rw [if_pos rfl, xobj_len, if_pos hk, xobj_get hk, hv]
    · rw [if_neg e]
      simp only [xobj, List.getElem?_map]
      cases h : (List.range (nfc t))[j]? with
      | none => rfl
      | some i =>
        have : i = j := by
          obtain ⟨h1, h2⟩ := List.getElem?_eq_some_iff.mp h
          simpa using h2.symm
        subst this
        simp [hne i (Ne.symm e)]
  · by_cases e : k = j
    · subst e
      rw [if_pos rfl, xobj_len, if_neg hk]
      symm
      rw [List.getElem?_eq_none_iff, xobj_len]
      omega
    · rw [if_neg e]
      simp only [xobj, List.getElem?_map]
      cases h : (List.range (nfc t))[j]? with
      | none => rfl
      | some i =>
        have : i = j := by
          obtain ⟨h1, h2⟩ := List.getElem?_eq_some_iff.mp h
          simpa using h2.symm
        subst this
        simp [hne i (Ne.symm e)]
theorem xcell_obj {ad : Nat → Nat} {I : XI} {J : XJ} {r : XR} {cA : ClassId} {b n q : Nat} (h : b < 11) : xcell ad I J r cA b n q = .inr (b, xobj ad I J r b q) := if_pos (by omega)
/-- behind a write: the picture of the new memory -/
theorem XH.mem {ls : Array Slot} {H H1 : Heap} {locs locs1 : List Loc} {ws : va_W} {tys : List (ClassId × FieldType)} {st' : XV} (h : XH dC dI A s a0 n0 sV nL mc ms ls H locs ws tys L st S I J r cu su) {q t n : Nat} (hq : S[q]? = some (t, n)) {cA : ClassId} (hc : ws[q]? = some (xadr ws q, xcell (xadr ws) I J r cA t n q)) (hty : 100 ≤ t → ∃ t0 : Nat, tys[t0]? = some (cA, xaty t))
    {I' : XI} {J' : XJ} {r' : XR} {e' : va_E} (he : e' = xcell (xadr ws) I' J' r' cA t n q) (hP1 : va_P (dC, dI) xcl (ws.set q (xadr ws q, e')) H1) (hD1 : va_D A (ws.set q (xadr ws q, e'))) (hS1 : va_S A s.heap H1 locs1)
    (hI : ∀ p, p ≠ q → I' p = I p) (hJ : ∀ p, p ≠ q → J' p = J p) (hr : ∀ p, p ≠ q → r' p = r p) (hv : ∀ k v : Nat, r' q k = some v → v < S.length) (hb : t = 102 → ∀ j, (I' q j).toInt8.toInt32 = I' q j) (hst : ∀ v ∈ st', xok S v) :
    XH dC dI A s a0 n0 sV nL mc ms ls H1 locs1 (ws.set q (xadr ws q, e')) tys L st' S I' J' r' cu su ∧ xadr (ws.set q (xadr ws q, e')) = xadr ws := by
  subst he
  have had := xadr_set (e := xcell (xadr ws) I' J' r' cA t n q) hc
  obtain ⟨h1, ⟨h2, h3, h4, h5, h6⟩, h7, h8, h9⟩ := h
  exact ⟨⟨by rw [had]; exact h1, ⟨h2, hP1, hD1, hS1, h6.set hq hc hty hI hJ hr hv hb⟩, h7, hst, h9⟩, had⟩
theorem xs_getI (F : XFx p s m meth c args Rm cc own nL ini law sc mc ms A sV) {q b d a : Nat} (hb : b < 11) (hk : d < nfc b) (hk0 : xkd b d = 0) (hl : Cond.fieldLink own a ((xC b).2.1 d).1 ((xC b).2.1 d).2.1 ((xC b).2.1 d).2.2.1 ∈ xW) (hd : decode cc pc = .ok (.getfield a, 3)) (hS : S[q]? = some (b, 0))
    (k : XW p l e Rm s m args below meth c dC dI A a0 n0 sV nL mc ms Zf (pc + 3) L (.int (I q d) :: st) S I J r cu su) : XW p l e Rm s m args below meth c dC dI A a0 n0 sV nL mc ms Zf pc L (.ref q :: st) S I J r cu su := by
  intro ls H locs ws tys h
  obtain ⟨cA, g1, -⟩ := h.2.1.2.2.2.2.at hS
  rw [xcell_obj hb] at g1
  have hv := xobj_get (ad := xadr ws) (I := I) (J := J) (r := r) (t := b) (q := q) hk
  have e1 : xfld (xadr ws) I J r b q d = .int (I q d) := by unfold xfld; rw [hk0]; rfl
  rw [e1] at hv
  exact va_get F.1 F.2.1 F.2.2.2.2.1 (xlay_in hb) F.2.2.2.1 h.2.1.1 h.2.1.2.1 q g1 (xC_at hb) d (by rw [xC_n hb]; exact hk) (F.2.2.2.2.1 _ hl) (fun _ h => h) hv hd (k ls H locs ws tys (h.push (ok_cons trivial (ok_tl h.2.2.2.1))))
theorem xs_getJ (F : XFx p s m meth c args Rm cc own nL ini law sc mc ms A sV) {q b d a : Nat} (hb : b < 11) (hk : d < nfc b) (hk0 : xkd b d = 1) (hl : Cond.fieldLink own a ((xC b).2.1 d).1 ((xC b).2.1 d).2.1 ((xC b).2.1 d).2.2.1 ∈ xW) (hd : decode cc pc = .ok (.getfield a, 3)) (hS : S[q]? = some (b, 0))
    (k : XW p l e Rm s m args below meth c dC dI A a0 n0 sV nL mc ms Zf (pc + 3) L (.long (J q d) :: st) S I J r cu su) : XW p l e Rm s m args below meth c dC dI A a0 n0 sV nL mc ms Zf pc L (.ref q :: st) S I J r cu su := by
  intro ls H locs ws tys h
  obtain ⟨cA, g1, -⟩ := h.2.1.2.2.2.2.at hS
  rw [xcell_obj hb] at g1
  have hv := xobj_get (ad := xadr ws) (I := I) (J := J) (r := r) (t := b) (q := q) hk
  have e1 : xfld (xadr ws) I J r b q d = .long (J q d) := by unfold xfld; rw [hk0]; rfl
  rw [e1] at hv
  exact va_get F.1 F.2.1 F.2.2.2.2.1 (xlay_in hb) F.2.2.2.1 h.2.1.1 h.2.1.2.1 q g1 (xC_at hb) d (by rw [xC_n hb]; exact hk) (F.2.2.2.2.1 _ hl) (fun _ h => h) hv hd (k ls H locs ws tys (h.push (ok_cons trivial (ok_tl h.2.2.2.1))))
theorem ok_rf {a0 : Nat → Nat} {n0 : Nat} {tys : List (ClassId × FieldType)} {ws : va_W} (h : XRel a0 n0 tys ws S I J r) (q k : Nat) : xok S (va_rf (r q k)) := by
  cases hv : r q k with
  | none => trivial
  | some v => exact h.2.2.1 q k v hv
theorem xs_getR (F : XFx p s m meth c args Rm cc own nL ini law sc mc ms A sV) {q b d a : Nat} (hb : b < 11) (hk : d < nfc b) (hk0 : xkd b d = 2) (hl : Cond.fieldLink own a ((xC b).2.1 d).1 ((xC b).2.1 d).2.1 ((xC b).2.1 d).2.2.1 ∈ xW) (hd : decode cc pc = .ok (.getfield a, 3)) (hS : S[q]? = some (b, 0))
    (k : XW p l e Rm s m args below meth c dC dI A a0 n0 sV nL mc ms Zf (pc + 3) L (va_rf (r q d) :: st) S I J r cu su) : XW p l e Rm s m args below meth c dC dI A a0 n0 sV nL mc ms Zf pc L (.ref q :: st) S I J r cu su := by
  intro ls H locs ws tys h
  obtain ⟨cA, g1, -⟩ := h.2.1.2.2.2.2.at hS
  rw [xcell_obj hb] at g1
  have hv := xobj_get (ad := xadr ws) (I := I) (J := J) (r := r) (t := b) (q := q) hk
  have e1 : xfld (xadr ws) I J r b q d = xtr (xadr ws) sV (va_rf (r q d)) := by unfold xfld; rw [hk0, xtr_rf]; rfl
  rw [e1] at hv
  exact va_get F.1 F.2.1 F.2.2.2.2.1 (xlay_in hb) F.2.2.2.1 h.2.1.1 h.2.1.2.1 q g1 (xC_at hb) d (by rw [xC_n hb]; exact hk) (F.2.2.2.2.1 _ hl) (fun _ h => h) hv hd (k ls H locs ws tys (h.push (ok_cons (ok_rf h.2.1.2.2.2.2 q d) (ok_tl h.2.2.2.1))))
/-- a putfield, final in a constructor or not -/
theorem xs_put (F : XFx p s m meth c args Rm cc own nL ini law sc mc ms A sV) {q b d a : Nat} {v : Value} {I' : XI} {J' : XJ} {r' : XR} (hb : b < 11) (hk : d < nfc b) (hl : Cond.fieldLink own a ((xC b).2.1 d).1 ((xC b).2.1 d).2.1 ((xC b).2.1 d).2.2.1 ∈ xW) (hf : ((xC b).2.1 d).2.2.2 = false ∨ (((xC b).2.1 d).2.2.2 = true ∧ ini = true ∧ ((xC b).2.1 d).1 = own)) (hd : decode cc pc = .ok (.putfield a, 3)) (hS : S[q]? = some (b, 0))
    (hn : ∀ ad, narrow (xty b d) (xtr ad sV v) = xtr ad sV v) (hfit : ∀ ad, fits (xty b d) (xtr ad sV v) = true) (hv : ∀ ad, xfld ad I' J' r' b q d = xtr ad sV v) (hne : ∀ ad j, j ≠ d → xfld ad I' J' r' b q j = xfld ad I J r b q j)
    (hI : ∀ p, p ≠ q → I' p = I p) (hJ : ∀ p, p ≠ q → J' p = J p) (hr : ∀ p, p ≠ q → r' p = r p) (hrv : xok S v → (∀ k v : Nat, r q k = some v → v < S.length) → ∀ k v : Nat, r' q k = some v → v < S.length)
    (k : XW p l e Rm s m args below meth c dC dI A a0 n0 sV nL mc ms Zf (pc + 3) L st S I' J' r' cu su) : XW p l e Rm s m args below meth c dC dI A a0 n0 sV nL mc ms Zf pc L (v :: .ref q :: st) S I J r cu su := by
  intro ls H locs ws tys h
  obtain ⟨cA, g1, g2⟩ := h.2.1.2.2.2.2.at hS
  have g3 := g1
  rw [xcell_obj hb] at g3
  have hty := fun j (hj : j < (xC b).2.2) => (xcls_one hb (by rw [xC_n hb] at hj; exact hj) : _ ∧ parseFieldDescriptor ((xC b).2.1 j).2.2.1 = some (xty b j) ∧ _ ∧ _).2.1
  have hnm : ∀ a', a' < (xC b).2.2 → ∀ b', b' < (xC b).2.2 → a' ≠ b' → ((xC b).2.1 a').2.1 ≠ ((xC b).2.1 b').2.1 := fun a' ha' b' hb' hab => by
    rw [xC_n hb] at ha' hb'
    exact (xcls_one hb ha').2.2.2 b' hb' hab
  have hk' : d < (xC b).2.2 := by rw [xC_n hb]; exact hk
  have hdf := (xcls_one hb hk).2.1
  have eS : (xobj (xadr ws) I J r b q).set d (xtr (xadr ws) sV v) = xobj (xadr ws) I' J' r' b q := xobj_set (hv _) (hne _)
  have eX : (Sum.inr (b, (xobj (xadr ws) I J r b q).set d (xtr (xadr ws) sV v)) : va_E) = xcell (xadr ws) I' J' r' cA b 0 q := by rw [eS, xcell_obj hb]
  have go : ∀ (H1 : Heap) (locs1 : List Loc), va_P (dC, dI) xcl (ws.set q (xadr ws q, .inr (b, (xobj (xadr ws) I J r b q).set d (xtr (xadr ws) sV v)))) H1 → va_D A (ws.set q (xadr ws q, .inr (b, (xobj (xadr ws) I J r b q).set d (xtr (xadr ws) sV v)))) → va_S A s.heap H1 locs1 → W p l e Rm s m args below meth c H1 locs1 cu su Zf (F0 m (pc + 3) ls (st.map (xtr (xadr ws) sV))) := by
    intro H1 locs1 hP1 hD1 hS1
    obtain ⟨x1, x2⟩ := XH.mem h hS g1 g2 eX hP1 hD1 hS1 hI hJ hr (hrv (ok_hd h.2.2.2.1) (fun k v hv => h.2.1.2.2.2.2.2.2.1 q k v hv)) (fun e => by omega) (ok_tl (ok_tl h.2.2.2.1))
    have k1 := k ls H1 locs1 _ tys x1
    rw [x2] at k1
    exact k1
  rcases hf with hf | ⟨hf, hi, hdec⟩
  · exact va_put F.1 F.2.1 F.2.2.2.2.1 (xlay_in hb) (xty b) hty hnm F.2.2.2.1 h.2.1.1 h.2.1.2.1 h.2.1.2.2.1 h.2.1.2.2.2.1 q g3 (xC_at hb) d hk' (F.2.2.2.2.1 _ hl) (fun _ h => h) hf hdf (hn _) (hfit _) (by rw [xobj_len]; exact hk) hd go
  · exact va_putF F.1 F.2.1 F.2.2.2.2.1 (xlay_in hb) (xty b) hty hnm F.2.2.2.1 h.2.1.1 h.2.1.2.1 h.2.1.2.2.1 h.2.1.2.2.2.1 q g3 (xC_at hb) d hk' (F.2.2.2.2.1 _ hl) (fun _ h => h) hf (F.2.2.2.2.2.1 hi) hdec hdf (hn _) (hfit _) (by rw [xobj_len]; exact hk) hd go
theorem xfld_ne {ad : Nat → Nat} {I I' : XI} {J J' : XJ} {r r' : XR} {b q j : Nat} (hI : I' q j = I q j) (hJ : J' q j = J q j) (hr : r' q j = r q j) : xfld ad I' J' r' b q j = xfld ad I J r b q j := by unfold xfld; rw [hI, hJ, hr]
theorem up2_at {α : Type} {f : Nat → Nat → α} {a i : Nat} {v : α} : up2 f a i v a i = v := by simp [up2]
theorem up2_j {α : Type} {f : Nat → Nat → α} {a i j : Nat} {v : α} (h : j ≠ i) : up2 f a i v a j = f a j := by simp [up2, h]
theorem narrow_int {x : Int32} : narrow .int (.int x) = .int x := rfl
theorem xs_putI (F : XFx p s m meth c args Rm cc own nL ini law sc mc ms A sV) {q b d a : Nat} {x : Int32} (hb : b < 11) (hk : d < nfc b) (hk0 : xkd b d = 0) (ht : xty b d = .int ∨ (xty b d = .boolean ∧ (x = 0 ∨ x = 1))) (hl : Cond.fieldLink own a ((xC b).2.1 d).1 ((xC b).2.1 d).2.1 ((xC b).2.1 d).2.2.1 ∈ xW) (hf : ((xC b).2.1 d).2.2.2 = false ∨ (((xC b).2.1 d).2.2.2 = true ∧ ini = true ∧ ((xC b).2.1 d).1 = own)) (hd : decode cc pc = .ok (.putfield a, 3)) (hS : S[q]? = some (b, 0))
    (k : XW p l e Rm s m args below meth c dC dI A a0 n0 sV nL mc ms Zf (pc + 3) L st S (up2 I q d x) J r cu su) : XW p l e Rm s m args below meth c dC dI A a0 n0 sV nL mc ms Zf pc L (.int x :: .ref q :: st) S I J r cu su := by
  refine xs_put F hb hk hl hf hd hS (fun ad => ?_) (fun ad => ?_) (fun ad => ?_) (fun ad j hj => ?_) (fun p hp => up2_ne hp) (fun _ _ => rfl) (fun _ _ => rfl) (fun _ h => h) k
  · rcases ht with e | ⟨e, rfl | rfl⟩ <;> rw [e] <;> rfl
  · rcases ht with e | ⟨e, rfl | rfl⟩ <;> rw [e] <;> rfl
  · unfold xfld; rw [hk0]; show Value.int (up2 I q d x q d) = _; rw [up2_at]; rfl
  · exact xfld_ne (up2_j hj) rfl rfl
theorem xs_putJ (F : XFx p s m meth c args Rm cc own nL ini law sc mc ms A sV) {q b d a : Nat} {x : Int64} (hb : b < 11) (hk : d < nfc b) (hk0 : xkd b d = 1) (hl : Cond.fieldLink own a ((xC b).2.1 d).1 ((xC b).2.1 d).2.1 ((xC b).2.1 d).2.2.1 ∈ xW) (hf : ((xC b).2.1 d).2.2.2 = false ∨ (((xC b).2.1 d).2.2.2 = true ∧ ini = true ∧ ((xC b).2.1 d).1 = own)) (hd : decode cc pc = .ok (.putfield a, 3)) (hS : S[q]? = some (b, 0))
    (k : XW p l e Rm s m args below meth c dC dI A a0 n0 sV nL mc ms Zf (pc + 3) L st S I (up2 J q d x) r cu su) : XW p l e Rm s m args below meth c dC dI A a0 n0 sV nL mc ms Zf pc L (.long x :: .ref q :: st) S I J r cu su := by
  have ht : xty b d = .long := by
    have h1 := (xcls_one hb hk).2.2.1
    rw [hk0] at h1
    cases hx : xty b d <;> rw [hx] at h1 <;> first | rfl | simp [xkof] at h1
  refine xs_put F hb hk hl hf hd hS (fun ad => ?_) (fun ad => ?_) (fun ad => ?_) (fun ad j hj => ?_) (fun _ _ => rfl) (fun p hp => up2_ne hp) (fun _ _ => rfl) (fun _ h => h) k
  · rw [ht]; rfl
  · rw [ht]; rfl
  · unfold xfld; rw [hk0]; show Value.long (up2 J q d x q d) = _; rw [up2_at]; rfl
  · exact xfld_ne rfl (up2_j hj) rfl
theorem xs_putR (F : XFx p s m meth c args Rm cc own nL ini law sc mc ms A sV) {q b d a x : Nat} (hb : b < 11) (hk : d < nfc b) (hk0 : xkd b d = 2) (hl : Cond.fieldLink own a ((xC b).2.1 d).1 ((xC b).2.1 d).2.1 ((xC b).2.1 d).2.2.1 ∈ xW) (hf : ((xC b).2.1 d).2.2.2 = false ∨ (((xC b).2.1 d).2.2.2 = true ∧ ini = true ∧ ((xC b).2.1 d).1 = own)) (hd : decode cc pc = .ok (.putfield a, 3)) (hS : S[q]? = some (b, 0))
    (k : XW p l e Rm s m args below meth c dC dI A a0 n0 sV nL mc ms Zf (pc + 3) L st S I J (up2 r q d (some x)) cu su) : XW p l e Rm s m args below meth c dC dI A a0 n0 sV nL mc ms Zf pc L (.ref x :: .ref q :: st) S I J r cu su := by
  have h1 := (xcls_one hb hk).2.2.1
  rw [hk0] at h1
  refine xs_put F hb hk hl hf hd hS (fun ad => ?_) (fun ad => ?_) (fun ad => ?_) (fun ad j hj => ?_) (fun _ _ => rfl) (fun _ _ => rfl) (fun p hp => up2_ne hp) (fun hv hh k' v' hk' => ?_) k
  · cases hx : xty b d <;> rw [hx] at h1 <;> first | rfl | (simp [xkof] at h1)
  · cases hx : xty b d <;> rw [hx] at h1 <;> first | rfl | (simp [xkof] at h1)
  · unfold xfld; rw [hk0]; show va_rf ((up2 r q d (some x) q d).map ad) = _; rw [up2_at]; rfl
  · exact xfld_ne rfl rfl (up2_j hj)
  · by_cases e : k' = d
    · subst e
      rw [up2_at] at hk'
      cases hk'
      exact hv
    · rw [up2_j e] at hk'
      exact hh k' v' hk'
/-! arrays -/
theorem xs_alen (F : XFx p s m meth c args Rm cc own nL ini law sc mc ms A sV) {q t n : Nat} (hS : S[q]? = some (t, n)) (ht : 100 ≤ t) (hd : decode cc pc = .ok (.arraylength, 1))
    (k : XW p l e Rm s m args below meth c dC dI A a0 n0 sV nL mc ms Zf (pc + 1) L (.int (nI n) :: st) S I J r cu su) : XW p l e Rm s m args below meth c dC dI A a0 n0 sV nL mc ms Zf pc L (.ref q :: st) S I J r cu su := by
  intro ls H locs ws tys h
  obtain ⟨cA, g1, g2⟩ := h.2.1.2.2.2.2.at hS
  obtain ⟨t0, g2⟩ := g2 ht
  have e1 : xcell (xadr ws) I J r cA t n q = .inl (cA, xarr (xadr ws) I J r t n q) := if_neg (by omega)
  rw [e1] at g1
  have e2 : (xarr (xadr ws) I J r t n q).1 = n := by unfold xarr; split <;> rfl
  exact va_alen F.1 F.2.1 h.2.1.1 h.2.1.2.1 q t0 g1 g2 (by rw [e2]; rfl) hd (k ls H locs ws tys (h.push (ok_cons trivial (ok_tl h.2.2.2.1))))
theorem xs_iald (F : XFx p s m meth c args Rm cc own nL ini law sc mc ms A sV) {q n : Nat} {i : Int32} (hS : S[q]? = some (100, n)) (hin : vp_in i n) (hd : decode cc pc = .ok (.iaload, 1))
    (k : XW p l e Rm s m args below meth c dC dI A a0 n0 sV nL mc ms Zf (pc + 1) L (.int (I q i.toNatClampNeg) :: st) S I J r cu su) : XW p l e Rm s m args below meth c dC dI A a0 n0 sV nL mc ms Zf pc L (.int i :: .ref q :: st) S I J r cu su := by
  intro ls H locs ws tys h
  obtain ⟨cA, g1, g2⟩ := h.2.1.2.2.2.2.at hS
  obtain ⟨t0, g2⟩ := g2 (by omega)
  exact va_iald F.1 F.2.1 h.2.1.1 h.2.1.2.1 q t0 g1 g2 hin hd (k ls H locs ws tys (h.push (ok_cons trivial (ok_tl (ok_tl h.2.2.2.1)))))
theorem xs_bald (F : XFx p s m meth c args Rm cc own nL ini law sc mc ms A sV) {q n : Nat} {i : Int32} (hS : S[q]? = some (102, n)) (hin : vp_in i n) (hd : decode cc pc = .ok (.baload, 1))
    (k : XW p l e Rm s m args below meth c dC dI A a0 n0 sV nL mc ms Zf (pc + 1) L (.int (I q i.toNatClampNeg) :: st) S I J r cu su) : XW p l e Rm s m args below meth c dC dI A a0 n0 sV nL mc ms Zf pc L (.int i :: .ref q :: st) S I J r cu su := by
  intro ls H locs ws tys h
  obtain ⟨cA, g1, g2⟩ := h.2.1.2.2.2.2.at hS
  obtain ⟨t0, g2⟩ := g2 (by omega)
  exact va_bald F.1 F.2.1 h.2.1.1 h.2.1.2.1 q t0 g1 g2 hin hd (k ls H locs ws tys (h.push (ok_cons trivial (ok_tl (ok_tl h.2.2.2.1)))))
theorem xs_lald (F : XFx p s m meth c args Rm cc own nL ini law sc mc ms A sV) {q n : Nat} {i : Int32} (hS : S[q]? = some (101, n)) (hin : vp_in i n) (hd : decode cc pc = .ok (.laload, 1))
    (k : XW p l e Rm s m args below meth c dC dI A a0 n0 sV nL mc ms Zf (pc + 1) L (.long (J q i.toNatClampNeg) :: st) S I J r cu su) : XW p l e Rm s m args below meth c dC dI A a0 n0 sV nL mc ms Zf pc L (.int i :: .ref q :: st) S I J r cu su := by
  intro ls H locs ws tys h
  obtain ⟨cA, g1, g2⟩ := h.2.1.2.2.2.2.at hS
  obtain ⟨t0, g2⟩ := g2 (by omega)
  exact va_lald F.1 F.2.1 h.2.1.1 h.2.1.2.1 q t0 g1 g2 hin hd (k ls H locs ws tys (h.push (ok_cons trivial (ok_tl (ok_tl h.2.2.2.1)))))
theorem xs_aald (F : XFx p s m meth c args Rm cc own nL ini law sc mc ms A sV) {q t n : Nat} {i : Int32} (hS : S[q]? = some (t, n)) (ht : 103 ≤ t) (hin : vp_in i n) (hd : decode cc pc = .ok (.aaload, 1))
    (k : XW p l e Rm s m args below meth c dC dI A a0 n0 sV nL mc ms Zf (pc + 1) L (va_rf (r q i.toNatClampNeg) :: st) S I J r cu su) : XW p l e Rm s m args below meth c dC dI A a0 n0 sV nL mc ms Zf pc L (.int i :: .ref q :: st) S I J r cu su := by
  intro ls H locs ws tys h
  obtain ⟨cA, g1, g2⟩ := h.2.1.2.2.2.2.at hS
  obtain ⟨t0, g2⟩ := g2 (by omega)
  have e1 : xcell (xadr ws) I J r cA t n q = .inl (cA, n, .inr (.inr (.inr (.inr (fun j => (r q j).map (xadr ws)))))) := by
    unfold xcell
    rw [if_neg (by omega)]
    unfold xarr
    split <;> first | omega | rfl
  rw [e1] at g1
  have k1 := k ls H locs ws tys (h.push (ok_cons (ok_rf h.2.1.2.2.2.2 q _) (ok_tl (ok_tl h.2.2.2.1))))
  rw [List.map_cons, xtr_rf] at k1
  have hlt : i.toNatClampNeg < n := Nat.not_le.mp fun q => hin (Or.inr q)
  have hty : refKind (xaty t) = true := by unfold xaty; split <;> first | omega | rfl
  exact W.aald (v := va_rf ((r q i.toNatClampNeg).map (xadr ws))) (ty := xaty t) F.1 F.2.1 (h.2.1.2.1 q _ g1) ((h.2.1.1.2 t0 _ g2).1 n (fun j => va_rf ((r q j).map (xadr ws)))) hty (fun q => by cases q) (by show ¬ (i < 0 ∨ (arrV _ _ _).slots.size ≤ _); rw [arrV_size]; exact hin) (by show (arrV _ _ _).slots[_]? = _; rw [arrV_read _ _ hlt]) rfl rfl hd k1
theorem xs_iast (F : XFx p s m meth c args Rm cc own nL ini law sc mc ms A sV) {q n : Nat} {i x : Int32} (hS : S[q]? = some (100, n)) (hin : vp_in i n) (hd : decode cc pc = .ok (.iastore, 1))
    (k : XW p l e Rm s m args below meth c dC dI A a0 n0 sV nL mc ms Zf (pc + 1) L st S (up2 I q i.toNatClampNeg x) J r cu su) : XW p l e Rm s m args below meth c dC dI A a0 n0 sV nL mc ms Zf pc L (.int x :: .int i :: .ref q :: st) S I J r cu su := by
  intro ls H locs ws tys h
  obtain ⟨cA, g1, g3⟩ := h.2.1.2.2.2.2.at hS
  obtain ⟨t0, g2⟩ := g3 (by omega)
  refine va_iast F.1 F.2.1 h.2.1.1 h.2.1.2.1 h.2.1.2.2.1 h.2.1.2.2.2.1 q t0 g1 g2 hin hd (fun H1 locs1 hP1 hD1 hS1 => ?_)
  obtain ⟨x1, x2⟩ := XH.mem (I' := up2 I q i.toNatClampNeg x) (J' := J) (r' := r) h hS g1 g3 (by rw [upd_up2]; rfl) hP1 hD1 hS1 (fun p hp => up2_ne hp) (fun _ _ => rfl) (fun _ _ => rfl) (fun k v hv => h.2.1.2.2.2.2.2.2.1 q k v hv) (fun e => by omega) (ok_tl (ok_tl (ok_tl h.2.2.2.1)))
  have k1 := k ls H1 locs1 _ tys x1
  rw [x2] at k1
  exact k1
theorem toInt8_idem (x : Int32) : (x.toInt8.toInt32).toInt8.toInt32 = x.toInt8.toInt32 := by simp
theorem xs_bast (F : XFx p s m meth c args Rm cc own nL ini law sc mc ms A sV) {q n : Nat} {i x : Int32} (hS : S[q]? = some (102, n)) (hin : vp_in i n) (hd : decode cc pc = .ok (.bastore, 1))
    (k : XW p l e Rm s m args below meth c dC dI A a0 n0 sV nL mc ms Zf (pc + 1) L st S (up2 I q i.toNatClampNeg x.toInt8.toInt32) J r cu su) : XW p l e Rm s m args below meth c dC dI A a0 n0 sV nL mc ms Zf pc L (.int x :: .int i :: .ref q :: st) S I J r cu su := by
  intro ls H locs ws tys h
  obtain ⟨cA, g1, g3⟩ := h.2.1.2.2.2.2.at hS
  obtain ⟨t0, g2⟩ := g3 (by omega)
  refine va_bast F.1 F.2.1 h.2.1.1 h.2.1.2.1 h.2.1.2.2.1 h.2.1.2.2.2.1 q t0 g1 g2 hin hd (fun H1 locs1 hP1 hD1 hS1 => ?_)
  obtain ⟨x1, x2⟩ := XH.mem (I' := up2 I q i.toNatClampNeg x.toInt8.toInt32) (J' := J) (r' := r) h hS g1 g3 (by rw [upd_up2]; rfl) hP1 hD1 hS1 (fun p hp => up2_ne hp) (fun _ _ => rfl) (fun _ _ => rfl) (fun k v hv => h.2.1.2.2.2.2.2.2.1 q k v hv) (fun _ j => by
    by_cases e : j = i.toNatClampNeg
    · subst e; rw [up2_at]; exact toInt8_idem x
    · rw [up2_j e]; exact h.2.1.2.2.2.2.2.2.2.1 q n j hS) (ok_tl (ok_tl (ok_tl h.2.2.2.1)))
  have k1 := k ls H1 locs1 _ tys x1
  rw [x2] at k1
  exact k1
theorem xs_last (F : XFx p s m meth c args Rm cc own nL ini law sc mc ms A sV) {q n : Nat} {i : Int32} {x : Int64} (hS : S[q]? = some (101, n)) (hin : vp_in i n) (hd : decode cc pc = .ok (.lastore, 1))
    (k : XW p l e Rm s m args below meth c dC dI A a0 n0 sV nL mc ms Zf (pc + 1) L st S I (up2 J q i.toNatClampNeg x) r cu su) : XW p l e Rm s m args below meth c dC dI A a0 n0 sV nL mc ms Zf pc L (.long x :: .int i :: .ref q :: st) S I J r cu su := by
  intro ls H locs ws tys h
  obtain ⟨cA, g1, g3⟩ := h.2.1.2.2.2.2.at hS
  obtain ⟨t0, g2⟩ := g3 (by omega)
  refine va_last F.1 F.2.1 h.2.1.1 h.2.1.2.1 h.2.1.2.2.1 h.2.1.2.2.2.1 q t0 g1 g2 hin hd (fun H1 locs1 hP1 hD1 hS1 => ?_)
  obtain ⟨x1, x2⟩ := XH.mem (I' := I) (J' := up2 J q i.toNatClampNeg x) (r' := r) h hS g1 g3 (by rw [updL_up2]; rfl) hP1 hD1 hS1 (fun _ _ => rfl) (fun p hp => up2_ne hp) (fun _ _ => rfl) (fun k v hv => h.2.1.2.2.2.2.2.2.1 q k v hv) (fun e => by omega) (ok_tl (ok_tl (ok_tl h.2.2.2.1)))
  have k1 := k ls H1 locs1 _ tys x1
  rw [x2] at k1
  exact k1
theorem xs_aast (F : XFx p s m meth c args Rm cc own nL ini law sc mc ms A sV) {q n v : Nat} {i : Int32} (hS : S[q]? = some (103, n)) (hV : S[v]? = some (0, 0)) (hin : vp_in i n) (hd : decode cc pc = .ok (.aastore, 1))
    (k : XW p l e Rm s m args below meth c dC dI A a0 n0 sV nL mc ms Zf (pc + 1) L st S I J (up2 r q i.toNatClampNeg (some v)) cu su) : XW p l e Rm s m args below meth c dC dI A a0 n0 sV nL mc ms Zf pc L (.ref v :: .int i :: .ref q :: st) S I J r cu su := by
  intro ls H locs ws tys h
  obtain ⟨cA, g1, g3⟩ := h.2.1.2.2.2.2.at hS
  obtain ⟨t0, g2⟩ := g3 (by omega)
  obtain ⟨cV, v1, -⟩ := h.2.1.2.2.2.2.at hV
  rw [xcell_obj (by decide)] at v1
  refine va_astq F.1 F.2.1 h.2.1.1 h.2.1.2.1 h.2.1.2.2.1 h.2.1.2.2.2.1 q t0 v 0 (r := (cR0, cT0, 19)) g1 g2 v1 rfl hin hd (fun H1 locs1 hP1 hD1 hS1 => ?_)
  obtain ⟨x1, x2⟩ := XH.mem (I' := I) (J' := J) (r' := up2 r q i.toNatClampNeg (some v)) h hS g1 g3 (by
    show _ = (Sum.inl (cA, n, .inr (.inr (.inr (.inr (fun j => (up2 r q i.toNatClampNeg (some v) q j).map (xadr ws)))))) : va_E)
    have e9 : va_up (fun j => (r q j).map (xadr ws)) i.toNatClampNeg (some (xadr ws v)) = fun j => (up2 r q i.toNatClampNeg (some v) q j).map (xadr ws) := by
      funext j
      rw [up2_same]
      unfold va_up
      by_cases e : j = i.toNatClampNeg
      · simp [e]
      · simp [e]
    rw [e9]) hP1 hD1 hS1 (fun _ _ => rfl) (fun _ _ => rfl) (fun p hp => up2_ne hp) (fun k' v' hv => by
    by_cases e : k' = i.toNatClampNeg
    · subst e
      rw [up2_at] at hv
      cases hv
      exact (List.getElem?_eq_some_iff.mp hV).1
    · rw [up2_j e] at hv
      exact h.2.1.2.2.2.2.2.2.1 q k' v' hv) (fun e => by omega) (ok_tl (ok_tl (ok_tl h.2.2.2.1)))
  have k1 := k ls H1 locs1 _ tys x1
  rw [x2] at k1
  exact k1
end XOps
end
section
section XOps
variable {p : Program} {l : Launch} {e : Env} {Rm : Room} {s : State} {m : MethodId} {args : Array Value} {below : List Frame} {meth : Method} {c : Code} {dC : Nat → ClassId} {dI : Nat → Nat → Nat} {A : Nat → Prop} {a0 : Nat → Nat} {n0 : Nat} {sV : Nat → Value} {nL mc ms : Nat} {Zf : State → Prop} {cc : ByteArray} {own : String} {ini law : Bool} {sc : Nat × (Nat → Int32)} {K : XK} {pc pc' : Nat} {L st : XV} {S : XS} {I : XI} {J : XJ} {r : XR} {cu su : Nat}
/-! making -/
theorem xadr_app {ws : va_W} {x : Nat × va_E} {k : Nat} (h : k < ws.length) : xadr (ws ++ [x]) k = xadr ws k := by simp [xadr, List.getElem?_append_left h]
theorem xadr_appl {ws l : va_W} {k : Nat} (h : k < ws.length) : xadr (ws ++ l) k = xadr ws k := by simp [xadr, List.getElem?_append_left h]
theorem xtr_congr {ad ad' : Nat → Nat} {v : Value} (hv : xok S v) (h : ∀ k, k < S.length → ad' k = ad k) : xtr ad' sV v = xtr ad sV v := by
  cases v with
  | ref k => show Value.ref _ = Value.ref _; rw [h k hv]
  | _ => rfl
theorem map_congr {ad ad' : Nat → Nat} (hst : ∀ v ∈ st, xok S v) (h : ∀ k, k < S.length → ad' k = ad k) : st.map (xtr ad' sV) = st.map (xtr ad sV) := List.map_congr_left fun v hv => xtr_congr (hst v hv) h
theorem XLs.congr {ad ad' : Nat → Nat} {ls : Array Slot} (hL : ∀ v ∈ L, xok S v) (h : ∀ k, k < S.length → ad' k = ad k) (x : XLs ad sV nL ls L) : XLs ad' sV nL ls L :=
  ⟨x.1, x.2.1, fun i v hi hm => by rw [xtr_congr (hL v (List.mem_of_getElem? hi)) h]; exact x.2.2 i v hi hm⟩
/-- an old cell's picture, behind a making: nothing of it has changed -/
theorem xcell_congr {ad ad' : Nat → Nat} {I' : XI} {J' : XJ} {r' : XR} {cA : ClassId} {t n q : Nat} (hI : I' q = I q) (hJ : J' q = J q) (hr : r' q = r q) (hv : ∀ k v : Nat, r q k = some v → v < S.length) (h : ∀ k, k < S.length → ad' k = ad k) : xcell ad' I' J' r' cA t n q = xcell ad I J r cA t n q := by
  have e : ∀ k, (r q k).map ad' = (r q k).map ad := fun k => by
    cases hk : r q k with
    | none => rfl
    | some v => simp [h v (hv k v hk)]
  unfold xcell
  split
  · congr 2
    unfold xobj
    congr 1
    funext k
    unfold xfld
    rw [hI, hJ, hr, e k]
  · congr 2
    unfold xarr
    split <;> simp only [hI, hJ, hr, e]
theorem XRel.make {a0 : Nat → Nat} {n0 : Nat} {tys tys' : List (ClassId × FieldType)} {ws l : va_W} {S1 : XS} {I' : XI} {J' : XJ} {r' : XR} (h : XRel a0 n0 tys ws S I J r) (hl : l.length = S1.length) (ht : ∀ (k : Nat) (x : ClassId × FieldType), tys[k]? = some x → tys'[k]? = some x)
    (hI : ∀ q, q < S.length → I' q = I q) (hJ : ∀ q, q < S.length → J' q = J q) (hr : ∀ q, q < S.length → r' q = r q)
    (hc : ∀ j t n : Nat, S1[j]? = some (t, n) → ∃ cA : ClassId, l[j]? = some (xadr (ws ++ l) (S.length + j), xcell (xadr (ws ++ l)) I' J' r' cA t n (S.length + j)) ∧ (100 ≤ t → ∃ t0 : Nat, tys'[t0]? = some (cA, xaty t)))
    (hv : ∀ q k v : Nat, S.length ≤ q → r' q k = some v → v < (S ++ S1).length) (hb : ∀ j n i : Nat, S1[j]? = some (102, n) → (I' (S.length + j) i).toInt8.toInt32 = I' (S.length + j) i) : XRel a0 n0 tys' (ws ++ l) (S ++ S1) I' J' r' := by
  obtain ⟨h1, h2, h3, h4, h5, h6⟩ := h
  have had : ∀ k, k < S.length → xadr (ws ++ l) k = xadr ws k := fun k hk => xadr_appl (by omega)
  refine ⟨by simp [h1, hl], fun q t n hq => ?_, fun q k v hq => ?_, fun q n j hq => ?_, by simp; omega, fun k hk => by rw [had k (by omega)]; exact h6 k hk⟩
  · by_cases e : q < S.length
    · rw [List.getElem?_append_left e] at hq
      obtain ⟨cA, g1, g2⟩ := h2 q t n hq
      refine ⟨cA, ?_, fun h => ?_⟩
      · rw [List.getElem?_append_left (by omega), g1, had q e, xcell_congr (S := S) (hI q e) (hJ q e) (hr q e) (fun k v hv => h3 q k v hv) had]
      · obtain ⟨t0, g3⟩ := g2 h
        exact ⟨t0, ht _ _ g3⟩
    · have e2 : S.length ≤ q := by omega
      rw [List.getElem?_append_right e2] at hq
      obtain ⟨cA, g1, g2⟩ := hc _ t n hq
      have e3 : S.length + (q - S.length) = q := by omega
      rw [e3] at g1
      exact ⟨cA, by rw [List.getElem?_append_right (by omega), h1]; exact g1, g2⟩
  · by_cases e : q < S.length
    · rw [hr q e] at hq
      have := h3 q k v hq
      simp; omega
    · exact hv q k v (by omega) hq
  · by_cases e : q < S.length
    · rw [List.getElem?_append_left e] at hq
      rw [hI q e]
      exact h4 q n j hq
    · have e2 : S.length ≤ q := by omega
      rw [List.getElem?_append_right e2] at hq
      have e3 : S.length + (q - S.length) = q := by omega
      have := hb _ n j hq
      rw [e3] at this
      exact this
theorem ok_app {S1 : XS} {u : XV} (h : ∀ v ∈ u, xok S v) : ∀ v ∈ u, xok (S ++ S1) v := fun v hv => xok_mono (by simp) (h v hv)
theorem xnew0 {α : Type} {f : Nat → Nat → α} {z : α} {q n : Nat} (h : q < n) : (fun q k => if q = n then z else f q k : Nat → Nat → α) q = f q := by funext k; simp; omega
/-- one new cell -/
theorem xs_make1 {t n a1 : Nat} {cA : ClassId} {e1 : va_E} {ls : Array Slot} {H H1 : Heap} {locs locs1 : List Loc} {ws : va_W} {tys tys' : List (ClassId × FieldType)} {st' : XV} {cu' su' : Nat} (h : XH dC dI A s a0 n0 sV nL mc ms ls H locs ws tys L st S I J r cu su)
    (ht : ∀ (k : Nat) (x : ClassId × FieldType), tys[k]? = some x → tys'[k]? = some x) (hK : va_K (dC, dI) xcl tys' s) (hP : va_P (dC, dI) xcl (ws ++ [(a1, e1)]) H1) (hD : va_D A (ws ++ [(a1, e1)])) (hS : va_S A s.heap H1 locs1)
    (he : ∀ ad, e1 = xcell ad (fun q k => if q = S.length then 0 else I q k) (fun q k => if q = S.length then 0 else J q k) (fun q k => if q = S.length then none else r q k) cA t n S.length) (hty : 100 ≤ t → ∃ t0 : Nat, tys'[t0]? = some (cA, xaty t)) (hst : ∀ v ∈ st', xok S v) (hcu : cu' ≤ mc) (hsu : su' ≤ ms) :
    XH dC dI A s a0 n0 sV nL mc ms ls H1 locs1 (ws ++ [(a1, e1)]) tys' L (.ref S.length :: st') (S ++ [(t, n)]) (fun q k => if q = S.length then 0 else I q k) (fun q k => if q = S.length then 0 else J q k) (fun q k => if q = S.length then none else r q k) cu' su' ∧ (Value.ref S.length :: st').map (xtr (xadr (ws ++ [(a1, e1)])) sV) = .ref a1 :: st'.map (xtr (xadr ws) sV) := by
  have hlen : ws.length = S.length := h.2.1.2.2.2.2.1
  have had : ∀ k, k < S.length → xadr (ws ++ [(a1, e1)]) k = xadr ws k := fun k hk => xadr_appl (by omega)
  have hnew : xadr (ws ++ [(a1, e1)]) S.length = a1 := by rw [← hlen]; simp [xadr]
  refine ⟨⟨h.1.congr h.2.2.1 had, ⟨hK, hP, hD, hS, ?_⟩, ok_app h.2.2.1, ok_cons (by show S.length < _; simp) (ok_app hst), hcu, hsu⟩, ?_⟩
  · refine h.2.1.2.2.2.2.make (by simp) ht (fun q hq => xnew0 hq) (fun q hq => xnew0 hq) (fun q hq => xnew0 hq) (fun j t' n' hj => ?_) (fun q k v hq hr => ?_) (fun j n' i hj => ?_)
    · cases j with
      | zero =>
        simp at hj
        obtain ⟨rfl, rfl⟩ := hj
        refine ⟨cA, ?_, hty⟩
        show some (a1, e1) = some (xadr (ws ++ [(a1, e1)]) S.length, _)
        rw [hnew]
        exact congrArg (fun z => some (a1, z)) (he (xadr (ws ++ [(a1, e1)])))
      | succ j => simp at hj
    · by_cases e : q = S.length
      · simp [e] at hr
      · simp [e] at hr
        have := h.2.1.2.2.2.2.2.2.1 q k v hr
        simp; omega
    · cases j with
      | zero => simp
      | succ j => simp at hj
  · rw [List.map_cons, map_congr hst had]
    show Value.ref _ :: _ = _
    rw [hnew]
theorem tys_app {tys : List (ClassId × FieldType)} {y : ClassId × FieldType} : ∀ (k : Nat) (x : ClassId × FieldType), tys[k]? = some x → (tys ++ [y])[k]? = some x := fun k x h => by
  rw [List.getElem?_append_left (List.getElem?_eq_some_iff.mp h).1]; exact h
theorem tys_new {tys : List (ClassId × FieldType)} {y : ClassId × FieldType} : (tys ++ [y])[tys.length]? = some y := by simp
def xkdOk (b : Nat) : Bool := (List.range (nfc b)).all fun k => decide (xkof (xty b k) < 3)
theorem xkd_all : ∀ b, b < 11 → xkdOk b = true := by decide +kernel
theorem xkd_ok {b k : Nat} (h : b < 11) (hk : k < nfc b) : xkof (xty b k) < 3 := of_decide_eq_true (List.all_eq_true.mp (xkd_all b h) k (List.mem_range.mpr hk))
theorem xs_new (F : XFx p s m meth c args Rm cc own nL ini law sc mc ms A sV) {a b : Nat} (hb : b < 11) (hcl : Cond.classLink own a (xC b).1 ∈ xW) (hin : Cond.instantiable (xC b).1 (xC b).2.2 ∈ xW) (hini : Cond.initialized (xC b).1 ∈ xW) (hd : decode cc pc = .ok (.new a, 3)) (h1 : cu + 1 ≤ mc) (h2 : su + nfc b ≤ ms)
    (k : XW p l e Rm s m args below meth c dC dI A a0 n0 sV nL mc ms Zf (pc + 3) L (.ref S.length :: st) (S ++ [(b, 0)]) (fun q k => if q = S.length then 0 else I q k) (fun q k => if q = S.length then 0 else J q k) (fun q k => if q = S.length then none else r q k) (cu + 1) (su + nfc b)) : XW p l e Rm s m args below meth c dC dI A a0 n0 sV nL mc ms Zf pc L st S I J r cu su := by
  intro ls H locs ws tys h
  have hF := F
  obtain ⟨hx, hbb, -, hown, hts, -, hA, -, -, -, -, hmc, hms⟩ := hF
  have e0 : ∀ ad, (Sum.inr (b, (List.range (nfc b)).map (fun k => defaultValue (xty b k))) : va_E) = xcell ad (fun q k => if q = S.length then 0 else I q k) (fun q k => if q = S.length then 0 else J q k) (fun q k => if q = S.length then none else r q k) 0 b 0 S.length := by
    intro ad
    rw [xcell_obj hb]
    congr 2
    unfold xobj
    apply List.map_congr_left
    intro k hk
    have h3 := (xcls_one hb (List.mem_range.mp hk)).2.2.1
    unfold xfld
    rw [← h3]
    have hbad : xkof (xty b k) ≠ 9 := by
      have := xkd_ok hb (List.mem_range.mp hk)
      omega
    cases hx : xty b k <;> first | (simp [xkof, defaultValue, va_rf]; done) | (rw [hx] at hbad; exact absurd rfl hbad)
  refine va_new (ci := b) (fs := (List.range (nfc b)).map (fun k => defaultValue (xty b k))) hx hbb hts (xlay_in hb) (xty b) (fun j hj => (xcls_one hb (by rw [xC_n hb] at hj; exact hj)).2.1) hown (hts _ hcl) (hts _ hin) (hts _ hini) h.2.1.1 h.2.1.2.1 h.2.1.2.2.1 h.2.1.2.2.2.1 hA (xC_at hb) (fun j hj => ?_) (by omega) (by rw [xC_n hb]; omega) hd (fun q H1 hP1 hD1 hS1 => ?_)
  · rw [xC_n hb] at hj
    simp [vp_V, List.getD_eq_getElem?_getD, List.getElem?_range hj]
  · obtain ⟨x1, x2⟩ := xs_make1 (st' := st) (cu' := cu + 1) (su' := su + nfc b) h (fun _ _ h => h) h.2.1.1 hP1 hD1 hS1 e0 (fun h => by omega) h.2.2.2.1 h1 h2
    have k1 := k ls H1 locs _ tys x1
    rw [x2] at k1
    rw [xC_n hb]
    exact k1
theorem xs_newa (F : XFx p s m meth c args Rm cc own nL ini law sc mc ms A sV) {b : Nat} {n : Int32} {atype : ArrayType} (hty : newarray.typeOf atype = xaty b) (hb : b = 100 ∨ b = 101 ∨ b = 102) (harr : Cond.arrayClass (newarray.typeOf atype) ∈ xW) (hd : decode cc pc = .ok (.newarray atype, 2)) (hn : 0 ≤ n) (hn4 : n.toNatClampNeg ≤ 4000) (h1 : cu + 1 ≤ mc) (h2 : su + n.toNatClampNeg ≤ ms)
    (k : XW p l e Rm s m args below meth c dC dI A a0 n0 sV nL mc ms Zf (pc + 2) L (.ref S.length :: st) (S ++ [(b, n.toNatClampNeg)]) (fun q k => if q = S.length then 0 else I q k) (fun q k => if q = S.length then 0 else J q k) (fun q k => if q = S.length then none else r q k) (cu + 1) (su + n.toNatClampNeg)) : XW p l e Rm s m args below meth c dC dI A a0 n0 sV nL mc ms Zf pc L (.int n :: st) S I J r cu su := by
  intro ls H locs ws tys h
  have hF := F
  obtain ⟨hx, hbb, -, hown, hts, -, hA, -, -, -, -, hmc, hms⟩ := hF
  have hcb : componentBytes (xaty b) ≤ 8 := by rcases hb with rfl | rfl | rfl <;> decide
  refine va_newa (a0 := xarr (fun _ => 0) (fun q k => if q = S.length then 0 else I q k) (fun q k => if q = S.length then 0 else J q k) (fun q k => if q = S.length then none else r q k) b n.toNatClampNeg S.length) hx hbb (hts _ harr) hty h.2.1.1 h.2.1.2.1 h.2.1.2.2.1 h.2.1.2.2.2.1 hA (fun cA => ?_) (Int32.not_lt.mpr hn) rfl (Nat.le_trans (Nat.mul_le_mul hn4 hcb) (by decide)) (by omega) (by omega) hd (fun q cA H1 hK1 hP1 hD1 hS1 => ?_)
  · rcases hb with rfl | rfl | rfl
    · simp [xarr, vp_cell, xaty, defaultValue]
    · simp [xarr, vp_cell, xaty, defaultValue]
    · simp [xarr, vp_cell, xaty, defaultValue]
  · obtain ⟨x1, x2⟩ := xs_make1 (t := b) (n := n.toNatClampNeg) (cA := cA) (st' := st) (cu' := cu + 1) (su' := su + n.toNatClampNeg) h tys_app hK1 hP1 hD1 hS1 (fun ad => by rcases hb with rfl | rfl | rfl <;> rfl) (fun _ => ⟨_, tys_new⟩) (ok_tl h.2.2.2.1) h1 h2
    have k1 := k ls H1 locs _ _ x1
    rw [x2] at k1
    exact k1
theorem xs_anewa (F : XFx p s m meth c args Rm cc own nL ini law sc mc ms A sV) {a : Nat} {n : Int32} (hcl : Cond.classLink own a "FreckleChart$Coast" ∈ xW) (hd : decode cc pc = .ok (.anewarray a, 3)) (hn : 0 ≤ n) (hn4 : n.toNatClampNeg ≤ 4000) (h1 : cu + 1 ≤ mc) (h2 : su + n.toNatClampNeg ≤ ms)
    (k : XW p l e Rm s m args below meth c dC dI A a0 n0 sV nL mc ms Zf (pc + 3) L (.ref S.length :: st) (S ++ [(103, n.toNatClampNeg)]) (fun q k => if q = S.length then 0 else I q k) (fun q k => if q = S.length then 0 else J q k) (fun q k => if q = S.length then none else r q k) (cu + 1) (su + n.toNatClampNeg)) : XW p l e Rm s m args below meth c dC dI A a0 n0 sV nL mc ms Zf pc L (.int n :: st) S I J r cu su := by
  intro ls H locs ws tys h
  have hF := F
  obtain ⟨hx, hbb, -, hown, hts, -, hA, -, -, -, -, hmc, hms⟩ := hF
  refine va_newq hx hbb hown (hts _ hcl) F.2.2.2.2.2.2.2.1.2.2.2.2.1 h.2.1.1 h.2.1.2.1 h.2.1.2.2.1 h.2.1.2.2.2.1 hA (Int32.not_lt.mpr hn) rfl (by omega) (by omega) (by omega) hd (fun q cA H1 hK1 hP1 hD1 hS1 => ?_)
  obtain ⟨x1, x2⟩ := xs_make1 (t := 103) (n := n.toNatClampNeg) (cA := cA) (st' := st) (cu' := cu + 1) (su' := su + n.toNatClampNeg) h tys_app hK1 hP1 hD1 hS1 (fun ad => by
    show _ = (Sum.inl (cA, n.toNatClampNeg, .inr (.inr (.inr (.inr (fun j => ((if S.length = S.length then none else r S.length j) : Option Nat).map ad))))) : va_E)
    simp) (fun _ => ⟨_, tys_new⟩) (ok_tl h.2.2.2.1) h1 h2
  have k1 := k ls H1 locs _ _ x1
  rw [x2] at k1
  exact k1
theorem xs_objInit (F : XFx p s m meth c args Rm cc own nL ini law sc mc ms A sV) {a q : Nat} (hl : Cond.methodLink own a Lib.objectInit ∈ xW) (hi : Cond.instanceMethod Lib.objectInit ∈ xW) (hc : Cond.code Lib.objectInit ⟨#[0xb1]⟩ 1 none ∈ xW) (hd : decode cc pc = .ok (.invokespecial a, 3)) (hs8 : xsz st ≤ 8)
    (k : XW p l e Rm s m args below meth c dC dI A a0 n0 sV nL mc ms Zf (pc + 3) L st S I J r cu su) : XW p l e Rm s m args below meth c dC dI A a0 n0 sV nL mc ms Zf pc L (.ref q :: st) S I J r cu su := by
  intro ls H locs ws tys h
  have hF := F
  obtain ⟨hx, hbb, hml, hown, hts, -, hA, -, -, hfr, hlo, hmc, hms⟩ := hF
  have h8 := xsz_sum (ad := xadr ws) F.cat st
  have hr9 : 2 * (F0 m pc ls (st.map (xtr (xadr ws) sV))).monitorRoom + ((st.map (xtr (xadr ws) sV)).map fun v => v.category).sum ≤ 8 := lv_room (by omega)
  exact W.objInit hx hbb hown (hts _ hl) (hts _ hi) (hts _ hc) rfl (by rw [hml]; exact h.1.1) rfl hd hfr (Nat.le_trans (Nat.add_le_add_right hr9 12) (by omega)) (k ls H locs ws tys (h.push (ok_tl h.2.2.2.1)))
theorem cp2_self {α : Type} {f : Nat → Nat → α} {q0 sp q1 dp n : Nat} : cp2 f q0 sp q1 dp n q1 = va_cpy (f q0) (f q1) sp dp n := by funext y; simp [cp2, va_cpy]
theorem cp2_ne {α : Type} {f : Nat → Nat → α} {q0 sp q1 dp n p : Nat} (h : p ≠ q1) : cp2 f q0 sp q1 dp n p = f p := by funext y; simp [cp2, h]
theorem fits_byte {x : Int32} (h : x.toInt8.toInt32 = x) : fits .byte (.int x) = true := by
  have h1 : x.toInt = x.toInt8.toInt := by
    conv => lhs; rw [← h]
    exact Int8.toInt_toInt32 _
  have h2 := Int8.le_toInt x.toInt8
  have h3 := Int8.toInt_lt x.toInt8
  simp only [fits, Bool.and_eq_true, decide_eq_true_eq]
  constructor
  · rw [Int32.le_iff_toInt_le]
    have e : (-128 : Int32).toInt = -128 := by decide
    rw [e]; omega
  · rw [Int32.le_iff_toInt_le]
    have e : (127 : Int32).toInt = 127 := by decide
    rw [e]; omega
theorem xs_copy (F : XFx p s m meth c args Rm cc own nL ini law sc mc ms A sV) {a d q0 q1 n0' n1' : Nat} {sp dp n : Int32} (hd3 : d < 3) (hl : Cond.methodLink own a arraycopyName ∈ xW) (hnat : Cond.native arraycopyName ∈ xW) (hst : Cond.static arraycopyName ∈ xW) (hini : Cond.initialized "java/lang/System" ∈ xW) (hd : decode cc pc = .ok (.invokestatic a, 3)) (hs8 : xsz st ≤ 8)
    (h0 : S[q0]? = some (100 + d, n0')) (h1 : S[q1]? = some (100 + d, n1')) (hsp : 0 ≤ sp) (hdp : 0 ≤ dp) (hn : 0 ≤ n) (hb0 : sp.toNatClampNeg + n.toNatClampNeg ≤ n0') (hb1 : dp.toNatClampNeg + n.toNatClampNeg ≤ n1')
    (k : XW p l e Rm s m args below meth c dC dI A a0 n0 sV nL mc ms Zf (pc + 3) L st S (if d = 1 then I else cp2 I q0 sp.toNatClampNeg q1 dp.toNatClampNeg n.toNatClampNeg) (if d = 1 then cp2 J q0 sp.toNatClampNeg q1 dp.toNatClampNeg n.toNatClampNeg else J) r cu su) : XW p l e Rm s m args below meth c dC dI A a0 n0 sV nL mc ms Zf pc L (.int n :: .int dp :: .ref q1 :: .int sp :: .ref q0 :: st) S I J r cu su := by
  intro ls H locs ws tys h
  have hF := F
  obtain ⟨hx, hbb, hml, hown, hts, -, hA, -, -, hfr, hlo, hmc, hms⟩ := hF
  have h8 := xsz_sum (ad := xadr ws) F.cat st
  have hw : ((st.map (xtr (xadr ws) sV)).map fun v => v.category).sum + (nativeFrameWords "java/lang/System" "arraycopy" 5 + 11) ≤ Rm.locals := by
    have e9 : nativeFrameWords "java/lang/System" "arraycopy" 5 ≤ 21 := by decide
    omega
  have hR := h.2.1.2.2.2.2
  obtain ⟨c0, g0, f0⟩ := hR.at h0
  obtain ⟨t0, f0⟩ := f0 (by omega)
  obtain ⟨c1, g1, f1⟩ := hR.at h1
  have f1' := f1
  obtain ⟨t1, f1⟩ := f1 (by omega)
  have hst5 := ok_tl (ok_tl (ok_tl (ok_tl (ok_tl h.2.2.2.1))))
  rcases (show d = 0 ∨ d = 1 ∨ d = 2 by omega) with rfl | rfl | rfl
  · refine va_copyi (ty := .int) hx hbb (by rw [hml]; exact h.1.1.symm) hown (hts _ hl) (hts _ hnat) (hts _ hst) (hts _ hini) h.2.1.1 h.2.1.2.1 h.2.1.2.2.1 h.2.1.2.2.2.1 q0 q1 t0 t1 g0 g1 f0 f1 rfl (Int32.not_lt.mpr hsp) (Int32.not_lt.mpr hdp) (Int32.not_lt.mpr hn) hb0 hb1 (fun i _ => rfl) hfr hw hd (fun H1 locs1 hP1 hD1 hS1 => ?_)
    obtain ⟨x1, x2⟩ := XH.mem (I' := cp2 I q0 sp.toNatClampNeg q1 dp.toNatClampNeg n.toNatClampNeg) (J' := J) (r' := r) h h1 g1 f1' (by show _ = (Sum.inl (c1, n1', .inl (cp2 I q0 _ q1 _ _ q1)) : va_E); rw [cp2_self]) hP1 hD1 hS1 (fun p hp => cp2_ne hp) (fun _ _ => rfl) (fun _ _ => rfl) (fun k v hv => hR.2.2.1 q1 k v hv) (fun e => by omega) hst5
    have k1 := k ls H1 locs1 _ tys x1
    rw [x2] at k1
    exact k1
  · refine va_copyl (ty := .long) hx hbb (by rw [hml]; exact h.1.1.symm) hown (hts _ hl) (hts _ hnat) (hts _ hst) (hts _ hini) h.2.1.1 h.2.1.2.1 h.2.1.2.2.1 h.2.1.2.2.2.1 q0 q1 t0 t1 g0 g1 f0 f1 rfl (Int32.not_lt.mpr hsp) (Int32.not_lt.mpr hdp) (Int32.not_lt.mpr hn) hb0 hb1 (fun i _ => rfl) hfr hw hd (fun H1 locs1 hP1 hD1 hS1 => ?_)
    obtain ⟨x1, x2⟩ := XH.mem (I' := I) (J' := cp2 J q0 sp.toNatClampNeg q1 dp.toNatClampNeg n.toNatClampNeg) (r' := r) h h1 g1 f1' (by show _ = (Sum.inl (c1, n1', .inr (.inl (cp2 J q0 _ q1 _ _ q1))) : va_E); rw [cp2_self]) hP1 hD1 hS1 (fun _ _ => rfl) (fun p hp => cp2_ne hp) (fun _ _ => rfl) (fun k v hv => hR.2.2.1 q1 k v hv) (fun e => by omega) hst5
    have k1 := k ls H1 locs1 _ tys x1
    rw [x2] at k1
    exact k1
  · refine va_copyi (ty := .byte) hx hbb (by rw [hml]; exact h.1.1.symm) hown (hts _ hl) (hts _ hnat) (hts _ hst) (hts _ hini) h.2.1.1 h.2.1.2.1 h.2.1.2.2.1 h.2.1.2.2.2.1 q0 q1 t0 t1 g0 g1 f0 f1 rfl (Int32.not_lt.mpr hsp) (Int32.not_lt.mpr hdp) (Int32.not_lt.mpr hn) hb0 hb1 (fun i _ => fits_byte (hR.2.2.2.1 q0 n0' _ h0)) hfr hw hd (fun H1 locs1 hP1 hD1 hS1 => ?_)
    obtain ⟨x1, x2⟩ := XH.mem (I' := cp2 I q0 sp.toNatClampNeg q1 dp.toNatClampNeg n.toNatClampNeg) (J' := J) (r' := r) h h1 g1 f1' (by show _ = (Sum.inl (c1, n1', .inl (cp2 I q0 _ q1 _ _ q1)) : va_E); rw [cp2_self]) hP1 hD1 hS1 (fun p hp => cp2_ne hp) (fun _ _ => rfl) (fun _ _ => rfl) (fun k v hv => hR.2.2.1 q1 k v hv) (fun _ j => by
      rw [cp2_self]
      unfold va_cpy
      split
      · exact hR.2.2.2.1 q0 n0' _ h0
      · exact hR.2.2.2.1 q1 n1' _ h1) hst5
    have k1 := k ls H1 locs1 _ tys x1
    rw [x2] at k1
    exact k1
end XOps
end
section
section XOps
variable {p : Program} {l : Launch} {e : Env} {Rm : Room} {s : State} {m : MethodId} {args : Array Value} {below : List Frame} {meth : Method} {c : Code} {dC : Nat → ClassId} {dI : Nat → Nat → Nat} {A : Nat → Prop} {a0 : Nat → Nat} {n0 : Nat} {sV : Nat → Value} {nL mc ms : Nat} {Zf : State → Prop} {cc : ByteArray} {own : String} {ini law : Bool} {sc : Nat × (Nat → Int32)} {K : XK} {pc pc' : Nat} {L st : XV} {S : XS} {I : XI} {J : XJ} {r : XR} {cu su : Nat}
/-! new long[4][60] -/
theorem xs_mna (F : XFx p s m meth c args Rm cc own nL ini law sc mc ms A sV) {a q0 n1 : Nat} (hcl : Cond.classLink own a ("[" ++ (FieldType.array .long).toString) ∈ xW) (harr : Cond.arrayClass .long ∈ xW) (hd : decode cc pc = .ok (.multianewarray a 2, 4)) (h0 : S[q0]? = some (101, n1)) (hc1 : cu + 5 ≤ mc) (hc2 : su + 244 ≤ ms)
    (k : XW p l e Rm s m args below meth c dC dI A a0 n0 sV nL mc ms Zf (pc + 4) L (.ref S.length :: st) (S ++ [(104, 4), (101, 60), (101, 60), (101, 60), (101, 60)]) (fun q k => if S.length ≤ q then 0 else I q k) (fun q k => if S.length ≤ q then 0 else J q k) (fun q k => if q = S.length then (if k < 4 then some (S.length + 1 + k) else none) else if S.length < q then none else r q k) (cu + 5) (su + 244)) : XW p l e Rm s m args below meth c dC dI A a0 n0 sV nL mc ms Zf pc L (.int 60 :: .int 4 :: st) S I J r cu su := by
  intro ls H locs ws tys h
  have hF := F
  obtain ⟨hx, hbb, -, hown, hts, -, hA, -, -, -, -, hmc, hms⟩ := hF
  obtain ⟨cy, g0, f0⟩ := h.2.1.2.2.2.2.at h0
  obtain ⟨t0, f0⟩ := f0 (by omega)
  have hcy : s.vm.findClass (FieldType.array .long).toString = some cy := (h.2.1.1.2 t0 _ f0).2
  have e0 : ws ++ va_pl [] (fun _ => (Sum.inr (0, []) : va_E)) = ws := by simp [va_pl]
  refine va_mna (X := ws) (L := []) (f := fun _ => (Sum.inr (0, []) : va_E)) (ty := .long) (N' := 4) (K' := 60) (z := (60, .inr (.inl (fun _ => 0)))) hx hbb hown (hts _ hcl) F.2.2.2.2.2.2.2.1.2.2.2.2.2 (hts _ harr) hcy h.2.1.1 (by rw [e0]; exact h.2.1.2.1) (by rw [e0]; exact h.2.1.2.2.1) h.2.1.2.2.2.1 hA (by decide) (by decide) (by decide) (by decide) (by decide) (by decide) (by decide) rfl rfl (by omega) (by omega) (fun c => by
    simp only [Jvm.Free.Multi.innerC, vp_cell, arrV, defaultValue]
    congr 1) hd (fun q rr cA H1 hinj hnot hK1 hP1 hD1 hS1 => ?_)
  have el : va_pl ([] ++ (List.range 4).map rr) (vr_up (fun _ => (Sum.inr (0, []) : va_E)) ((List.range 4).map rr) (.inl (cy, (60, .inr (.inl (fun _ => 0)))))) = [(rr 0, .inl (cy, 60, .inr (.inl (fun _ => 0)))), (rr 1, .inl (cy, 60, .inr (.inl (fun _ => 0)))), (rr 2, .inl (cy, 60, .inr (.inl (fun _ => 0)))), (rr 3, .inl (cy, 60, .inr (.inl (fun _ => 0))))] := by
    have e4 : (List.range 4).map rr = [rr 0, rr 1, rr 2, rr 3] := rfl
    rw [e4]
    simp [va_pl, vr_up]
  rw [el, List.append_assoc] at hP1 hD1
  generalize hl : ([(q, .inl (cA, 4, .inr (.inr (.inr (.inr (fun i => if i < 4 then some (rr i) else none))))))] ++ [(rr 0, .inl (cy, 60, .inr (.inl (fun _ => 0)))), (rr 1, .inl (cy, 60, .inr (.inl (fun _ => 0)))), (rr 2, .inl (cy, 60, .inr (.inl (fun _ => 0)))), (rr 3, .inl (cy, 60, .inr (.inl (fun _ => 0))))] : va_W) = l5 at hP1 hD1
  have hlen : ws.length = S.length := h.2.1.2.2.2.2.1
  have had : ∀ k, k < S.length → xadr (ws ++ l5) k = xadr ws k := fun k hk => xadr_appl (by omega)
  have hat : ∀ j x, l5[j]? = some x → xadr (ws ++ l5) (S.length + j) = x.1 := fun j x hj => by
    apply xadr_of
    rw [← hlen, List.getElem?_append_right (by omega)]
    simpa using hj
  have a0' : xadr (ws ++ l5) S.length = q := hat 0 _ (by rw [← hl]; rfl)
  have a1 : xadr (ws ++ l5) (S.length + 1) = rr 0 := hat 1 _ (by rw [← hl]; rfl)
  have a2 : xadr (ws ++ l5) (S.length + 2) = rr 1 := hat 2 _ (by rw [← hl]; rfl)
  have a3 : xadr (ws ++ l5) (S.length + 3) = rr 2 := hat 3 _ (by rw [← hl]; rfl)
  have a4 : xadr (ws ++ l5) (S.length + 4) = rr 3 := hat 4 _ (by rw [← hl]; rfl)
  have hst := ok_tl (ok_tl h.2.2.2.1)
  have inner : ∀ j, 1 ≤ j → (Sum.inl (cy, 60, .inr (.inl (fun _ => 0))) : va_E) = xcell (xadr (ws ++ l5)) (fun q k => if S.length ≤ q then 0 else I q k) (fun q k => if S.length ≤ q then 0 else J q k) (fun q k => if q = S.length then (if k < 4 then some (S.length + 1 + k) else none) else if S.length < q then none else r q k) cy 101 60 (S.length + j) := fun j hj => by
    show _ = (Sum.inl (cy, 60, .inr (.inl (fun k => if S.length ≤ S.length + j then (0 : Int64) else J (S.length + j) k))) : va_E)
    simp
  have outer : (Sum.inl (cA, 4, .inr (.inr (.inr (.inr (fun i => if i < 4 then some (rr i) else none))))) : va_E) = xcell (xadr (ws ++ l5)) (fun q k => if S.length ≤ q then 0 else I q k) (fun q k => if S.length ≤ q then 0 else J q k) (fun q k => if q = S.length then (if k < 4 then some (S.length + 1 + k) else none) else if S.length < q then none else r q k) cA 104 4 (S.length + 0) := by
    show _ = (Sum.inl (cA, 4, .inr (.inr (.inr (.inr (fun k => ((if S.length + 0 = S.length then (if k < 4 then some (S.length + 1 + k) else none) else if S.length < S.length + 0 then none else r (S.length + 0) k) : Option Nat).map (xadr (ws ++ l5))))))) : va_E)
    have e9 : ∀ k, (if k < 4 then some (rr k) else none) = ((if S.length + 0 = S.length then (if k < 4 then some (S.length + 1 + k) else none) else if S.length < S.length + 0 then none else r (S.length + 0) k) : Option Nat).map (xadr (ws ++ l5)) := fun k => by
      rw [if_pos (Nat.add_zero _)]
      by_cases hk : k < 4
      · rw [if_pos hk, if_pos hk]
        rcases (show k = 0 ∨ k = 1 ∨ k = 2 ∨ k = 3 by omega) with rfl | rfl | rfl | rfl
        · rw [Option.map_some, Nat.add_zero, a1]
        · rw [Option.map_some, Nat.add_assoc, a2]
        · rw [Option.map_some, Nat.add_assoc, a3]
        · rw [Option.map_some, Nat.add_assoc, a4]
      · rw [if_neg hk, if_neg hk]; rfl
    rw [funext e9]
  have hX : XRel a0 n0 (tys ++ [(cA, .array .long)]) (ws ++ l5) (S ++ [(104, 4), (101, 60), (101, 60), (101, 60), (101, 60)]) (fun q k => if S.length ≤ q then 0 else I q k) (fun q k => if S.length ≤ q then 0 else J q k) (fun q k => if q = S.length then (if k < 4 then some (S.length + 1 + k) else none) else if S.length < q then none else r q k) := by
    refine h.2.1.2.2.2.2.make (by rw [← hl]; rfl) tys_app (fun q hq => by funext k; show (if S.length ≤ q then (0 : Int32) else I q k) = I q k; rw [if_neg (by omega)]) (fun q hq => by funext k; show (if S.length ≤ q then (0 : Int64) else J q k) = J q k; rw [if_neg (by omega)]) (fun q hq => by funext k; show (if q = S.length then _ else if S.length < q then none else r q k) = r q k; rw [if_neg (by omega), if_neg (by omega)]) (fun j t' n' hj => ?_) (fun q k v hq hr => ?_) (fun j n' i hj => by
      show ((if S.length ≤ S.length + j then (0 : Int32) else _) : Int32).toInt8.toInt32 = (if S.length ≤ S.length + j then (0 : Int32) else _)
      rw [if_pos (by omega)]; rfl)
    · have inn : ∀ j x, l5[j]? = some (x, .inl (cy, 60, .inr (.inl (fun _ => 0)))) → 1 ≤ j → ∃ cA' : ClassId, l5[j]? = some (xadr (ws ++ l5) (S.length + j), xcell (xadr (ws ++ l5)) (fun q k => if S.length ≤ q then 0 else I q k) (fun q k => if S.length ≤ q then 0 else J q k) (fun q k => if q = S.length then (if k < 4 then some (S.length + 1 + k) else none) else if S.length < q then none else r q k) cA' 101 60 (S.length + j)) ∧ (100 ≤ 101 → ∃ t0 : Nat, (tys ++ [(cA, FieldType.array .long)])[t0]? = some (cA', xaty 101)) := fun j x hj h1 =>
        ⟨cy, by rw [hj, hat j _ hj]; exact congrArg (fun z => some (x, z)) (inner j h1), fun _ => ⟨t0, tys_app _ _ f0⟩⟩
      match j, hj with
      | 0, hj =>
        cases hj
        have h5 : l5[0]? = some (q, .inl (cA, 4, .inr (.inr (.inr (.inr (fun i => if i < 4 then some (rr i) else none)))))) := by rw [← hl]; rfl
        exact ⟨cA, by rw [h5, hat 0 _ h5]; exact congrArg (fun z => some (q, z)) outer, fun _ => ⟨_, tys_new⟩⟩
      | 1, hj => cases hj; exact inn 1 (rr 0) (by rw [← hl]; rfl) (by omega)
      | 2, hj => cases hj; exact inn 2 (rr 1) (by rw [← hl]; rfl) (by omega)
      | 3, hj => cases hj; exact inn 3 (rr 2) (by rw [← hl]; rfl) (by omega)
      | 4, hj => cases hj; exact inn 4 (rr 3) (by rw [← hl]; rfl) (by omega)
      | j + 5, hj => cases hj
    · by_cases e : q = S.length
      · rw [if_pos e] at hr
        split at hr
        · cases hr; simp; omega
        · cases hr
      · rw [if_neg e, if_pos (by omega)] at hr
        cases hr
  have k1 := k ls H1 locs (ws ++ l5) (tys ++ [(cA, .array .long)]) ⟨h.1.congr h.2.2.1 had, ⟨hK1, hP1, hD1, hS1, hX⟩, ok_app h.2.2.1, ok_cons (by show S.length < _; simp) (ok_app hst), hc1, hc2⟩
  have e5 : (Value.ref S.length :: st).map (xtr (xadr (ws ++ l5)) sV) = .ref q :: st.map (xtr (xadr ws) sV) := by
    rw [List.map_cons, map_congr hst had]
    show Value.ref _ :: _ = _
    rw [a0']
  rw [e5] at k1
  exact k1
/-! strings, statics, the script -/
theorem xs_strV (F : XFx p s m meth c args Rm cc own nL ini law sc mc ms A sV) {a i : Nat} (hi : i < 29) (hl : Cond.fieldLink own a "java/lang/String" "value" "[B" ∈ xW) (hd : decode cc pc = .ok (.getfield a, 3))
    (k : XW p l e Rm s m args below meth c dC dI A a0 n0 sV nL mc ms Zf (pc + 3) L (.retAddr (1000 + i) :: st) S I J r cu su) : XW p l e Rm s m args below meth c dC dI A a0 n0 sV nL mc ms Zf pc L (.retAddr i :: st) S I J r cu su := by
  intro ls H locs ws tys h
  have k1 := k ls H locs ws tys (h.push (ok_cons trivial (ok_tl h.2.2.2.1)))
  have hF := F
  obtain ⟨hx, hbb, -, hown, hts, -, hA, ⟨⟨adK, adV, hE, h9⟩, -⟩, -⟩ := hF
  obtain ⟨-, e1, e2⟩ := h9 i hi
  show W p l e Rm s m args below meth c H locs cu su Zf (F0 m pc ls (sV i :: st.map (xtr (xadr ws) sV)))
  have k2 : W p l e Rm s m args below meth c H locs cu su Zf (F0 m (pc + 3) ls (sV (1000 + i) :: st.map (xtr (xadr ws) sV))) := k1
  rw [e2] at k2
  rw [e1]
  exact vk_getf hx hbb (hE.1 i hi).2.2.1 h.2.1.2.2.2.1 hown (hts _ hl) (fun _ h => h) hd k2
theorem xs_strC (F : XFx p s m meth c args Rm cc own nL ini law sc mc ms A sV) {a i : Nat} (hi : i < 29) (hl : Cond.fieldLink own a "java/lang/String" "coder" "B" ∈ xW) (hd : decode cc pc = .ok (.getfield a, 3))
    (k : XW p l e Rm s m args below meth c dC dI A a0 n0 sV nL mc ms Zf (pc + 3) L (.int 0 :: st) S I J r cu su) : XW p l e Rm s m args below meth c dC dI A a0 n0 sV nL mc ms Zf pc L (.retAddr i :: st) S I J r cu su := by
  intro ls H locs ws tys h
  have k1 := k ls H locs ws tys (h.push (ok_cons trivial (ok_tl h.2.2.2.1)))
  have hF := F
  obtain ⟨hx, hbb, -, hown, hts, -, hA, ⟨⟨adK, adV, hE, h9⟩, -⟩, -⟩ := hF
  obtain ⟨-, e1, e2⟩ := h9 i hi
  show W p l e Rm s m args below meth c H locs cu su Zf (F0 m pc ls (sV i :: st.map (xtr (xadr ws) sV)))
  rw [e1]
  exact vk_getf hx hbb (hE.1 i hi).2.1 h.2.1.2.2.2.1 hown (hts _ hl) (fun _ h => h) hd k1
theorem xlens_at {i : Nat} : xlens.getD i 0 = strLen i := by
  unfold xlens strLen
  simp only [List.getD_eq_getElem?_getD, List.getElem?_map]
  cases xstb[i]? <;> rfl
theorem xs_strL (F : XFx p s m meth c args Rm cc own nL ini law sc mc ms A sV) {i : Nat} (h1 : 1000 ≤ i) (h2 : i < 1029) (hd : decode cc pc = .ok (.arraylength, 1))
    (k : XW p l e Rm s m args below meth c dC dI A a0 n0 sV nL mc ms Zf (pc + 1) L (.int (nI (strLen (i - 1000))) :: st) S I J r cu su) : XW p l e Rm s m args below meth c dC dI A a0 n0 sV nL mc ms Zf pc L (.retAddr i :: st) S I J r cu su := by
  intro ls H locs ws tys h
  have k1 := k ls H locs ws tys (h.push (ok_cons trivial (ok_tl h.2.2.2.1)))
  have hF := F
  obtain ⟨hx, hbb, -, hown, hts, -, hA, ⟨⟨adK, adV, hE, h9⟩, -⟩, -⟩ := hF
  obtain ⟨-, e1, e2⟩ := h9 (i - 1000) (by omega)
  have e3 : 1000 + (i - 1000) = i := by omega
  rw [e3] at e2
  show W p l e Rm s m args below meth c H locs cu su Zf (F0 m pc ls (sV i :: st.map (xtr (xadr ws) sV)))
  rw [e2]
  exact va_tlen hx hbb (hE.1 (i - 1000) (by omega)).2.2.2 h.2.1.2.2.2.1 (by rw [xlens_at]; rfl) hd k1
theorem xbyts_at {i j : Nat} (h : j < strLen i) : ((xbyts.getD i []).getD j 0) = strAt i j := by
  unfold xbyts strAt strLen at *
  simp only [List.getD_eq_getElem?_getD, List.getElem?_map] at *
  cases hx : xstb[i]? with
  | none => rw [hx] at h; simp at h
  | some l => rw [hx] at h; simp at h; simp [h]
theorem xs_strB (F : XFx p s m meth c args Rm cc own nL ini law sc mc ms A sV) {i : Nat} {j : Int32} (h1 : 1000 ≤ i) (h2 : i < 1029) (hj : vp_in j (strLen (i - 1000))) (hd : decode cc pc = .ok (.baload, 1))
    (k : XW p l e Rm s m args below meth c dC dI A a0 n0 sV nL mc ms Zf (pc + 1) L (.int (strAt (i - 1000) j.toNatClampNeg) :: st) S I J r cu su) : XW p l e Rm s m args below meth c dC dI A a0 n0 sV nL mc ms Zf pc L (.int j :: .retAddr i :: st) S I J r cu su := by
  intro ls H locs ws tys h
  have k1 := k ls H locs ws tys (h.push (ok_cons trivial (ok_tl (ok_tl h.2.2.2.1))))
  have hF := F
  obtain ⟨hx, hbb, -, hown, hts, -, hA, ⟨⟨adK, adV, hE, h9⟩, -⟩, -⟩ := hF
  obtain ⟨-, e1, e2⟩ := h9 (i - 1000) (by omega)
  have e3 : 1000 + (i - 1000) = i := by omega
  rw [e3] at e2
  show W p l e Rm s m args below meth c H locs cu su Zf (F0 m pc ls (.int j :: sV i :: st.map (xtr (xadr ws) sV)))
  rw [e2]
  have hlt : j.toNatClampNeg < strLen (i - 1000) := Nat.not_le.mp fun q => hj (Or.inr q)
  exact va_tb hx hbb (hE.1 (i - 1000) (by omega)).2.2.2 h.2.1.2.2.2.1 (by rw [xlens_at]; exact hj) (by show Value.int _ = _; rw [xbyts_at hlt]; rfl) hd k1
theorem xs_getS (F : XFx p s m meth c args Rm cc own nL ini law sc mc ms A sV) {a : Nat} (hl : Cond.fieldLink own a "java/lang/String" "COMPACT_STRINGS" "Z" ∈ xW) (hd : decode cc pc = .ok (.getstatic a, 3))
    (k : XW p l e Rm s m args below meth c dC dI A a0 n0 sV nL mc ms Zf (pc + 3) L (.int 1 :: st) S I J r cu su) : XW p l e Rm s m args below meth c dC dI A a0 n0 sV nL mc ms Zf pc L st S I J r cu su := by
  intro ls H locs ws tys h
  have k1 := k ls H locs ws tys (h.push (ok_cons trivial h.2.2.2.1))
  have hF := F
  obtain ⟨hx, hbb, -, hown, hts, -, hA, ⟨-, hZ, -⟩, -⟩ := hF
  exact va_gets hx hbb hZ h.2.1.2.2.2.1 hown (hts _ hl) (fun _ h => h) hd k1
theorem xs_getP (F : XFx p s m meth c args Rm cc own nL ini law sc mc ms A sV) {a : Nat} (hl : Cond.fieldLink own a "jdk/internal/util/Preconditions" "SIOOBE_FORMATTER" "Ljava/util/function/BiFunction;" ∈ xW) (hd : decode cc pc = .ok (.getstatic a, 3))
    (k : XW p l e Rm s m args below meth c dC dI A a0 n0 sV nL mc ms Zf (pc + 3) L (.retAddr 2000 :: st) S I J r cu su) : XW p l e Rm s m args below meth c dC dI A a0 n0 sV nL mc ms Zf pc L st S I J r cu su := by
  intro ls H locs ws tys h
  have k1 := k ls H locs ws tys (h.push (ok_cons trivial h.2.2.2.1))
  have hF := F
  obtain ⟨hx, hbb, -, hown, hts, -, hA, ⟨-, -, hZ, -⟩, -⟩ := hF
  exact va_gets hx hbb hZ h.2.1.2.2.2.1 hown (hts _ hl) (fun _ h => h) hd k1
theorem xs_slen (F : XFx p s m meth c args Rm cc own nL ini law sc mc ms A sV) (hlaw : law = true) (hd : decode cc pc = .ok (.arraylength, 1))
    (k : XW p l e Rm s m args below meth c dC dI A a0 n0 sV nL mc ms Zf (pc + 1) L (.int (nI sc.1) :: st) S I J r cu su) : XW p l e Rm s m args below meth c dC dI A a0 n0 sV nL mc ms Zf pc L (.retAddr 3000 :: st) S I J r cu su := by
  intro ls H locs ws tys h
  have k1 := k ls H locs ws tys (h.push (ok_cons trivial (ok_tl h.2.2.2.1)))
  have hF := F
  obtain ⟨hx, hbb, -, hown, hts, -, hA, -, hsc, -⟩ := hF
  obtain ⟨b, e1, hX, hbl, hbA⟩ := hsc hlaw
  show W p l e Rm s m args below meth c H locs cu su Zf (F0 m pc ls (sV 3000 :: st.map (xtr (xadr ws) sV)))
  rw [e1]
  exact va_slen hx hbb hX hbl hbA h.2.1.2.2.2.1 hd k1
theorem xs_sld (F : XFx p s m meth c args Rm cc own nL ini law sc mc ms A sV) (hlaw : law = true) {j : Int32} (hj : vp_in j sc.1) (hd : decode cc pc = .ok (.iaload, 1))
    (k : XW p l e Rm s m args below meth c dC dI A a0 n0 sV nL mc ms Zf (pc + 1) L (.int (sc.2 j.toNatClampNeg) :: st) S I J r cu su) : XW p l e Rm s m args below meth c dC dI A a0 n0 sV nL mc ms Zf pc L (.int j :: .retAddr 3000 :: st) S I J r cu su := by
  intro ls H locs ws tys h
  have k1 := k ls H locs ws tys (h.push (ok_cons trivial (ok_tl (ok_tl h.2.2.2.1))))
  have hF := F
  obtain ⟨hx, hbb, -, hown, hts, -, hA, -, hsc, -⟩ := hF
  obtain ⟨b, e1, hX, hbl, hbA⟩ := hsc hlaw
  show W p l e Rm s m args below meth c H locs cu su Zf (F0 m pc ls (.int j :: sV 3000 :: st.map (xtr (xadr ws) sV)))
  rw [e1]
  exact va_sld hx hbb hX hbl hbA h.2.1.2.2.2.1 hj hd k1
/-! switches -/
def swt (x : Int32) (d : Nat) : List (Int32 × Nat) → Nat
  | [] => d
  | (k, t) :: rest => if x = k then t else swt x d rest
theorem xsw_swt {nx : XN} {x : Int32} {d : Nat} : ∀ (cs : List (Int32 × Nat)), xsw nx L st S I J r cu su x d cs → nx (swt x d cs) L st S I J r cu su
  | [], h => h
  | (k, t) :: rest, h => by
    unfold swt
    by_cases e : x = k
    · rw [if_pos e]; exact h.1 e
    · rw [if_neg e]; exact xsw_swt rest (h.2 e)
theorem swt_out {x : Int32} {d : Nat} : ∀ (cs : List (Int32 × Nat)), (∀ c ∈ cs, x ≠ c.1) → swt x d cs = d
  | [], _ => rfl
  | (k, t) :: rest, h => by
    unfold swt
    rw [if_neg (h (k, t) List.mem_cons_self)]
    exact swt_out rest fun c hc => h c (List.mem_cons_of_mem _ hc)
theorem swt_in {x : Int32} {d : Nat} : ∀ (cs : List (Int32 × Nat)) (lo : Int) (j : Nat) (k : Int32) (t : Nat), (∀ (i : Nat) (c : Int32 × Nat), cs[i]? = some c → c.1.toInt = lo + i) → cs[j]? = some (k, t) → x = k → swt x d cs = t
  | [], lo, j, k, t, _, h, _ => by simp at h
  | (k0, t0) :: rest, lo, j, k, t, hk, h, hx => by
    cases j with
    | zero => simp at h; unfold swt; rw [if_pos (by rw [hx, h.1])]; exact h.2
    | succ j =>
      have h' : rest[j]? = some (k, t) := by simpa using h
      have h0 := hk 0 (k0, t0) rfl
      have h1 := hk (j + 1) (k, t) h
      unfold swt
      rw [if_neg (fun q => by rw [← hx, q] at h1; simp only at h0 h1; omega)]
      exact swt_in rest (lo + 1) j k t (fun i c hc => by have := hk (i + 1) c (by simpa using hc); omega) h' hx
theorem xs_tsw (F : XFx p s m meth c args Rm cc own nL ini law sc mc ms A sV) {x : Int32} {cs : List (Int32 × Nat)} {d len : Nat} {df lo hi : Int} {offs : Array Int} (hd : decode cc pc = .ok (.tableswitch df lo hi offs, len)) (h1 : (pc : Int) + df = d) (h2 : hi = lo + cs.length - 1) (h3 : ∀ j, j < cs.length → (cs.getD j (0, 0)).1.toInt = lo + j ∧ ∃ off, offs[j]? = some off ∧ (pc : Int) + off = (cs.getD j (0, 0)).2)
    (k : XW p l e Rm s m args below meth c dC dI A a0 n0 sV nL mc ms Zf (swt x d cs) L st S I J r cu su) : XW p l e Rm s m args below meth c dC dI A a0 n0 sV nL mc ms Zf pc L (.int x :: st) S I J r cu su := by
  intro ls H locs ws tys h
  have k1 := k ls H locs ws tys (h.push (ok_tl h.2.2.2.1))
  have hkk : ∀ (i : Nat) (c : Int32 × Nat), cs[i]? = some c → c.1.toInt = lo + i := fun i c hc => by
    have h4 := (h3 i (List.getElem?_eq_some_iff.mp hc).1).1
    rw [List.getD_eq_getElem?_getD, hc] at h4
    exact h4
  by_cases e : x.toInt < lo ∨ hi < x.toInt
  · have e2 : swt x d cs = d := swt_out cs fun c hc => by
      obtain ⟨i, hi'⟩ := List.getElem?_of_mem hc
      have h4 := hkk i c hi'
      have h5 := (List.getElem?_eq_some_iff.mp hi').1
      intro q
      rw [q] at e
      omega
    rw [e2] at k1
    exact lv_tableOut F.1 F.2.1 hd e h1 k1
  · have hj : (x.toInt - lo).toNat < cs.length := by omega
    obtain ⟨g1, off, g2, g3⟩ := h3 _ hj
    have e3 : cs[(x.toInt - lo).toNat]? = some (cs.getD (x.toInt - lo).toNat (0, 0)) := by
      rw [List.getD_eq_getElem?_getD, List.getElem?_eq_getElem hj]; rfl
    have e2 : swt x d cs = (cs.getD (x.toInt - lo).toNat (0, 0)).2 := swt_in cs lo _ (cs.getD (x.toInt - lo).toNat (0, 0)).1 _ hkk e3 (Int32.toInt_inj.mp (by rw [g1]; omega))
    rw [e2] at k1
    exact lv_tableIn F.1 F.2.1 hd (fun q => e (Or.inl q)) (fun q => e (Or.inr q)) g2 g3 k1
theorem lsw_off {x : Int32} {d pc : Nat} : ∀ cs : List (Int32 × Nat), Op.lookupswitch.offset (cs.map fun c => (c.1.toInt, (c.2 : Int) - pc)) ((d : Int) - pc) x.toInt = (swt x d cs : Int) - pc
  | [] => rfl
  | (k, t) :: rest => by
    by_cases e : x = k
    · subst e
      simp [Op.lookupswitch.offset, swt]
    · rw [List.map_cons, lv_osw e rfl, lsw_off rest, show swt x d ((k, t) :: rest) = if x = k then t else swt x d rest from rfl, if_neg e]
theorem xs_lsw (F : XFx p s m meth c args Rm cc own nL ini law sc mc ms A sV) {x : Int32} {cs : List (Int32 × Nat)} {d len : Nat} {df : Int} {ps : Array (Int × Int)} (hd : decode cc pc = .ok (.lookupswitch df ps, len)) (h1 : df = (d : Int) - pc) (h2 : ps.toList = cs.map fun c => (c.1.toInt, (c.2 : Int) - pc)) (h3 : (ps.toList.zip (ps.toList.drop 1)).all (fun (a, next) => a.1 < next.1) = true)
    (k : XW p l e Rm s m args below meth c dC dI A a0 n0 sV nL mc ms Zf (swt x d cs) L st S I J r cu su) : XW p l e Rm s m args below meth c dC dI A a0 n0 sV nL mc ms Zf pc L (.int x :: st) S I J r cu su := by
  intro ls H locs ws tys h
  have k1 := k ls H locs ws tys (h.push (ok_tl h.2.2.2.1))
  exact lv_lookup (off := (swt x d cs : Int) - pc) F.1 F.2.1 hd h3 (by rw [h2, h1]; exact lsw_off cs) (by omega) k1
end XOps
end
section
section XOps
variable {p : Program} {l : Launch} {e : Env} {Rm : Room} {s : State} {m : MethodId} {args : Array Value} {below : List Frame} {meth : Method} {c : Code} {dC : Nat → ClassId} {dI : Nat → Nat → Nat} {A : Nat → Prop} {a0 : Nat → Nat} {n0 : Nat} {sV : Nat → Value} {nL mc ms : Nat} {Zf : State → Prop} {cc : ByteArray} {own : String} {ini law : Bool} {sc : Nat × (Nat → Int32)} {K : XK} {pc pc' : Nat} {L st : XV} {S : XS} {I : XI} {J : XJ} {r : XR} {cu su : Nat}
def xwk (k : Nat) : List Cond := Cond.code (xm k).1 (xm k).2.1 (xm k).2.2.1 (xm k).2.2.2 :: xW
def xroom (d k : Nat) : Room := { frames := d, cells := mck k, slots := msk k, locals := 40 * d }
abbrev XU : Type := XS × XI × XJ × XR × va_W × List (ClassId × FieldType)
def xpo (Q : XQ) (v : Option Value) (u : XU) : Prop := Q v u.1 u.2.1 u.2.2.1 u.2.2.2.1
def xB1 (dC : Nat → ClassId) (dI : Nat → Nat → Nat) (A : Nat → Prop) (n0 : Nat) (a0 : Nat → Nat) (u : XU) (t : State) : Prop := va_P (dC, dI) xcl u.2.2.2.2.1 t.heap ∧ va_K (dC, dI) xcl u.2.2.2.2.2 t ∧ va_D A u.2.2.2.2.1 ∧ XRel a0 n0 u.2.2.2.2.2 u.2.2.2.2.1 u.1 u.2.1 u.2.2.1 u.2.2.2.1
def xQc (ret : Option FieldType) (Q : XQ) (B : XU → State → Prop) (A : Nat → Prop) : Array Value → State → Outcome → State → Prop := match ret with
  | none => va_Qv (xpo Q none) B A
  | some .long => va_Ql (fun v => xpo Q (some (.long v))) B A
  | some _ => va_Qi (fun v => xpo Q (some (.int v))) B A
def xB0 (dC : Nat → ClassId) (dI : Nat → Nat → Nat) (sV : Nat → Value) (sz : Nat) (ws : va_W) (tys : List (ClassId × FieldType)) (args : XV) (S : XS) (I : XI) (J : XJ) (r : XR) (U : State) : Prop :=
  U.heap.size = sz ∧ va_P (dC, dI) xcl ws U.heap ∧ va_K (dC, dI) xcl tys U ∧ va_D (fun _ => True) ws ∧ XRel (xadr ws) S.length tys ws S I J r ∧ XStr (va_A ws sz) sV U U.heap ∧ ∀ v ∈ args, xok S v
/-- a method's contract, out of what the abstract machine does -/
def XMt (l : Launch) (d : Nat) (dC : Nat → ClassId) (dI : Nat → Nat → Nat) (sV : Nat → Value) (k : Nat) (args : XV) (S : XS) (I : XI) (J : XJ) (r : XR) (Q : XQ) : Prop :=
  ∀ (ws : va_W) (tys : List (ClassId × FieldType)) (sz : Nat), Met l (xm k).1 (xwk k) (xroom d k) (va_Pc (args.map (xtr (xadr ws) sV)) (xB0 dC dI sV sz ws tys args S I J r)) (xQc (xm k).2.2.2 Q (xB1 dC dI (va_A ws sz) S.length (xadr ws)) (va_A ws sz)) (mck k) (msk k) (va_A ws sz)
theorem XStr.calling {A : Nat → Prop} {U : State} {g : JFrame} {mk : MethodId} {a : Array Value} (h : XStr A sV U U.heap) : XStr A sV (U.calling g mk a) (U.calling g mk a).heap := by
  obtain ⟨⟨adK, adV, h1, h2⟩, h3, h4, h5, h6, h7⟩ := h
  exact ⟨⟨adK, adV, h1.moved (u := U) (U := U.calling g mk a) (Vm.Alike.refl U.vm), fun i hi => ⟨fun x hx => vk_R.same (u := U) rfl ((h2 i hi).1 x hx), (h2 i hi).2⟩⟩, va_Z.moved (u := U) (U := U.calling g mk a) (Vm.Alike.refl U.vm) h3, va_Z.moved (u := U) (U := U.calling g mk a) (Vm.Alike.refl U.vm) h4, h5, va_AO.moved (u := U) (U := U.calling g mk a) (Vm.Alike.refl U.vm) h6, va_AOA.moved (u := U) (U := U.calling g mk a) (Vm.Alike.refl U.vm) h7⟩
theorem XStr.at {A B : Nat → Prop} {H : Heap} {locs : List Loc} {U : State} (h : XStr A sV s s.heap) (hS : va_S A s.heap H locs) (hAB : ∀ q, B q → A q) (hU : U.heap = H) (hW : s.WarmedH U.vm) : XStr B sV U U.heap := by
  obtain ⟨⟨adK, adV, h1, h2⟩, h3, h4, h5, h6, h7⟩ := h
  rw [hU]
  exact ⟨⟨adK, adV, ((h1.kept hS.2.1).narrow hAB).moved hW.alike, fun i hi => ⟨fun x hx => vk_R.warm hW ((h2 i hi).1 x hx), (h2 i hi).2⟩⟩, ((h3.kept hS.2.1).narrow hAB).moved hW.alike, ((h4.kept hS.2.1).narrow hAB).moved hW.alike, h5, h6.moved hW.alike, h7.moved hW.alike⟩
theorem xB0_blind {vs : List Value} {sz : Nat} {ws : va_W} {tys : List (ClassId × FieldType)} {as : XV} : FrameBlind (va_Pc vs (xB0 dC dI sV sz ws tys as S I J r)) := by
  intro a U g mk ⟨h0, h1, h2, h3, h4, h5, h6, h7⟩
  exact ⟨h0, h1, h2, va_K.moved (u := U) (U := U.calling g mk a) (Vm.Alike.refl U.vm) h3, h4, h5, h6.calling, h7⟩
theorem va_A_sub {H : Heap} {locs : List Loc} {ws : va_W} (hD : va_D A ws) (hS : va_S A s.heap H locs) (hA : ∀ q : Nat, s.heap.size ≤ q → A q) : ∀ q, va_A ws H.size q → A q := by
  intro q h
  rcases h with ⟨k, e, h⟩ | h
  · exact hD.2 k (q, e) h
  · exact hA q (Nat.le_trans hS.1 h)
theorem XRel.base {a0 : Nat → Nat} {n0 : Nat} {tys tys' : List (ClassId × FieldType)} {ws ws' : va_W} {S' : XS} {I' : XI} {J' : XJ} {r' : XR} (h1 : XRel a0 n0 tys ws S I J r) (h2 : XRel (xadr ws) S.length tys' ws' S' I' J' r') : XRel a0 n0 tys' ws' S' I' J' r' :=
  ⟨h2.1, h2.2.1, h2.2.2.1, h2.2.2.2.1, Nat.le_trans h1.2.2.2.2.1 h2.2.2.2.2.1, fun k hk => (h2.2.2.2.2.2 k (Nat.lt_of_lt_of_le hk h1.2.2.2.2.1)).trans (h1.2.2.2.2.2 k hk)⟩
theorem XRel.self {a0 : Nat → Nat} {n0 : Nat} {tys : List (ClassId × FieldType)} {ws : va_W} (h : XRel a0 n0 tys ws S I J r) : XRel (xadr ws) S.length tys ws S I J r := ⟨h.1, h.2.1, h.2.2.1, h.2.2.2.1, Nat.le_refl _, fun _ _ => rfl⟩
/-- the start of a call: what holds there -/
theorem xB0_start (F : XFx p s m meth c args Rm cc own nL ini law sc mc ms A sV) {ls : Array Slot} {H : Heap} {locs : List Loc} {ws : va_W} {tys : List (ClassId × FieldType)} (h : XH dC dI A s a0 n0 sV nL mc ms ls H locs ws tys L st S I J r cu su) {as : XV} (has : ∀ v ∈ as, xok S v) {U : State} (hU : U.heap = H) (hW : s.WarmedH U.vm) : xB0 dC dI sV H.size ws tys as S I J r U := by
  obtain ⟨-, ⟨hK, hP, hD, hS, hX⟩, -⟩ := h
  exact ⟨by rw [hU], by rw [hU]; exact hP, va_K.moved hW.alike hK, hD.weaken (fun _ _ _ _ => trivial), hX.self, F.2.2.2.2.2.2.2.1.at hS (va_A_sub hD hS F.2.2.2.2.2.2.1) hU hW, has⟩
/-- behind a call -/
theorem xs_after (F : XFx p s m meth c args Rm cc own nL ini law sc mc ms A sV) {k : Nat} {rest : XV} {Q' : XQ} (hrest : ∀ v ∈ rest, v ∈ st)
    (hcu : cu + mck k ≤ mc) (hsu : su + msk k ≤ ms)
    (hrun : ∀ (ls : Array Slot) (H : Heap) (locs : List Loc) (ws : va_W) (tys : List (ClassId × FieldType)), XH dC dI A s a0 n0 sV nL mc ms ls H locs ws tys L st S I J r cu su → ∃ a : Array Value, va_Run p l e Rm s m args below meth c H locs cu su (mck k) (msk k) (F0 m pc ls (st.map (xtr (xadr ws) sV))) (rest.map (xtr (xadr ws) sV)) (xQc (xm k).2.2.2 Q' (xB1 dC dI (va_A ws H.size) S.length (xadr ws)) (va_A ws H.size) a) (va_A ws H.size))
    (hK : ∀ (v : Option Value) (S' : XS) (I' : XI) (J' : XJ) (r' : XR), Q' v S' I' J' r' → XW p l e Rm s m args below meth c dC dI A a0 n0 sV nL mc ms Zf (pc + 3) L (v.toList ++ rest) S' I' J' r' (cu + mck k) (su + msk k)) : XW p l e Rm s m args below meth c dC dI A a0 n0 sV nL mc ms Zf pc L st S I J r cu su := by
  intro ls H locs ws tys h
  obtain ⟨a, hr⟩ := hrun ls H locs ws tys h
  obtain ⟨hL, ⟨hKn, hP, hD, hS, hX⟩, hLo, hso, -, -⟩ := h
  have hF := va_A_sub hD hS F.2.2.2.2.2.2.1
  have hro : ∀ v ∈ rest, xok S v := fun v hv => hso v (hrest v hv)
  have go : ∀ (v : Option Value) (hv : ∀ w ∈ v.toList, ∀ (S : XS) (ad ad' : Nat → Nat), xok S w ∧ xtr ad sV w = w) (u : XU) (t : State) (H1 : Heap) (locs1 : List Loc), t.heap = H1 → s.vm.Alike t.vm → xpo Q' v u → xB1 dC dI (va_A ws H.size) S.length (xadr ws) u t → va_S A s.heap H1 locs1 → W p l e Rm s m args below meth c H1 locs1 (cu + mck k) (su + msk k) Zf (F0 m (pc + 3) ls (v.toList ++ rest.map (xtr (xadr ws) sV))) := by
    intro v hv u t H1 locs1 ht hvm hw ⟨hP1, hK1, hD1, hX1⟩ hS1
    rw [ht] at hP1
    have hK1 := va_K.moved hvm.symm hK1
    have had : ∀ k, k < S.length → xadr u.2.2.2.2.1 k = xadr ws k := hX1.2.2.2.2.2
    have hle : S.length ≤ u.1.length := hX1.2.2.2.2.1
    have k1 := hK v u.1 u.2.1 u.2.2.1 u.2.2.2.1 hw ls H1 locs1 u.2.2.2.2.1 u.2.2.2.2.2 ⟨hL.congr hLo had, ⟨hK1, hP1, hD1.weaken (fun _ q _ hq => hF q.1 hq), hS1, hX.base hX1⟩, fun w hw => xok_mono hle (hLo w hw), fun w hw => by
      rcases List.mem_append.mp hw with hw | hw
      · exact (hv w hw u.1 (xadr ws) (xadr ws)).1
      · exact xok_mono hle (hro w hw), hcu, hsu⟩
    have e1 : (v.toList ++ rest).map (xtr (xadr u.2.2.2.2.1) sV) = v.toList ++ rest.map (xtr (xadr ws) sV) := by
      rw [List.map_append, map_congr hro had]
      congr 1
      exact (List.map_congr_left (g := id) fun w hw => (hv w hw u.1 _ (xadr ws)).2).trans (List.map_id _)
    rw [e1] at k1
    exact k1
  cases hret : (xm k).2.2.2 with
  | none =>
    rw [hret] at hr
    exact va_callv (a := a) hr hS (fun q _ hq => hF q hq) hF (fun u t H1 locs1 ht hvm hw hB hz hk hS1 => go none (fun w hw => by cases hw) u t H1 locs1 ht hvm hw hB hS1)
  | some ty =>
    rw [hret] at hr
    by_cases hty : ty = .long
    · subst hty
      exact va_calll (a := a) hr hS (fun q _ hq => hF q hq) hF (fun v u t H1 locs1 ht hvm hw hB hz hk hS1 => go (some (.long v)) (fun w hw S ad ad' => by simp at hw; subst hw; exact ⟨trivial, rfl⟩) u t H1 locs1 ht hvm hw hB hS1)
    · have e : xQc (some ty) Q' (xB1 dC dI (va_A ws H.size) S.length (xadr ws)) (va_A ws H.size) = va_Qi (fun v => xpo Q' (some (.int v))) (xB1 dC dI (va_A ws H.size) S.length (xadr ws)) (va_A ws H.size) := by
        unfold xQc
        cases ty <;> first | rfl | exact absurd rfl hty
      rw [e] at hr
      exact va_calli (a := a) hr hS (fun q _ hq => hF q hq) hF (fun v u t H1 locs1 ht hvm hw hB hz hk hS1 => go (some (.int v)) (fun w hw S ad ad' => by simp at hw; subst hw; exact ⟨trivial, rfl⟩) u t H1 locs1 ht hvm hw hB hS1)
/-! what is asked of a callee -/
def okC (k : Nat) : Bool := match xh k with
  | (_, ii, ix, isel, n, kd) => xmok k && xw ii (.initialized (xm k).1.cls) && decide ((xm k).1.cls ≠ "java/lang/invoke/MethodHandle" ∧ (xm k).1.cls ≠ "java/lang/invoke/VarHandle") && decide ((parseMethodDescriptor (xm k).1.desc).map (fun d => d.parameters.length) = some n) && decide ((xm k).2.2.1 ≤ 21) && (match kd with
    | 0 => xw ix (.instanceMethod (xm k).1) && xw isel (.selects (xm k).1.cls (xm k).1 (xm k).1)
    | 1 => xw ix (.static (xm k).1)
    | _ => xw ix (.instanceMethod (xm k).1) && decide ((xm k).1.name = "<init>") && decide ((xm k).2.2.2 = none))
theorem goodIn_xW {w : Cond} (h : w ∈ xW) : w ∈ xW ∧ ((w.onTables && w.keeps) = true ∨ ∃ ty, w = .arrayClass ty) := ⟨h, good_of_word (List.mem_filter.mp h).2⟩
theorem goodIn_wk {k : Nat} (h : Cond.code (xm k).1 (xm k).2.1 (xm k).2.2.1 (xm k).2.2.2 ∈ xW) : GoodIn xW (xwk k) := fun w hw => by
  rcases List.mem_cons.mp hw with rfl | hw
  · exact goodIn_xW h
  · exact goodIn_xW hw
theorem okC_base {k : Nat} (h : okC k = true) (hts : ∀ w ∈ xW, w.before args s = true) {d0 : Nat} (hfr : d0 + 1 ≤ Rm.frames) (hlo : 40 * (d0 + 1) ≤ Rm.locals) : ((xroom d0 k).cells = mck k ∧ (xroom d0 k).slots = msk k ∧ (xroom d0 k).frames + 1 ≤ Rm.frames ∧ 8 + ((xm k).2.2.1 + 11) + (xroom d0 k).locals ≤ Rm.locals ∧ (∀ w ∈ xwk k, ∀ (a' : Array Value) (U : State), s.WarmedH U.vm → w.before a' U = true) ∧ Cond.code (xm k).1 (xm k).2.1 (xm k).2.2.1 (xm k).2.2.2 ∈ xwk k) ∧
    (Cond.code (xm k).1 (xm k).2.1 (xm k).2.2.1 (xm k).2.2.2).before args s = true ∧ (Cond.initialized (xm k).1.cls).before args s = true ∧ ((xm k).1.cls ≠ "java/lang/invoke/MethodHandle" ∧ (xm k).1.cls ≠ "java/lang/invoke/VarHandle") ∧ (∀ sig, parseMethodDescriptor (xm k).1.desc = some sig → (xh k).2.2.2.2.1 = sig.parameters.length) := by
  unfold okC at h
  have h0 : xmok k = true := by
    simp only [Bool.and_eq_true] at h
    exact h.1.1.1.1.1
  generalize xh k = z at h ⊢
  obtain ⟨ic, ii, ix, isel, n, kd⟩ := z
  simp only [Bool.and_eq_true, decide_eq_true_eq] at h
  obtain ⟨⟨⟨⟨⟨-, h2⟩, h3⟩, h4⟩, h5⟩, -⟩ := h
  have h1 := xm_in h0
  refine ⟨⟨rfl, rfl, hfr, by show 8 + (_ + 11) + 40 * d0 ≤ _; omega, pay_in hts (goodIn_wk h1), List.mem_cons_self⟩, hts _ h1, hts _ (xw_in h2), h3, fun sig hs => ?_⟩
  rw [hs] at h4
  exact (Option.some.inj h4).symm
theorem okC_virt {k : Nat} (h : okC k = true) (hk : (xh k).2.2.2.2.2 = 0) : Cond.instanceMethod (xm k).1 ∈ xW ∧ Cond.selects (xm k).1.cls (xm k).1 (xm k).1 ∈ xW := by
  unfold okC at h
  generalize xh k = z at h hk
  obtain ⟨ic, ii, ix, isel, n, kd⟩ := z
  simp only at hk
  subst hk
  simp only [Bool.and_eq_true] at h
  exact ⟨xw_in h.2.1, xw_in h.2.2⟩
theorem okC_stat {k : Nat} (h : okC k = true) (hk : (xh k).2.2.2.2.2 = 1) : Cond.static (xm k).1 ∈ xW := by
  unfold okC at h
  generalize xh k = z at h hk
  obtain ⟨ic, ii, ix, isel, n, kd⟩ := z
  simp only at hk
  subst hk
  simp only [Bool.and_eq_true] at h
  exact xw_in h.2
theorem okC_init {k : Nat} (h : okC k = true) (hk : (xh k).2.2.2.2.2 = 2) : Cond.instanceMethod (xm k).1 ∈ xW ∧ (xm k).1.name = "<init>" ∧ (xm k).2.2.2 = none := by
  unfold okC at h
  generalize xh k = z at h hk
  obtain ⟨ic, ii, ix, isel, n, kd⟩ := z
  simp only at hk
  subst hk
  simp only [Bool.and_eq_true, decide_eq_true_eq] at h
  exact ⟨xw_in h.2.1.1, h.2.1.2, h.2.2⟩
theorem rev_split {n q : Nat} {v : Value} {As : XV} (h : (st.take n).reverse = v :: As) {f : Value → Value} : st.map f = (As.map f).reverse ++ f v :: (st.drop n).map f := by
  have h1 : st.take n = As.reverse ++ [v] := by
    have h2 := congrArg List.reverse h
    simpa using h2
  have h3 : st = As.reverse ++ v :: st.drop n := by
    conv => lhs; rw [← List.take_append_drop n st, h1]
    simp
  conv => lhs; rw [h3]
  simp
theorem stat_split {n : Nat} {f : Value → Value} : st.map f = ((st.take n).reverse.map f).reverse ++ (st.drop n).map f := by
  rw [← List.map_reverse, List.reverse_reverse, ← List.map_append, List.take_append_drop]
theorem rev_len {n : Nat} {v : Value} {As : XV} (h : (st.take n).reverse = v :: As) (hn : n ≤ st.length) : As.length + 1 = n := by
  have h2 := congrArg List.length h
  simp at h2
  omega
theorem rest_ok {ad : Nat → Nat} (F : XFx p s m meth c args Rm cc own nL ini law sc mc ms A sV) {rest : XV} {ls : Array Slot} {v : List Value} (h8 : xsz rest ≤ 8) : 2 * (F0 m pc ls v).monitorRoom + ((rest.map (xtr ad sV)).map fun v => v.category).sum ≤ 8 := lv_room (by rw [xsz_sum F.cat]; exact h8)
/-- a virtual call of ours -/
theorem xs_callV (F : XFx p s m meth c args Rm cc own nL ini law sc mc ms A sV) {d0 k a n b q : Nat} {As : XV} {Q' : XQ} (hfr : d0 + 1 ≤ Rm.frames) (hlo : 40 * (d0 + 1) ≤ Rm.locals) (hok : okC k = true) (hkd : (xh k).2.2.2.2.2 = 0) (hl : Cond.methodLink own a (xm k).1 ∈ xW) (hb : b < 11) (hbk : (xC b).1 = (xm k).1.cls) (hn : n = (xh k).2.2.2.2.1 + 1) (hnl : n ≤ st.length) (hd : decode cc pc = .ok (.invokevirtual a, 3)) (hs8 : xsz (st.drop n) ≤ 8) (hcu : cu + mck k ≤ mc) (hsu : su + msk k ≤ ms)
    (hA : (st.take n).reverse = .ref q :: As) (hS : S[q]? = some (b, 0)) (hM : XMt l d0 dC dI sV k (st.take n).reverse S I J r Q')
    (hK : ∀ (v : Option Value) (S' : XS) (I' : XI) (J' : XJ) (r' : XR), Q' v S' I' J' r' → XW p l e Rm s m args below meth c dC dI A a0 n0 sV nL mc ms Zf (pc + 3) L (v.toList ++ st.drop n) S' I' J' r' (cu + mck k) (su + msk k)) : XW p l e Rm s m args below meth c dC dI A a0 n0 sV nL mc ms Zf pc L st S I J r cu su := by
  refine xs_after F (fun v hv => List.mem_of_mem_drop hv) hcu hsu (fun ls H locs ws tys h => ?_) hK
  obtain ⟨hb0, hcode, hini, hnm, hpar⟩ := okC_base hok F.2.2.2.2.1 hfr hlo
  obtain ⟨hi, hse⟩ := okC_virt hok hkd
  obtain ⟨cA, g1, -⟩ := h.2.1.2.2.2.2.at hS
  rw [xcell_obj hb] at g1
  have hts := F.2.2.2.2.1
  have hrec := va_recv h.2.1.1 h.2.1.2.1 (xC_at hb) g1
  rw [hA] at hM
  have hM1 := hM ws tys H.size
  have has : ∀ v ∈ (Value.ref q :: As), xok S v := fun v hv => h.2.2.2.1 v (by rw [← hA] at hv; exact List.mem_of_mem_take (List.mem_reverse.mp hv))
  have hlen : As.length + 1 = n := rev_len hA hnl
  refine ⟨_, va_runV (C := (xm k).1.cls) (b := xadr ws q) (As := As.map (xtr (xadr ws) sV)) (rest := (st.drop n).map (xtr (xadr ws) sV)) (Ts := xW) (n := (xh k).2.2.2.2.1) ⟨F.1, F.2.1, F.2.2.1, F.2.2.2.1, hts⟩ hM1 ⟨⟨hb0.1, hb0.2.1, hb0.2.2.1, hb0.2.2.2.1, hb0.2.2.2.2.1, hb0.2.2.2.2.2, hcode, hini, hnm, hpar, hts _ hl⟩, hts _ hi, hts _ hse⟩ ⟨xB0_blind, by rw [← hbk]; exact hrec, fun U hU hW => ⟨rfl, xB0_start F h has hU hW⟩⟩ rfl (by rw [List.length_map]; omega) h.1.1 (rev_split (q := q) hA) (rest_ok F hs8) hd ⟨by have := F.2.2.2.2.2.2.2.2.2.2.2.1; omega, by have := F.2.2.2.2.2.2.2.2.2.2.2.2; omega⟩⟩
theorem xs_callS (F : XFx p s m meth c args Rm cc own nL ini law sc mc ms A sV) {d0 k a n : Nat} {Q' : XQ} (hfr : d0 + 1 ≤ Rm.frames) (hlo : 40 * (d0 + 1) ≤ Rm.locals) (hok : okC k = true) (hkd : (xh k).2.2.2.2.2 = 1) (hl : Cond.methodLink own a (xm k).1 ∈ xW) (hn : n = (xh k).2.2.2.2.1) (hnl : n ≤ st.length) (hd : decode cc pc = .ok (.invokestatic a, 3)) (hs8 : xsz (st.drop n) ≤ 8) (hcu : cu + mck k ≤ mc) (hsu : su + msk k ≤ ms)
    (hM : XMt l d0 dC dI sV k (st.take n).reverse S I J r Q')
    (hK : ∀ (v : Option Value) (S' : XS) (I' : XI) (J' : XJ) (r' : XR), Q' v S' I' J' r' → XW p l e Rm s m args below meth c dC dI A a0 n0 sV nL mc ms Zf (pc + 3) L (v.toList ++ st.drop n) S' I' J' r' (cu + mck k) (su + msk k)) : XW p l e Rm s m args below meth c dC dI A a0 n0 sV nL mc ms Zf pc L st S I J r cu su := by
  refine xs_after F (fun v hv => List.mem_of_mem_drop hv) hcu hsu (fun ls H locs ws tys h => ?_) hK
  obtain ⟨hb0, hcode, hini, hnm, hpar⟩ := okC_base hok F.2.2.2.2.1 hfr hlo
  have hst := okC_stat hok hkd
  have hts := F.2.2.2.2.1
  have hM1 := hM ws tys H.size
  have has : ∀ v ∈ (st.take n).reverse, xok S v := fun v hv => h.2.2.2.1 v (List.mem_of_mem_take (List.mem_reverse.mp hv))
  refine ⟨_, va_runS (As := (st.take n).reverse.map (xtr (xadr ws) sV)) (rest := (st.drop n).map (xtr (xadr ws) sV)) (Ts := xW) (n := (xh k).2.2.2.2.1) ⟨F.1, F.2.1, F.2.2.1, F.2.2.2.1, hts⟩ hM1 ⟨⟨hb0.1, hb0.2.1, hb0.2.2.1, hb0.2.2.2.1, hb0.2.2.2.2.1, hb0.2.2.2.2.2, hcode, hini, hnm, hpar, hts _ hl⟩, hts _ hst⟩ ⟨xB0_blind, fun U hU hW => ⟨rfl, xB0_start F h has hU hW⟩⟩ rfl (by simp; omega) h.1.1 stat_split (rest_ok F hs8) hd ⟨by have := F.2.2.2.2.2.2.2.2.2.2.2.1; omega, by have := F.2.2.2.2.2.2.2.2.2.2.2.2; omega⟩⟩
theorem xs_callI (F : XFx p s m meth c args Rm cc own nL ini law sc mc ms A sV) {d0 k a n q : Nat} {As : XV} {Q' : XQ} {host : String} (hfr : d0 + 1 ≤ Rm.frames) (hlo : 40 * (d0 + 1) ≤ Rm.locals) (hok : okC k = true) (hkd : (xh k).2.2.2.2.2 = 2) (hl : Cond.methodLink own a (xm k).1 ∈ xW ∨ Cond.methodLinkNest own a (xm k).1 host ∈ xW) (hn : n = (xh k).2.2.2.2.1 + 1) (hnl : n ≤ st.length) (hd : decode cc pc = .ok (.invokespecial a, 3)) (hs8 : xsz (st.drop n) ≤ 8) (hcu : cu + mck k ≤ mc) (hsu : su + msk k ≤ ms)
    (hA : (st.take n).reverse = .ref q :: As) (hM : XMt l d0 dC dI sV k (st.take n).reverse S I J r Q')
    (hK : ∀ (v : Option Value) (S' : XS) (I' : XI) (J' : XJ) (r' : XR), Q' v S' I' J' r' → XW p l e Rm s m args below meth c dC dI A a0 n0 sV nL mc ms Zf (pc + 3) L (v.toList ++ st.drop n) S' I' J' r' (cu + mck k) (su + msk k)) : XW p l e Rm s m args below meth c dC dI A a0 n0 sV nL mc ms Zf pc L st S I J r cu su := by
  refine xs_after F (fun v hv => List.mem_of_mem_drop hv) hcu hsu (fun ls H locs ws tys h => ?_) hK
  obtain ⟨hb0, hcode, hini, hnm, hpar⟩ := okC_base hok F.2.2.2.2.1 hfr hlo
  obtain ⟨hi, hnam, hret⟩ := okC_init hok hkd
  have hts := F.2.2.2.2.1
  rw [hA] at hM
  have hM1 := hM ws tys H.size
  rw [hret] at hb0 hcode
  have has : ∀ v ∈ (Value.ref q :: As), xok S v := fun v hv => h.2.2.2.1 v (by rw [← hA] at hv; exact List.mem_of_mem_take (List.mem_reverse.mp hv))
  have hlen : As.length + 1 = n := rev_len hA hnl
  rcases hl with hl | hl
  · refine ⟨_, va_runI (b := xadr ws q) (As := As.map (xtr (xadr ws) sV)) (rest := (st.drop n).map (xtr (xadr ws) sV)) (Ts := xW) (n := (xh k).2.2.2.2.1) ⟨F.1, F.2.1, F.2.2.1, F.2.2.2.1, hts⟩ hM1 ⟨⟨hb0.1, hb0.2.1, hb0.2.2.1, hb0.2.2.2.1, hb0.2.2.2.2.1, hb0.2.2.2.2.2, hcode, hini, hnm, hpar, hts _ hl⟩, hnam, hts _ hi⟩ ⟨xB0_blind, fun U hU hW => ⟨rfl, xB0_start F h has hU hW⟩⟩ rfl (by rw [List.length_map]; omega) h.1.1 (rev_split (q := q) hA) (rest_ok F hs8) hd ⟨by have := F.2.2.2.2.2.2.2.2.2.2.2.1; omega, by have := F.2.2.2.2.2.2.2.2.2.2.2.2; omega⟩⟩
  · refine ⟨_, va_runIN (host := host) (b := xadr ws q) (As := As.map (xtr (xadr ws) sV)) (rest := (st.drop n).map (xtr (xadr ws) sV)) (Ts := xW) (n := (xh k).2.2.2.2.1) ⟨F.1, F.2.1, F.2.2.1, F.2.2.2.1, hts⟩ hM1 ⟨⟨hb0, hcode, hini, hnm, hpar, hts _ hl⟩, hnam, hts _ hi⟩ ⟨xB0_blind, fun U hU hW => ⟨rfl, xB0_start F h has hU hW⟩⟩ rfl (by rw [List.length_map]; omega) h.1.1 (rev_split (q := q) hA) (rest_ok F hs8) hd ⟨by have := F.2.2.2.2.2.2.2.2.2.2.2.1; omega, by have := F.2.2.2.2.2.2.2.2.2.2.2.2; omega⟩⟩
/-- a call of a string constant's own -/
theorem xs_callX (F : XFx p s m meth c args Rm cc own nL ini law sc mc ms A sV) {d0 k a n i : Nat} {As : XV} {Q' : XQ} (hfr : d0 + 1 ≤ Rm.frames) (hlo : 40 * (d0 + 1) ≤ Rm.locals) (hok : okC k = true) (hkd : (xh k).2.2.2.2.2 = 0) (hl : Cond.methodLink own a (xm k).1 ∈ xW) (hbk : "java/lang/String" = (xm k).1.cls) (hn : n = (xh k).2.2.2.2.1 + 1) (hnl : n ≤ st.length) (hd : decode cc pc = .ok (.invokevirtual a, 3)) (hs8 : xsz (st.drop n) ≤ 8) (hcu : cu + mck k ≤ mc) (hsu : su + msk k ≤ ms)
    (hA : (st.take n).reverse = .retAddr i :: As) (hi29 : i < 29) (hM : XMt l d0 dC dI sV k (st.take n).reverse S I J r Q')
    (hK : ∀ (v : Option Value) (S' : XS) (I' : XI) (J' : XJ) (r' : XR), Q' v S' I' J' r' → XW p l e Rm s m args below meth c dC dI A a0 n0 sV nL mc ms Zf (pc + 3) L (v.toList ++ st.drop n) S' I' J' r' (cu + mck k) (su + msk k)) : XW p l e Rm s m args below meth c dC dI A a0 n0 sV nL mc ms Zf pc L st S I J r cu su := by
  refine xs_after F (fun v hv => List.mem_of_mem_drop hv) hcu hsu (fun ls H locs ws tys h => ?_) hK
  obtain ⟨hb0, hcode, hini, hnm, hpar⟩ := okC_base hok F.2.2.2.2.1 hfr hlo
  obtain ⟨hi, hse⟩ := okC_virt hok hkd
  have hts := F.2.2.2.2.1
  obtain ⟨adK, adV, hE, h9⟩ := F.2.2.2.2.2.2.2.1.1
  obtain ⟨-, e1, -⟩ := h9 i hi29
  have hrec := vk_recv hE hi29 h.2.1.2.2.2.1
  rw [hA] at hM
  have hM1 := hM ws tys H.size
  have eA : (Value.retAddr i :: As).map (xtr (xadr ws) sV) = .ref (adK i) :: As.map (xtr (xadr ws) sV) := by
    rw [List.map_cons]
    show sV i :: _ = _
    rw [e1]
  rw [eA] at hM1
  have has : ∀ v ∈ (Value.retAddr i :: As), xok S v := fun v hv => h.2.2.2.1 v (by rw [← hA] at hv; exact List.mem_of_mem_take (List.mem_reverse.mp hv))
  have hlen : As.length + 1 = n := rev_len hA hnl
  have hsp := rev_split (q := 0) (f := xtr (xadr ws) sV) hA
  have e2 : xtr (xadr ws) sV (.retAddr i) = .ref (adK i) := e1
  rw [e2] at hsp
  refine ⟨_, va_runV (C := (xm k).1.cls) (b := adK i) (As := As.map (xtr (xadr ws) sV)) (rest := (st.drop n).map (xtr (xadr ws) sV)) (Ts := xW) (n := (xh k).2.2.2.2.1) ⟨F.1, F.2.1, F.2.2.1, F.2.2.2.1, hts⟩ hM1 ⟨⟨hb0.1, hb0.2.1, hb0.2.2.1, hb0.2.2.2.1, hb0.2.2.2.2.1, hb0.2.2.2.2.2, hcode, hini, hnm, hpar, hts _ hl⟩, hts _ hi, hts _ hse⟩ ⟨xB0_blind, by rw [← hbk]; exact hrec, fun U hU hW => ⟨rfl, xB0_start F h has hU hW⟩⟩ rfl (by rw [List.length_map]; omega) h.1.1 hsp (rest_ok F hs8) hd ⟨by have := F.2.2.2.2.2.2.2.2.2.2.2.1; omega, by have := F.2.2.2.2.2.2.2.2.2.2.2.2; omega⟩⟩
end XOps
end
section
def okCs (k : Nat) : Bool := decide (k < 351) && !([1,48,49,50,51].contains k)
theorem okC_a0 : ∀ k, k < 39 → (okCs (k + 0) = true → okC (k + 0) = true) := by decide +kernel
theorem okC_a1 : ∀ k, k < 39 → (okCs (k + 39) = true → okC (k + 39) = true) := by decide +kernel
theorem okC_a2 : ∀ k, k < 39 → (okCs (k + 78) = true → okC (k + 78) = true) := by decide +kernel
theorem okC_a3 : ∀ k, k < 39 → (okCs (k + 117) = true → okC (k + 117) = true) := by decide +kernel
theorem okC_a4 : ∀ k, k < 39 → (okCs (k + 156) = true → okC (k + 156) = true) := by decide +kernel
theorem okC_a5 : ∀ k, k < 39 → (okCs (k + 195) = true → okC (k + 195) = true) := by decide +kernel
theorem okC_a6 : ∀ k, k < 39 → (okCs (k + 234) = true → okC (k + 234) = true) := by decide +kernel
theorem okC_a7 : ∀ k, k < 39 → (okCs (k + 273) = true → okC (k + 273) = true) := by decide +kernel
theorem okC_a8 : ∀ k, k < 39 → (okCs (k + 312) = true → okC (k + 312) = true) := by decide +kernel
theorem okC_all : ∀ k, k < 351 → (okCs k = true → okC k = true) := by
  intro k hk
  by_cases h0 : k < 39
  · have h9 := okC_a0 (k - 0) (by omega)
    rwa [show k - 0 + 0 = k by omega] at h9
  by_cases h1 : k < 78
  · have h9 := okC_a1 (k - 39) (by omega)
    rwa [show k - 39 + 39 = k by omega] at h9
  by_cases h2 : k < 117
  · have h9 := okC_a2 (k - 78) (by omega)
    rwa [show k - 78 + 78 = k by omega] at h9
  by_cases h3 : k < 156
  · have h9 := okC_a3 (k - 117) (by omega)
    rwa [show k - 117 + 117 = k by omega] at h9
  by_cases h4 : k < 195
  · have h9 := okC_a4 (k - 156) (by omega)
    rwa [show k - 156 + 156 = k by omega] at h9
  by_cases h5 : k < 234
  · have h9 := okC_a5 (k - 195) (by omega)
    rwa [show k - 195 + 195 = k by omega] at h9
  by_cases h6 : k < 273
  · have h9 := okC_a6 (k - 234) (by omega)
    rwa [show k - 234 + 234 = k by omega] at h9
  by_cases h7 : k < 312
  · have h9 := okC_a7 (k - 273) (by omega)
    rwa [show k - 273 + 273 = k by omega] at h9
  by_cases h8 : k < 351
  · have h9 := okC_a8 (k - 312) (by omega)
    rwa [show k - 312 + 312 = k by omega] at h9
  omega
end
section
section XOps
variable {p : Program} {l : Launch} {e9 : Env} {Rm : Room} {s : State} {m : MethodId} {args : Array Value} {below : List Frame} {meth : Method} {c : Code} {dC : Nat → ClassId} {dI : Nat → Nat → Nat} {A : Nat → Prop} {a0 : Nat → Nat} {n0 : Nat} {sV : Nat → Value} {nL mc ms : Nat} {Zf : State → Prop} {cc : ByteArray} {own : String} {ini law : Bool} {sc : Nat × (Nat → Int32)} {K : XK} {pc pc' : Nat} {L st : XV} {S : XS} {I : XI} {J : XJ} {r : XR} {cu su : Nat}
def xretOk (rt : Option FieldType) (v : Option Value) : Prop := match rt, v with
  | none, none => True
  | some .long, some (.long _) => True
  | some .long, _ => False
  | some ty, some (.int x) => narrow ty (.int x) = .int x
  | _, _ => False
def xri : Option Value → Instr
  | none => .return_
  | some (.long _) => .lreturn
  | _ => .ireturn
theorem okCs_ok {k : Nat} (h : okCs k = true) : okC k = true := by
  have h1 := h
  unfold okCs at h1
  rw [Bool.and_eq_true] at h1
  exact okC_all k (of_decide_eq_true h1.1) h
def okK (b : Nat) : Bool := xw (xkhl.getD b (0, 0)).1 (.instantiable (xC b).1 (xC b).2.2) && xw (xkhl.getD b (0, 0)).2 (.initialized (xC b).1)
theorem okK_all : ∀ b, b < 11 → okK b = true := by decide +kernel
theorem okK_in {b : Nat} (h : b < 11) : Cond.instantiable (xC b).1 (xC b).2.2 ∈ xW ∧ Cond.initialized (xC b).1 ∈ xW := by
  have h1 := okK_all b h
  unfold okK at h1
  rw [Bool.and_eq_true] at h1
  exact ⟨xw_in h1.1, xw_in h1.2⟩
theorem xc_ai : Cond.arrayClass .int ∈ xW := xw_in (h := xah.getD 0 0) (by decide +kernel)
theorem xc_al : Cond.arrayClass .long ∈ xW := xw_in (h := xah.getD 1 0) (by decide +kernel)
theorem xc_ab : Cond.arrayClass .byte ∈ xW := xw_in (h := xah.getD 2 0) (by decide +kernel)
theorem xc_n : Cond.native arraycopyName ∈ xW := xw_in (h := xch.getD 0 0) (by decide +kernel)
theorem xc_s : Cond.static arraycopyName ∈ xW := xw_in (h := xch.getD 1 0) (by decide +kernel)
theorem xc_i : Cond.initialized "java/lang/System" ∈ xW := xw_in (h := xch.getD 2 0) (by decide +kernel)
theorem xc_oi : Cond.instanceMethod Lib.objectInit ∈ xW := xw_in (h := xch.getD 3 0) (by decide +kernel)
theorem xc_oc : Cond.code Lib.objectInit ⟨#[0xb1]⟩ 1 none ∈ xW := xw_in (h := xch.getD 4 0) (by decide +kernel)
theorem fin4 {a : Nat} (h : a < 4) : ((Fin.ofNat 4 a : Fin 4) : Nat) = a := Nat.mod_eq_of_lt h
def ck0 (own : String) (cc : ByteArray) (nL : Nat) (rt : Option FieldType) (ini law : Bool) (pc len a b d h n e : Nat) (z : Int32) (w : Int64) : Bool := (d == 0 && len == 1 && xdec cc pc (.iconst z.toInt) 1) || (d == 1 && len == 2 && xdec cc pc (.bipush z.toInt) 2 && decide ((Int8.ofInt z.toInt).toInt32 = z)) || (d == 2 && len == 3 && xdec cc pc (.sipush z.toInt) 3 && decide ((Int16.ofInt z.toInt).toInt32 = z)) || (d == 3 && len == 2 && xdec cc pc (.ldc a) 2 && xw h (.constant own a z)) || (d == 4 && len == 3 && xdec cc pc (.ldc_w a) 3 && xw h (.constant own a z))
def ck1 (own : String) (cc : ByteArray) (nL : Nat) (rt : Option FieldType) (ini law : Bool) (pc len a b d h n e : Nat) (z : Int32) (w : Int64) : Bool := (d == 0 && len == 1 && ((decide (w = 0) && xdec cc pc (.lconst 0) 1) || (decide (w = 1) && xdec cc pc (.lconst 1) 1))) || (d == 1 && len == 3 && xdec cc pc (.ldc2_w a) 3 && xw h (.constantLong own a w))
def ck2 (own : String) (cc : ByteArray) (nL : Nat) (rt : Option FieldType) (ini law : Bool) (pc len a b d h n e : Nat) (z : Int32) (w : Int64) : Bool := len == 2 && decide (b < 29) && xdec cc pc (.ldc a) 2 && (match xstl[b]? with
    | some x => decide (x.1 = own) && decide (x.2.1 = a)
    | none => false)
def ck3 (own : String) (cc : ByteArray) (nL : Nat) (rt : Option FieldType) (ini law : Bool) (pc len a b d h n e : Nat) (z : Int32) (w : Int64) : Bool := len == 1 && xdec cc pc .aconst_null 1
def ck4 (own : String) (cc : ByteArray) (nL : Nat) (rt : Option FieldType) (ini law : Bool) (pc len a b d h n e : Nat) (z : Int32) (w : Int64) : Bool := (len == 1 && decide (a < 4) && xdec cc pc (.iload_n (Fin.ofNat 4 a)) 1) || (len == 2 && xdec cc pc (.iload a) 2)
def ck5 (own : String) (cc : ByteArray) (nL : Nat) (rt : Option FieldType) (ini law : Bool) (pc len a b d h n e : Nat) (z : Int32) (w : Int64) : Bool := (len == 1 && decide (a < 4) && xdec cc pc (.lload_n (Fin.ofNat 4 a)) 1) || (len == 2 && xdec cc pc (.lload a) 2)
def ck6 (own : String) (cc : ByteArray) (nL : Nat) (rt : Option FieldType) (ini law : Bool) (pc len a b d h n e : Nat) (z : Int32) (w : Int64) : Bool := (len == 1 && decide (a < 4) && xdec cc pc (.aload_n (Fin.ofNat 4 a)) 1) || (len == 2 && xdec cc pc (.aload a) 2)
def ck7 (own : String) (cc : ByteArray) (nL : Nat) (rt : Option FieldType) (ini law : Bool) (pc len a b d h n e : Nat) (z : Int32) (w : Int64) : Bool := decide (a < nL) && ((len == 1 && decide (a < 4) && xdec cc pc (.istore_n (Fin.ofNat 4 a)) 1) || (len == 2 && xdec cc pc (.istore a) 2))
def ck8 (own : String) (cc : ByteArray) (nL : Nat) (rt : Option FieldType) (ini law : Bool) (pc len a b d h n e : Nat) (z : Int32) (w : Int64) : Bool := decide (a + 1 < nL) && ((len == 1 && decide (a < 4) && xdec cc pc (.lstore_n (Fin.ofNat 4 a)) 1) || (len == 2 && xdec cc pc (.lstore a) 2))
def ck9 (own : String) (cc : ByteArray) (nL : Nat) (rt : Option FieldType) (ini law : Bool) (pc len a b d h n e : Nat) (z : Int32) (w : Int64) : Bool := decide (a < nL) && ((len == 1 && decide (a < 4) && xdec cc pc (.astore_n (Fin.ofNat 4 a)) 1) || (len == 2 && xdec cc pc (.astore a) 2))
def ck10 (own : String) (cc : ByteArray) (nL : Nat) (rt : Option FieldType) (ini law : Bool) (pc len a b d h n e : Nat) (z : Int32) (w : Int64) : Bool := len == 3 && decide (a < nL) && xdec cc pc (.iinc a z.toInt) 3
def ck11 (own : String) (cc : ByteArray) (nL : Nat) (rt : Option FieldType) (ini law : Bool) (pc len a b d h n e : Nat) (z : Int32) (w : Int64) : Bool := len == 1 && ((d == 0 && xdec cc pc .iadd 1) || (d == 1 && xdec cc pc .isub 1) || (d == 2 && xdec cc pc .imul 1) || (d == 3 && xdec cc pc .iand 1) || (d == 4 && xdec cc pc .ior 1) || (d == 5 && xdec cc pc .ixor 1) || (d == 6 && xdec cc pc .ishl 1) || (d == 7 && xdec cc pc .ishr 1) || (d == 8 && xdec cc pc .iushr 1))
def ck12 (own : String) (cc : ByteArray) (nL : Nat) (rt : Option FieldType) (ini law : Bool) (pc len a b d h n e : Nat) (z : Int32) (w : Int64) : Bool := len == 1 && ((d == 0 && xdec cc pc .idiv 1) || (d == 1 && xdec cc pc .irem 1))
def ck13 (own : String) (cc : ByteArray) (nL : Nat) (rt : Option FieldType) (ini law : Bool) (pc len a b d h n e : Nat) (z : Int32) (w : Int64) : Bool := len == 1 && xdec cc pc .ineg 1
def ck14 (own : String) (cc : ByteArray) (nL : Nat) (rt : Option FieldType) (ini law : Bool) (pc len a b d h n e : Nat) (z : Int32) (w : Int64) : Bool := len == 1 && ((d == 0 && xdec cc pc .ladd 1) || (d == 1 && xdec cc pc .lsub 1) || (d == 2 && xdec cc pc .lmul 1) || (d == 3 && xdec cc pc .land 1) || (d == 4 && xdec cc pc .lor 1))
def ck15 (own : String) (cc : ByteArray) (nL : Nat) (rt : Option FieldType) (ini law : Bool) (pc len a b d h n e : Nat) (z : Int32) (w : Int64) : Bool := len == 1 && ((d == 0 && xdec cc pc .ldiv 1) || (d == 1 && xdec cc pc .lrem 1))
def ck16 (own : String) (cc : ByteArray) (nL : Nat) (rt : Option FieldType) (ini law : Bool) (pc len a b d h n e : Nat) (z : Int32) (w : Int64) : Bool := len == 1 && xdec cc pc .lshl 1
def ck17 (own : String) (cc : ByteArray) (nL : Nat) (rt : Option FieldType) (ini law : Bool) (pc len a b d h n e : Nat) (z : Int32) (w : Int64) : Bool := len == 1 && ((d == 0 && xdec cc pc .i2l 1) || (d == 1 && xdec cc pc .l2i 1) || (d == 2 && xdec cc pc .i2b 1) || (d == 3 && xdec cc pc .i2s 1) || (d == 4 && xdec cc pc .i2c 1) || (d == 5 && xdec cc pc .lneg 1))
def ck18 (own : String) (cc : ByteArray) (nL : Nat) (rt : Option FieldType) (ini law : Bool) (pc len a b d h n e : Nat) (z : Int32) (w : Int64) : Bool := len == 1 && xdec cc pc .lcmp 1
def ck19 (own : String) (cc : ByteArray) (nL : Nat) (rt : Option FieldType) (ini law : Bool) (pc len a b d h n e : Nat) (z : Int32) (w : Int64) : Bool := len == 1 && xdec cc pc .dup 1
def ck20 (own : String) (cc : ByteArray) (nL : Nat) (rt : Option FieldType) (ini law : Bool) (pc len a b d h n e : Nat) (z : Int32) (w : Int64) : Bool := len == 1 && xdec cc pc .dup2 1
def ck21 (own : String) (cc : ByteArray) (nL : Nat) (rt : Option FieldType) (ini law : Bool) (pc len a b d h n e : Nat) (z : Int32) (w : Int64) : Bool := len == 1 && xdec cc pc .pop 1
def ck22 (own : String) (cc : ByteArray) (nL : Nat) (rt : Option FieldType) (ini law : Bool) (pc len a b d h n e : Nat) (z : Int32) (w : Int64) : Bool := len == 3 && decide (d < 6) && xdec cc pc (.ifCond (xcnd d) ((a : Int) - pc)) 3
def ck23 (own : String) (cc : ByteArray) (nL : Nat) (rt : Option FieldType) (ini law : Bool) (pc len a b d h n e : Nat) (z : Int32) (w : Int64) : Bool := len == 3 && decide (d < 6) && xdec cc pc (.if_icmp (xcnd d) ((a : Int) - pc)) 3
def ck24 (own : String) (cc : ByteArray) (nL : Nat) (rt : Option FieldType) (ini law : Bool) (pc len a b d h n e : Nat) (z : Int32) (w : Int64) : Bool := (d == 1 && a == pc) || (d == 0 && len == 3 && xdec cc pc (.goto ((a : Int) - pc)) 3)
def ck25 (own : String) (cc : ByteArray) (nL : Nat) (rt : Option FieldType) (ini law : Bool) (pc len a b d h n e : Nat) (z : Int32) (w : Int64) : Bool := len == 3 && ((d == 0 && xdec cc pc (.ifnull ((a : Int) - pc)) 3) || (d == 1 && xdec cc pc (.ifnonnull ((a : Int) - pc)) 3))
def ck26 (own : String) (cc : ByteArray) (nL : Nat) (rt : Option FieldType) (ini law : Bool) (pc len a b d h n e : Nat) (z : Int32) (w : Int64) : Bool := (match decode cc pc with
    | .ok (.tableswitch df lo hi offs, _) => decide ((pc : Int) + df = (xswt b).2) && decide (hi = lo + (xswt b).1.length - 1) && (List.range (xswt b).1.length).all fun j => decide (((xswt b).1.getD j (0, 0)).1.toInt = lo + j) && (match offs[j]? with
      | some off => decide ((pc : Int) + off = ((xswt b).1.getD j (0, 0)).2)
      | none => false)
    | .ok (.lookupswitch df ps, _) => decide (df = ((xswt b).2 : Int) - pc) && decide (ps.toList = (xswt b).1.map fun c => (c.1.toInt, (c.2 : Int) - pc)) && (ps.toList.zip (ps.toList.drop 1)).all (fun (a, next) => a.1 < next.1)
    | _ => false)
def ck27 (own : String) (cc : ByteArray) (nL : Nat) (rt : Option FieldType) (ini law : Bool) (pc len a b d h n e : Nat) (z : Int32) (w : Int64) : Bool := len == 1 && ((d == 0 && decide (rt = some .int) && xdec cc pc .ireturn 1) || (d == 1 && decide (rt = some .boolean) && xdec cc pc .ireturn 1) || (d == 2 && decide (rt = some .long) && xdec cc pc .lreturn 1) || (d == 3 && decide (rt = none) && xdec cc pc .return_ 1) || (d == 4 && decide (rt = some .byte) && xdec cc pc .ireturn 1) || (d == 5 && decide (rt = some .char) && xdec cc pc .ireturn 1))
def ck28 (own : String) (cc : ByteArray) (nL : Nat) (rt : Option FieldType) (ini law : Bool) (pc len a b d h n e : Nat) (z : Int32) (w : Int64) : Bool := len == 3 && decide (b < 11) && xw h (.classLink own a (xC b).1) && xdec cc pc (.new a) 3
def ck29 (own : String) (cc : ByteArray) (nL : Nat) (rt : Option FieldType) (ini law : Bool) (pc len a b d h n e : Nat) (z : Int32) (w : Int64) : Bool := len == 2 && ((b == 100 && xdec cc pc (.newarray .int) 2) || (b == 101 && xdec cc pc (.newarray .long) 2) || (b == 102 && xdec cc pc (.newarray .byte) 2))
def ck30 (own : String) (cc : ByteArray) (nL : Nat) (rt : Option FieldType) (ini law : Bool) (pc len a b d h n e : Nat) (z : Int32) (w : Int64) : Bool := len == 3 && xw h (.classLink own a "FreckleChart$Coast") && xdec cc pc (.anewarray a) 3
def ck31 (own : String) (cc : ByteArray) (nL : Nat) (rt : Option FieldType) (ini law : Bool) (pc len a b d h n e : Nat) (z : Int32) (w : Int64) : Bool := len == 4 && xw h (.classLink own a ("[" ++ (FieldType.array .long).toString)) && xdec cc pc (.multianewarray a 2) 4
def ck32 (own : String) (cc : ByteArray) (nL : Nat) (rt : Option FieldType) (ini law : Bool) (pc len a b d h n e : Nat) (z : Int32) (w : Int64) : Bool := len == 1 && xdec cc pc .arraylength 1
def ck33 (own : String) (cc : ByteArray) (nL : Nat) (rt : Option FieldType) (ini law : Bool) (pc len a b d h n e : Nat) (z : Int32) (w : Int64) : Bool := len == 1 && xdec cc pc .iaload 1
def ck34 (own : String) (cc : ByteArray) (nL : Nat) (rt : Option FieldType) (ini law : Bool) (pc len a b d h n e : Nat) (z : Int32) (w : Int64) : Bool := len == 1 && xdec cc pc .iastore 1
def ck35 (own : String) (cc : ByteArray) (nL : Nat) (rt : Option FieldType) (ini law : Bool) (pc len a b d h n e : Nat) (z : Int32) (w : Int64) : Bool := len == 1 && xdec cc pc .laload 1
def ck36 (own : String) (cc : ByteArray) (nL : Nat) (rt : Option FieldType) (ini law : Bool) (pc len a b d h n e : Nat) (z : Int32) (w : Int64) : Bool := len == 1 && xdec cc pc .lastore 1
def ck37 (own : String) (cc : ByteArray) (nL : Nat) (rt : Option FieldType) (ini law : Bool) (pc len a b d h n e : Nat) (z : Int32) (w : Int64) : Bool := len == 1 && xdec cc pc .baload 1
def ck38 (own : String) (cc : ByteArray) (nL : Nat) (rt : Option FieldType) (ini law : Bool) (pc len a b d h n e : Nat) (z : Int32) (w : Int64) : Bool := len == 1 && xdec cc pc .bastore 1
def ck39 (own : String) (cc : ByteArray) (nL : Nat) (rt : Option FieldType) (ini law : Bool) (pc len a b d h n e : Nat) (z : Int32) (w : Int64) : Bool := len == 1 && xdec cc pc .aaload 1
def ck40 (own : String) (cc : ByteArray) (nL : Nat) (rt : Option FieldType) (ini law : Bool) (pc len a b d h n e : Nat) (z : Int32) (w : Int64) : Bool := len == 1 && xdec cc pc .aastore 1
def ck42 (own : String) (cc : ByteArray) (nL : Nat) (rt : Option FieldType) (ini law : Bool) (pc len a b d h n e : Nat) (z : Int32) (w : Int64) : Bool := len == 3 && decide (b < 11) && decide (d < nfc b) && decide (xkd b d = 0) && xw h (.fieldLink own a ((xC b).2.1 d).1 ((xC b).2.1 d).2.1 ((xC b).2.1 d).2.2.1) && xdec cc pc (.getfield a) 3
def ck43 (own : String) (cc : ByteArray) (nL : Nat) (rt : Option FieldType) (ini law : Bool) (pc len a b d h n e : Nat) (z : Int32) (w : Int64) : Bool := len == 3 && decide (b < 11) && decide (d < nfc b) && decide (xkd b d = 1) && xw h (.fieldLink own a ((xC b).2.1 d).1 ((xC b).2.1 d).2.1 ((xC b).2.1 d).2.2.1) && xdec cc pc (.getfield a) 3
def ck44 (own : String) (cc : ByteArray) (nL : Nat) (rt : Option FieldType) (ini law : Bool) (pc len a b d h n e : Nat) (z : Int32) (w : Int64) : Bool := len == 3 && decide (b < 11) && decide (d < nfc b) && decide (xkd b d = 2) && xw h (.fieldLink own a ((xC b).2.1 d).1 ((xC b).2.1 d).2.1 ((xC b).2.1 d).2.2.1) && xdec cc pc (.getfield a) 3
def ck45 (own : String) (cc : ByteArray) (nL : Nat) (rt : Option FieldType) (ini law : Bool) (pc len a b d h n e : Nat) (z : Int32) (w : Int64) : Bool := len == 3 && decide (b < 11) && decide (d < nfc b) && decide (xkd b d = 0) && xw h (.fieldLink own a ((xC b).2.1 d).1 ((xC b).2.1 d).2.1 ((xC b).2.1 d).2.2.1) && xdec cc pc (.putfield a) 3 && (decide (((xC b).2.1 d).2.2.2 = false) || (decide (((xC b).2.1 d).2.2.2 = true) && decide (ini = true) && decide (((xC b).2.1 d).1 = own))) && decide (xty b d = .int)
def ck46 (own : String) (cc : ByteArray) (nL : Nat) (rt : Option FieldType) (ini law : Bool) (pc len a b d h n e : Nat) (z : Int32) (w : Int64) : Bool := len == 3 && decide (b < 11) && decide (d < nfc b) && decide (xkd b d = 1) && xw h (.fieldLink own a ((xC b).2.1 d).1 ((xC b).2.1 d).2.1 ((xC b).2.1 d).2.2.1) && xdec cc pc (.putfield a) 3 && (decide (((xC b).2.1 d).2.2.2 = false) || (decide (((xC b).2.1 d).2.2.2 = true) && decide (ini = true) && decide (((xC b).2.1 d).1 = own)))
def ck47 (own : String) (cc : ByteArray) (nL : Nat) (rt : Option FieldType) (ini law : Bool) (pc len a b d h n e : Nat) (z : Int32) (w : Int64) : Bool := len == 3 && decide (b < 11) && decide (d < nfc b) && decide (xkd b d = 2) && xw h (.fieldLink own a ((xC b).2.1 d).1 ((xC b).2.1 d).2.1 ((xC b).2.1 d).2.2.1) && xdec cc pc (.putfield a) 3 && (decide (((xC b).2.1 d).2.2.2 = false) || (decide (((xC b).2.1 d).2.2.2 = true) && decide (ini = true) && decide (((xC b).2.1 d).1 = own)))
def ck48 (own : String) (cc : ByteArray) (nL : Nat) (rt : Option FieldType) (ini law : Bool) (pc len a b d h n e : Nat) (z : Int32) (w : Int64) : Bool := len == 3 && okCs b && decide (mck b = 0) && decide (msk b = 0) && ((decide (d = 0) && decide ((xh b).2.2.2.2.2 = 0) && xw h (.methodLink own a (xm b).1) && decide (e < 11) && decide ((xC e).1 = (xm b).1.cls) && decide (n = (xh b).2.2.2.2.1 + 1) && xdec cc pc (.invokevirtual a) 3) || (decide (d = 1) && decide ((xh b).2.2.2.2.2 = 1) && xw h (.methodLink own a (xm b).1) && decide (n = (xh b).2.2.2.2.1) && xdec cc pc (.invokestatic a) 3) || (decide (d = 2) && decide ((xh b).2.2.2.2.2 = 2) && xw h (.methodLink own a (xm b).1) && decide (n = (xh b).2.2.2.2.1 + 1) && xdec cc pc (.invokespecial a) 3) || (decide (d = 3) && decide ((xh b).2.2.2.2.2 = 2) && xw h (.methodLinkNest own a (xm b).1 "FreckleChart") && decide (n = (xh b).2.2.2.2.1 + 1) && xdec cc pc (.invokespecial a) 3))
def ck49 (own : String) (cc : ByteArray) (nL : Nat) (rt : Option FieldType) (ini law : Bool) (pc len a b d h n e : Nat) (z : Int32) (w : Int64) : Bool := len == 3 && xw h (.methodLink own a Lib.objectInit) && xdec cc pc (.invokespecial a) 3
def ck50 (own : String) (cc : ByteArray) (nL : Nat) (rt : Option FieldType) (ini law : Bool) (pc len a b d h n e : Nat) (z : Int32) (w : Int64) : Bool := len == 3 && decide (d < 3) && xw h (.methodLink own a arraycopyName) && xdec cc pc (.invokestatic a) 3
def ck51 (own : String) (cc : ByteArray) (nL : Nat) (rt : Option FieldType) (ini law : Bool) (pc len a b d h n e : Nat) (z : Int32) (w : Int64) : Bool := len == 3 && xw h (.fieldLink own a "java/lang/String" "value" "[B") && xdec cc pc (.getfield a) 3
def ck52 (own : String) (cc : ByteArray) (nL : Nat) (rt : Option FieldType) (ini law : Bool) (pc len a b d h n e : Nat) (z : Int32) (w : Int64) : Bool := len == 3 && xw h (.fieldLink own a "java/lang/String" "coder" "B") && xdec cc pc (.getfield a) 3
def ck53 (own : String) (cc : ByteArray) (nL : Nat) (rt : Option FieldType) (ini law : Bool) (pc len a b d h n e : Nat) (z : Int32) (w : Int64) : Bool := len == 1 && law && xdec cc pc .arraylength 1
def ck54 (own : String) (cc : ByteArray) (nL : Nat) (rt : Option FieldType) (ini law : Bool) (pc len a b d h n e : Nat) (z : Int32) (w : Int64) : Bool := len == 1 && law && xdec cc pc .iaload 1
def ck55 (own : String) (cc : ByteArray) (nL : Nat) (rt : Option FieldType) (ini law : Bool) (pc len a b d h n e : Nat) (z : Int32) (w : Int64) : Bool := len == 3 && okCs b && ((decide (d = 0) && decide ((xh b).2.2.2.2.2 = 0) && xw h (.methodLink own a (xm b).1) && decide (e < 11) && decide ((xC e).1 = (xm b).1.cls) && decide (n = (xh b).2.2.2.2.1 + 1) && xdec cc pc (.invokevirtual a) 3) || (decide (d = 1) && decide ((xh b).2.2.2.2.2 = 1) && xw h (.methodLink own a (xm b).1) && decide (n = (xh b).2.2.2.2.1) && xdec cc pc (.invokestatic a) 3) || (decide (d = 2) && decide ((xh b).2.2.2.2.2 = 2) && xw h (.methodLink own a (xm b).1) && decide (n = (xh b).2.2.2.2.1 + 1) && xdec cc pc (.invokespecial a) 3) || (decide (d = 3) && decide ((xh b).2.2.2.2.2 = 2) && xw h (.methodLinkNest own a (xm b).1 "FreckleChart") && decide (n = (xh b).2.2.2.2.1 + 1) && xdec cc pc (.invokespecial a) 3))
def ck56 (own : String) (cc : ByteArray) (nL : Nat) (rt : Option FieldType) (ini law : Bool) (pc len a b d h n e : Nat) (z : Int32) (w : Int64) : Bool := len == 1 && xdec cc pc .arraylength 1
def ck57 (own : String) (cc : ByteArray) (nL : Nat) (rt : Option FieldType) (ini law : Bool) (pc len a b d h n e : Nat) (z : Int32) (w : Int64) : Bool := len == 1 && xdec cc pc .baload 1
def ck58 (own : String) (cc : ByteArray) (nL : Nat) (rt : Option FieldType) (ini law : Bool) (pc len a b d h n e : Nat) (z : Int32) (w : Int64) : Bool := len == 3 && xw h (.fieldLink own a "java/lang/String" "COMPACT_STRINGS" "Z") && xdec cc pc (.getstatic a) 3
def ck59 (own : String) (cc : ByteArray) (nL : Nat) (rt : Option FieldType) (ini law : Bool) (pc len a b d h n e : Nat) (z : Int32) (w : Int64) : Bool := len == 3 && xw h (.fieldLink own a "jdk/internal/util/Preconditions" "SIOOBE_FORMATTER" "Ljava/util/function/BiFunction;") && xdec cc pc (.getstatic a) 3
def ck60 (own : String) (cc : ByteArray) (nL : Nat) (rt : Option FieldType) (ini law : Bool) (pc len a b d h n e : Nat) (z : Int32) (w : Int64) : Bool := len == 3 && okCs b && decide (mck b = 0) && decide (msk b = 0) && decide ((xh b).2.2.2.2.2 = 0) && xw h (.methodLink own a (xm b).1) && decide ("java/lang/String" = (xm b).1.cls) && decide (n = (xh b).2.2.2.2.1 + 1) && xdec cc pc (.invokevirtual a) 3
def ck61 (own : String) (cc : ByteArray) (nL : Nat) (rt : Option FieldType) (ini law : Bool) (pc len a b d h n e : Nat) (z : Int32) (w : Int64) : Bool := len == 3 && decide (b < 11) && decide (d < nfc b) && decide (xkd b d = 0) && xw h (.fieldLink own a ((xC b).2.1 d).1 ((xC b).2.1 d).2.1 ((xC b).2.1 d).2.2.1) && xdec cc pc (.putfield a) 3 && (decide (((xC b).2.1 d).2.2.2 = false) || (decide (((xC b).2.1 d).2.2.2 = true) && decide (ini = true) && decide (((xC b).2.1 d).1 = own))) && decide (xty b d = .boolean)
def xins (own : String) (cc : ByteArray) (nL : Nat) (rt : Option FieldType) (ini law : Bool) (pc : Nat) : XO → Bool
  | (op, len, a, b, d, h, n, e, z, w) => match op with
    | 0 => ck0 own cc nL rt ini law pc len a b d h n e z w
    | 1 => ck1 own cc nL rt ini law pc len a b d h n e z w
    | 2 => ck2 own cc nL rt ini law pc len a b d h n e z w
    | 3 => ck3 own cc nL rt ini law pc len a b d h n e z w
    | 4 => ck4 own cc nL rt ini law pc len a b d h n e z w
    | 5 => ck5 own cc nL rt ini law pc len a b d h n e z w
    | 6 => ck6 own cc nL rt ini law pc len a b d h n e z w
    | 7 => ck7 own cc nL rt ini law pc len a b d h n e z w
    | 8 => ck8 own cc nL rt ini law pc len a b d h n e z w
    | 9 => ck9 own cc nL rt ini law pc len a b d h n e z w
    | 10 => ck10 own cc nL rt ini law pc len a b d h n e z w
    | 11 => ck11 own cc nL rt ini law pc len a b d h n e z w
    | 12 => ck12 own cc nL rt ini law pc len a b d h n e z w
    | 13 => ck13 own cc nL rt ini law pc len a b d h n e z w
    | 14 => ck14 own cc nL rt ini law pc len a b d h n e z w
    | 15 => ck15 own cc nL rt ini law pc len a b d h n e z w
    | 16 => ck16 own cc nL rt ini law pc len a b d h n e z w
    | 17 => ck17 own cc nL rt ini law pc len a b d h n e z w
    | 18 => ck18 own cc nL rt ini law pc len a b d h n e z w
    | 19 => ck19 own cc nL rt ini law pc len a b d h n e z w
    | 20 => ck20 own cc nL rt ini law pc len a b d h n e z w
    | 21 => ck21 own cc nL rt ini law pc len a b d h n e z w
    | 22 => ck22 own cc nL rt ini law pc len a b d h n e z w
    | 23 => ck23 own cc nL rt ini law pc len a b d h n e z w
    | 24 => ck24 own cc nL rt ini law pc len a b d h n e z w
    | 25 => ck25 own cc nL rt ini law pc len a b d h n e z w
    | 26 => ck26 own cc nL rt ini law pc len a b d h n e z w
    | 27 => ck27 own cc nL rt ini law pc len a b d h n e z w
    | 28 => ck28 own cc nL rt ini law pc len a b d h n e z w
    | 29 => ck29 own cc nL rt ini law pc len a b d h n e z w
    | 30 => ck30 own cc nL rt ini law pc len a b d h n e z w
    | 31 => ck31 own cc nL rt ini law pc len a b d h n e z w
    | 32 => ck32 own cc nL rt ini law pc len a b d h n e z w
    | 33 => ck33 own cc nL rt ini law pc len a b d h n e z w
    | 34 => ck34 own cc nL rt ini law pc len a b d h n e z w
    | 35 => ck35 own cc nL rt ini law pc len a b d h n e z w
    | 36 => ck36 own cc nL rt ini law pc len a b d h n e z w
    | 37 => ck37 own cc nL rt ini law pc len a b d h n e z w
    | 38 => ck38 own cc nL rt ini law pc len a b d h n e z w
    | 39 => ck39 own cc nL rt ini law pc len a b d h n e z w
    | 40 => ck40 own cc nL rt ini law pc len a b d h n e z w
    | 42 => ck42 own cc nL rt ini law pc len a b d h n e z w
    | 43 => ck43 own cc nL rt ini law pc len a b d h n e z w
    | 44 => ck44 own cc nL rt ini law pc len a b d h n e z w
    | 45 => ck45 own cc nL rt ini law pc len a b d h n e z w
    | 46 => ck46 own cc nL rt ini law pc len a b d h n e z w
    | 47 => ck47 own cc nL rt ini law pc len a b d h n e z w
    | 48 => ck48 own cc nL rt ini law pc len a b d h n e z w
    | 49 => ck49 own cc nL rt ini law pc len a b d h n e z w
    | 50 => ck50 own cc nL rt ini law pc len a b d h n e z w
    | 51 => ck51 own cc nL rt ini law pc len a b d h n e z w
    | 52 => ck52 own cc nL rt ini law pc len a b d h n e z w
    | 53 => ck53 own cc nL rt ini law pc len a b d h n e z w
    | 54 => ck54 own cc nL rt ini law pc len a b d h n e z w
    | 55 => ck55 own cc nL rt ini law pc len a b d h n e z w
    | 56 => ck56 own cc nL rt ini law pc len a b d h n e z w
    | 57 => ck57 own cc nL rt ini law pc len a b d h n e z w
    | 58 => ck58 own cc nL rt ini law pc len a b d h n e z w
    | 59 => ck59 own cc nL rt ini law pc len a b d h n e z w
    | 60 => ck60 own cc nL rt ini law pc len a b d h n e z w
    | 61 => ck61 own cc nL rt ini law pc len a b d h n e z w
    | _ => false
theorem xi_0 (F : XFx p s m meth c args Rm cc own nL ini law sc mc ms A sV) {rt : Option FieldType} {d0 : Nat} {cl : XC} {nx : XN} {Q : XQ} (hfr : d0 + 1 ≤ Rm.frames) (hlo : 40 * (d0 + 1) ≤ Rm.locals)
    (hcl : ∀ (k : Nat) (as : XV) (S : XS) (I : XI) (J : XJ) (r : XR) (Q : XQ), cl k as S I J r Q → XMt l d0 dC dI sV k as S I J r Q)
    (hnx : ∀ (pc : Nat) (L st : XV) (S : XS) (I : XI) (J : XJ) (r : XR) (cu su : Nat), nx pc L st S I J r cu su → XW p l e9 Rm s m args below meth c dC dI A a0 n0 sV nL mc ms Zf pc L st S I J r cu su)
    (hret : ∀ (pc : Nat) (L : XV) (cu su : Nat) (v : Option Value) (S : XS) (I : XI) (J : XJ) (r : XR), Q v S I J r → xretOk rt v → decode cc pc = .ok (xri v, 1) → XW p l e9 Rm s m args below meth c dC dI A a0 n0 sV nL mc ms Zf pc L v.toList S I J r cu su) {len a b d h n e : Nat} {z : Int32} {w : Int64} (hK : ∀ (L st : XV) (S : XS) (I : XI) (J : XJ) (r : XR) (cu su : Nat), K L st S I J r cu su → XW p l e9 Rm s m args below meth c dC dI A a0 n0 sV nL mc ms Zf (pc + len) L st S I J r cu su) (hok : ck0 own cc nL rt ini law pc len a b d h n e z w = true) (hst : xst sc cl nx Q mc ms K (0, len, a, b, d, h, n, e, z, w) L st S I J r cu su) : XW p l e9 Rm s m args below meth c dC dI A a0 n0 sV nL mc ms Zf pc L st S I J r cu su := by
  unfold ck0 at hok
  simp only [Bool.or_eq_true, Bool.and_eq_true, beq_iff_eq, decide_eq_true_eq, Bool.not_eq_true'] at hok
  refine xs_iconst (d := d) (a := a) F ?_ (hK _ _ _ _ _ _ _ _ hst)
  rcases hok with (((⟨⟨h1, h2⟩, h3⟩ | ⟨⟨⟨h1, h2⟩, h3⟩, h4⟩) | ⟨⟨⟨h1, h2⟩, h3⟩, h4⟩) | ⟨⟨⟨h1, h2⟩, h3⟩, h4⟩) | ⟨⟨⟨h1, h2⟩, h3⟩, h4⟩
  · exact Or.inl ⟨h1, by rw [h2], xdec_ok h3⟩
  · exact Or.inr (Or.inl ⟨h1, by rw [h2], xdec_ok h3, h4⟩)
  · exact Or.inr (Or.inr (Or.inl ⟨h1, by rw [h2], xdec_ok h3, h4⟩))
  · exact Or.inr (Or.inr (Or.inr (Or.inl ⟨h1, by rw [h2], xdec_ok h3, xw_in h4⟩)))
  · exact Or.inr (Or.inr (Or.inr (Or.inr ⟨h1, by rw [h2], xdec_ok h3, xw_in h4⟩)))
theorem xi_1 (F : XFx p s m meth c args Rm cc own nL ini law sc mc ms A sV) {rt : Option FieldType} {d0 : Nat} {cl : XC} {nx : XN} {Q : XQ} (hfr : d0 + 1 ≤ Rm.frames) (hlo : 40 * (d0 + 1) ≤ Rm.locals)
    (hcl : ∀ (k : Nat) (as : XV) (S : XS) (I : XI) (J : XJ) (r : XR) (Q : XQ), cl k as S I J r Q → XMt l d0 dC dI sV k as S I J r Q)
    (hnx : ∀ (pc : Nat) (L st : XV) (S : XS) (I : XI) (J : XJ) (r : XR) (cu su : Nat), nx pc L st S I J r cu su → XW p l e9 Rm s m args below meth c dC dI A a0 n0 sV nL mc ms Zf pc L st S I J r cu su)
    (hret : ∀ (pc : Nat) (L : XV) (cu su : Nat) (v : Option Value) (S : XS) (I : XI) (J : XJ) (r : XR), Q v S I J r → xretOk rt v → decode cc pc = .ok (xri v, 1) → XW p l e9 Rm s m args below meth c dC dI A a0 n0 sV nL mc ms Zf pc L v.toList S I J r cu su) {len a b d h n e : Nat} {z : Int32} {w : Int64} (hK : ∀ (L st : XV) (S : XS) (I : XI) (J : XJ) (r : XR) (cu su : Nat), K L st S I J r cu su → XW p l e9 Rm s m args below meth c dC dI A a0 n0 sV nL mc ms Zf (pc + len) L st S I J r cu su) (hok : ck1 own cc nL rt ini law pc len a b d h n e z w = true) (hst : xst sc cl nx Q mc ms K (1, len, a, b, d, h, n, e, z, w) L st S I J r cu su) : XW p l e9 Rm s m args below meth c dC dI A a0 n0 sV nL mc ms Zf pc L st S I J r cu su := by
  unfold ck1 at hok
  simp only [Bool.or_eq_true, Bool.and_eq_true, beq_iff_eq, decide_eq_true_eq, Bool.not_eq_true'] at hok
  refine xs_lconst (a := a) F ?_ (hK _ _ _ _ _ _ _ _ hst)
  rcases hok with ⟨⟨h1, h2⟩, h3 | h3⟩ | ⟨⟨⟨h1, h2⟩, h3⟩, h4⟩
  · exact Or.inl ⟨by rw [h2], Or.inl ⟨h3.1, xdec_ok h3.2⟩⟩
  · exact Or.inl ⟨by rw [h2], Or.inr ⟨h3.1, xdec_ok h3.2⟩⟩
  · exact Or.inr ⟨by rw [h2], xdec_ok h3, xw_in h4⟩
theorem xi_2 (F : XFx p s m meth c args Rm cc own nL ini law sc mc ms A sV) {rt : Option FieldType} {d0 : Nat} {cl : XC} {nx : XN} {Q : XQ} (hfr : d0 + 1 ≤ Rm.frames) (hlo : 40 * (d0 + 1) ≤ Rm.locals)
    (hcl : ∀ (k : Nat) (as : XV) (S : XS) (I : XI) (J : XJ) (r : XR) (Q : XQ), cl k as S I J r Q → XMt l d0 dC dI sV k as S I J r Q)
    (hnx : ∀ (pc : Nat) (L st : XV) (S : XS) (I : XI) (J : XJ) (r : XR) (cu su : Nat), nx pc L st S I J r cu su → XW p l e9 Rm s m args below meth c dC dI A a0 n0 sV nL mc ms Zf pc L st S I J r cu su)
    (hret : ∀ (pc : Nat) (L : XV) (cu su : Nat) (v : Option Value) (S : XS) (I : XI) (J : XJ) (r : XR), Q v S I J r → xretOk rt v → decode cc pc = .ok (xri v, 1) → XW p l e9 Rm s m args below meth c dC dI A a0 n0 sV nL mc ms Zf pc L v.toList S I J r cu su) {len a b d h n e : Nat} {z : Int32} {w : Int64} (hK : ∀ (L st : XV) (S : XS) (I : XI) (J : XJ) (r : XR) (cu su : Nat), K L st S I J r cu su → XW p l e9 Rm s m args below meth c dC dI A a0 n0 sV nL mc ms Zf (pc + len) L st S I J r cu su) (hok : ck2 own cc nL rt ini law pc len a b d h n e z w = true) (hst : xst sc cl nx Q mc ms K (2, len, a, b, d, h, n, e, z, w) L st S I J r cu su) : XW p l e9 Rm s m args below meth c dC dI A a0 n0 sV nL mc ms Zf pc L st S I J r cu su := by
  unfold ck2 at hok
  simp only [Bool.or_eq_true, Bool.and_eq_true, beq_iff_eq, decide_eq_true_eq, Bool.not_eq_true'] at hok
  obtain ⟨⟨⟨rfl, h2⟩, h3⟩, h4⟩ := hok
  cases hx : xstl[b]? with
  | none => rw [hx] at h4; cases h4
  | some x =>
    rw [hx] at h4
    simp only [Bool.and_eq_true, decide_eq_true_eq] at h4
    exact xs_ldcS F h2 (tx := x.2.2) (by rw [hx, ← h4.1, ← h4.2]) (xdec_ok h3) (hK _ _ _ _ _ _ _ _ hst)
theorem xi_3 (F : XFx p s m meth c args Rm cc own nL ini law sc mc ms A sV) {rt : Option FieldType} {d0 : Nat} {cl : XC} {nx : XN} {Q : XQ} (hfr : d0 + 1 ≤ Rm.frames) (hlo : 40 * (d0 + 1) ≤ Rm.locals)
    (hcl : ∀ (k : Nat) (as : XV) (S : XS) (I : XI) (J : XJ) (r : XR) (Q : XQ), cl k as S I J r Q → XMt l d0 dC dI sV k as S I J r Q)
    (hnx : ∀ (pc : Nat) (L st : XV) (S : XS) (I : XI) (J : XJ) (r : XR) (cu su : Nat), nx pc L st S I J r cu su → XW p l e9 Rm s m args below meth c dC dI A a0 n0 sV nL mc ms Zf pc L st S I J r cu su)
    (hret : ∀ (pc : Nat) (L : XV) (cu su : Nat) (v : Option Value) (S : XS) (I : XI) (J : XJ) (r : XR), Q v S I J r → xretOk rt v → decode cc pc = .ok (xri v, 1) → XW p l e9 Rm s m args below meth c dC dI A a0 n0 sV nL mc ms Zf pc L v.toList S I J r cu su) {len a b d h n e : Nat} {z : Int32} {w : Int64} (hK : ∀ (L st : XV) (S : XS) (I : XI) (J : XJ) (r : XR) (cu su : Nat), K L st S I J r cu su → XW p l e9 Rm s m args below meth c dC dI A a0 n0 sV nL mc ms Zf (pc + len) L st S I J r cu su) (hok : ck3 own cc nL rt ini law pc len a b d h n e z w = true) (hst : xst sc cl nx Q mc ms K (3, len, a, b, d, h, n, e, z, w) L st S I J r cu su) : XW p l e9 Rm s m args below meth c dC dI A a0 n0 sV nL mc ms Zf pc L st S I J r cu su := by
  unfold ck3 at hok
  simp only [Bool.or_eq_true, Bool.and_eq_true, beq_iff_eq, decide_eq_true_eq, Bool.not_eq_true'] at hok
  obtain ⟨rfl, h2⟩ := hok
  exact xs_null F (xdec_ok h2) (hK _ _ _ _ _ _ _ _ hst)
theorem xi_4 (F : XFx p s m meth c args Rm cc own nL ini law sc mc ms A sV) {rt : Option FieldType} {d0 : Nat} {cl : XC} {nx : XN} {Q : XQ} (hfr : d0 + 1 ≤ Rm.frames) (hlo : 40 * (d0 + 1) ≤ Rm.locals)
    (hcl : ∀ (k : Nat) (as : XV) (S : XS) (I : XI) (J : XJ) (r : XR) (Q : XQ), cl k as S I J r Q → XMt l d0 dC dI sV k as S I J r Q)
    (hnx : ∀ (pc : Nat) (L st : XV) (S : XS) (I : XI) (J : XJ) (r : XR) (cu su : Nat), nx pc L st S I J r cu su → XW p l e9 Rm s m args below meth c dC dI A a0 n0 sV nL mc ms Zf pc L st S I J r cu su)
    (hret : ∀ (pc : Nat) (L : XV) (cu su : Nat) (v : Option Value) (S : XS) (I : XI) (J : XJ) (r : XR), Q v S I J r → xretOk rt v → decode cc pc = .ok (xri v, 1) → XW p l e9 Rm s m args below meth c dC dI A a0 n0 sV nL mc ms Zf pc L v.toList S I J r cu su) {len a b d h n e : Nat} {z : Int32} {w : Int64} (hK : ∀ (L st : XV) (S : XS) (I : XI) (J : XJ) (r : XR) (cu su : Nat), K L st S I J r cu su → XW p l e9 Rm s m args below meth c dC dI A a0 n0 sV nL mc ms Zf (pc + len) L st S I J r cu su) (hok : ck4 own cc nL rt ini law pc len a b d h n e z w = true) (hst : xst sc cl nx Q mc ms K (4, len, a, b, d, h, n, e, z, w) L st S I J r cu su) : XW p l e9 Rm s m args below meth c dC dI A a0 n0 sV nL mc ms Zf pc L st S I J r cu su := by
  unfold ck4 at hok
  simp only [Bool.or_eq_true, Bool.and_eq_true, beq_iff_eq, decide_eq_true_eq, Bool.not_eq_true'] at hok
  have hdd : (pc + len = pc + 1 ∧ ∃ k : Fin 4, (k : Nat) = a ∧ decode cc pc = .ok (.iload_n k, 1)) ∨ (pc + len = pc + 2 ∧ decode cc pc = .ok (.iload a, 2)) := by
    rcases hok with ⟨⟨h1, h2⟩, h3⟩ | ⟨h1, h2⟩
    · exact Or.inl ⟨by rw [h1], _, fin4 h2, xdec_ok h3⟩
    · exact Or.inr ⟨by rw [h1], xdec_ok h2⟩
  simp only [xst] at hst
  split at hst
  · rename_i x hx
    exact xs_iload F hx hdd (hK _ _ _ _ _ _ _ _ hst)
  · exact hst.elim
theorem xi_5 (F : XFx p s m meth c args Rm cc own nL ini law sc mc ms A sV) {rt : Option FieldType} {d0 : Nat} {cl : XC} {nx : XN} {Q : XQ} (hfr : d0 + 1 ≤ Rm.frames) (hlo : 40 * (d0 + 1) ≤ Rm.locals)
    (hcl : ∀ (k : Nat) (as : XV) (S : XS) (I : XI) (J : XJ) (r : XR) (Q : XQ), cl k as S I J r Q → XMt l d0 dC dI sV k as S I J r Q)
    (hnx : ∀ (pc : Nat) (L st : XV) (S : XS) (I : XI) (J : XJ) (r : XR) (cu su : Nat), nx pc L st S I J r cu su → XW p l e9 Rm s m args below meth c dC dI A a0 n0 sV nL mc ms Zf pc L st S I J r cu su)
    (hret : ∀ (pc : Nat) (L : XV) (cu su : Nat) (v : Option Value) (S : XS) (I : XI) (J : XJ) (r : XR), Q v S I J r → xretOk rt v → decode cc pc = .ok (xri v, 1) → XW p l e9 Rm s m args below meth c dC dI A a0 n0 sV nL mc ms Zf pc L v.toList S I J r cu su) {len a b d h n e : Nat} {z : Int32} {w : Int64} (hK : ∀ (L st : XV) (S : XS) (I : XI) (J : XJ) (r : XR) (cu su : Nat), K L st S I J r cu su → XW p l e9 Rm s m args below meth c dC dI A a0 n0 sV nL mc ms Zf (pc + len) L st S I J r cu su) (hok : ck5 own cc nL rt ini law pc len a b d h n e z w = true) (hst : xst sc cl nx Q mc ms K (5, len, a, b, d, h, n, e, z, w) L st S I J r cu su) : XW p l e9 Rm s m args below meth c dC dI A a0 n0 sV nL mc ms Zf pc L st S I J r cu su := by
  unfold ck5 at hok
  simp only [Bool.or_eq_true, Bool.and_eq_true, beq_iff_eq, decide_eq_true_eq, Bool.not_eq_true'] at hok
  have hdd : (pc + len = pc + 1 ∧ ∃ k : Fin 4, (k : Nat) = a ∧ decode cc pc = .ok (.lload_n k, 1)) ∨ (pc + len = pc + 2 ∧ decode cc pc = .ok (.lload a, 2)) := by
    rcases hok with ⟨⟨h1, h2⟩, h3⟩ | ⟨h1, h2⟩
    · exact Or.inl ⟨by rw [h1], _, fin4 h2, xdec_ok h3⟩
    · exact Or.inr ⟨by rw [h1], xdec_ok h2⟩
  simp only [xst] at hst
  split at hst
  · rename_i x hx
    exact xs_lload F hx hdd (hK _ _ _ _ _ _ _ _ hst)
  · exact hst.elim
theorem xi_6 (F : XFx p s m meth c args Rm cc own nL ini law sc mc ms A sV) {rt : Option FieldType} {d0 : Nat} {cl : XC} {nx : XN} {Q : XQ} (hfr : d0 + 1 ≤ Rm.frames) (hlo : 40 * (d0 + 1) ≤ Rm.locals)
    (hcl : ∀ (k : Nat) (as : XV) (S : XS) (I : XI) (J : XJ) (r : XR) (Q : XQ), cl k as S I J r Q → XMt l d0 dC dI sV k as S I J r Q)
    (hnx : ∀ (pc : Nat) (L st : XV) (S : XS) (I : XI) (J : XJ) (r : XR) (cu su : Nat), nx pc L st S I J r cu su → XW p l e9 Rm s m args below meth c dC dI A a0 n0 sV nL mc ms Zf pc L st S I J r cu su)
    (hret : ∀ (pc : Nat) (L : XV) (cu su : Nat) (v : Option Value) (S : XS) (I : XI) (J : XJ) (r : XR), Q v S I J r → xretOk rt v → decode cc pc = .ok (xri v, 1) → XW p l e9 Rm s m args below meth c dC dI A a0 n0 sV nL mc ms Zf pc L v.toList S I J r cu su) {len a b d h n e : Nat} {z : Int32} {w : Int64} (hK : ∀ (L st : XV) (S : XS) (I : XI) (J : XJ) (r : XR) (cu su : Nat), K L st S I J r cu su → XW p l e9 Rm s m args below meth c dC dI A a0 n0 sV nL mc ms Zf (pc + len) L st S I J r cu su) (hok : ck6 own cc nL rt ini law pc len a b d h n e z w = true) (hst : xst sc cl nx Q mc ms K (6, len, a, b, d, h, n, e, z, w) L st S I J r cu su) : XW p l e9 Rm s m args below meth c dC dI A a0 n0 sV nL mc ms Zf pc L st S I J r cu su := by
  unfold ck6 at hok
  simp only [Bool.or_eq_true, Bool.and_eq_true, beq_iff_eq, decide_eq_true_eq, Bool.not_eq_true'] at hok
  have hdd : (pc + len = pc + 1 ∧ ∃ k : Fin 4, (k : Nat) = a ∧ decode cc pc = .ok (.aload_n k, 1)) ∨ (pc + len = pc + 2 ∧ decode cc pc = .ok (.aload a, 2)) := by
    rcases hok with ⟨⟨h1, h2⟩, h3⟩ | ⟨h1, h2⟩
    · exact Or.inl ⟨by rw [h1], _, fin4 h2, xdec_ok h3⟩
    · exact Or.inr ⟨by rw [h1], xdec_ok h2⟩
  simp only [xst] at hst
  split at hst
  · rename_i x hx
    exact xs_aload F hx hdd (hK _ _ _ _ _ _ _ _ hst)
  · rename_i x hx
    exact xs_aloadR F hx (F.2.2.2.2.2.2.2.1.2.2.2.1 x) hdd (hK _ _ _ _ _ _ _ _ hst)
  · exact hst.elim
theorem xi_7 (F : XFx p s m meth c args Rm cc own nL ini law sc mc ms A sV) {rt : Option FieldType} {d0 : Nat} {cl : XC} {nx : XN} {Q : XQ} (hfr : d0 + 1 ≤ Rm.frames) (hlo : 40 * (d0 + 1) ≤ Rm.locals)
    (hcl : ∀ (k : Nat) (as : XV) (S : XS) (I : XI) (J : XJ) (r : XR) (Q : XQ), cl k as S I J r Q → XMt l d0 dC dI sV k as S I J r Q)
    (hnx : ∀ (pc : Nat) (L st : XV) (S : XS) (I : XI) (J : XJ) (r : XR) (cu su : Nat), nx pc L st S I J r cu su → XW p l e9 Rm s m args below meth c dC dI A a0 n0 sV nL mc ms Zf pc L st S I J r cu su)
    (hret : ∀ (pc : Nat) (L : XV) (cu su : Nat) (v : Option Value) (S : XS) (I : XI) (J : XJ) (r : XR), Q v S I J r → xretOk rt v → decode cc pc = .ok (xri v, 1) → XW p l e9 Rm s m args below meth c dC dI A a0 n0 sV nL mc ms Zf pc L v.toList S I J r cu su) {len a b d h n e : Nat} {z : Int32} {w : Int64} (hK : ∀ (L st : XV) (S : XS) (I : XI) (J : XJ) (r : XR) (cu su : Nat), K L st S I J r cu su → XW p l e9 Rm s m args below meth c dC dI A a0 n0 sV nL mc ms Zf (pc + len) L st S I J r cu su) (hok : ck7 own cc nL rt ini law pc len a b d h n e z w = true) (hst : xst sc cl nx Q mc ms K (7, len, a, b, d, h, n, e, z, w) L st S I J r cu su) : XW p l e9 Rm s m args below meth c dC dI A a0 n0 sV nL mc ms Zf pc L st S I J r cu su := by
  unfold ck7 at hok
  simp only [Bool.or_eq_true, Bool.and_eq_true, beq_iff_eq, decide_eq_true_eq, Bool.not_eq_true'] at hok
  obtain ⟨hlt, hok⟩ := hok
  have hdd : (pc + len = pc + 1 ∧ ∃ k : Fin 4, (k : Nat) = a ∧ decode cc pc = .ok (.istore_n k, 1)) ∨ (pc + len = pc + 2 ∧ decode cc pc = .ok (.istore a, 2)) := by
    rcases hok with ⟨⟨h1, h2⟩, h3⟩ | ⟨h1, h2⟩
    · exact Or.inl ⟨by rw [h1], _, fin4 h2, xdec_ok h3⟩
    · exact Or.inr ⟨by rw [h1], xdec_ok h2⟩
  simp only [xst] at hst
  split at hst
  · exact xs_istore F hlt hdd (hK _ _ _ _ _ _ _ _ hst)
  · exact hst.elim
theorem xi_8 (F : XFx p s m meth c args Rm cc own nL ini law sc mc ms A sV) {rt : Option FieldType} {d0 : Nat} {cl : XC} {nx : XN} {Q : XQ} (hfr : d0 + 1 ≤ Rm.frames) (hlo : 40 * (d0 + 1) ≤ Rm.locals)
    (hcl : ∀ (k : Nat) (as : XV) (S : XS) (I : XI) (J : XJ) (r : XR) (Q : XQ), cl k as S I J r Q → XMt l d0 dC dI sV k as S I J r Q)
    (hnx : ∀ (pc : Nat) (L st : XV) (S : XS) (I : XI) (J : XJ) (r : XR) (cu su : Nat), nx pc L st S I J r cu su → XW p l e9 Rm s m args below meth c dC dI A a0 n0 sV nL mc ms Zf pc L st S I J r cu su)
    (hret : ∀ (pc : Nat) (L : XV) (cu su : Nat) (v : Option Value) (S : XS) (I : XI) (J : XJ) (r : XR), Q v S I J r → xretOk rt v → decode cc pc = .ok (xri v, 1) → XW p l e9 Rm s m args below meth c dC dI A a0 n0 sV nL mc ms Zf pc L v.toList S I J r cu su) {len a b d h n e : Nat} {z : Int32} {w : Int64} (hK : ∀ (L st : XV) (S : XS) (I : XI) (J : XJ) (r : XR) (cu su : Nat), K L st S I J r cu su → XW p l e9 Rm s m args below meth c dC dI A a0 n0 sV nL mc ms Zf (pc + len) L st S I J r cu su) (hok : ck8 own cc nL rt ini law pc len a b d h n e z w = true) (hst : xst sc cl nx Q mc ms K (8, len, a, b, d, h, n, e, z, w) L st S I J r cu su) : XW p l e9 Rm s m args below meth c dC dI A a0 n0 sV nL mc ms Zf pc L st S I J r cu su := by
  unfold ck8 at hok
  simp only [Bool.or_eq_true, Bool.and_eq_true, beq_iff_eq, decide_eq_true_eq, Bool.not_eq_true'] at hok
  obtain ⟨hlt, hok⟩ := hok
  have hdd : (pc + len = pc + 1 ∧ ∃ k : Fin 4, (k : Nat) = a ∧ decode cc pc = .ok (.lstore_n k, 1)) ∨ (pc + len = pc + 2 ∧ decode cc pc = .ok (.lstore a, 2)) := by
    rcases hok with ⟨⟨h1, h2⟩, h3⟩ | ⟨h1, h2⟩
    · exact Or.inl ⟨by rw [h1], _, fin4 h2, xdec_ok h3⟩
    · exact Or.inr ⟨by rw [h1], xdec_ok h2⟩
  simp only [xst] at hst
  split at hst
  · exact xs_lstore F hlt hdd (hK _ _ _ _ _ _ _ _ hst)
  · exact hst.elim
theorem xi_9 (F : XFx p s m meth c args Rm cc own nL ini law sc mc ms A sV) {rt : Option FieldType} {d0 : Nat} {cl : XC} {nx : XN} {Q : XQ} (hfr : d0 + 1 ≤ Rm.frames) (hlo : 40 * (d0 + 1) ≤ Rm.locals)
    (hcl : ∀ (k : Nat) (as : XV) (S : XS) (I : XI) (J : XJ) (r : XR) (Q : XQ), cl k as S I J r Q → XMt l d0 dC dI sV k as S I J r Q)
    (hnx : ∀ (pc : Nat) (L st : XV) (S : XS) (I : XI) (J : XJ) (r : XR) (cu su : Nat), nx pc L st S I J r cu su → XW p l e9 Rm s m args below meth c dC dI A a0 n0 sV nL mc ms Zf pc L st S I J r cu su)
    (hret : ∀ (pc : Nat) (L : XV) (cu su : Nat) (v : Option Value) (S : XS) (I : XI) (J : XJ) (r : XR), Q v S I J r → xretOk rt v → decode cc pc = .ok (xri v, 1) → XW p l e9 Rm s m args below meth c dC dI A a0 n0 sV nL mc ms Zf pc L v.toList S I J r cu su) {len a b d h n e : Nat} {z : Int32} {w : Int64} (hK : ∀ (L st : XV) (S : XS) (I : XI) (J : XJ) (r : XR) (cu su : Nat), K L st S I J r cu su → XW p l e9 Rm s m args below meth c dC dI A a0 n0 sV nL mc ms Zf (pc + len) L st S I J r cu su) (hok : ck9 own cc nL rt ini law pc len a b d h n e z w = true) (hst : xst sc cl nx Q mc ms K (9, len, a, b, d, h, n, e, z, w) L st S I J r cu su) : XW p l e9 Rm s m args below meth c dC dI A a0 n0 sV nL mc ms Zf pc L st S I J r cu su := by
  unfold ck9 at hok
  simp only [Bool.or_eq_true, Bool.and_eq_true, beq_iff_eq, decide_eq_true_eq, Bool.not_eq_true'] at hok
  obtain ⟨hlt, hok⟩ := hok
  have hdd : (pc + len = pc + 1 ∧ ∃ k : Fin 4, (k : Nat) = a ∧ decode cc pc = .ok (.astore_n k, 1)) ∨ (pc + len = pc + 2 ∧ decode cc pc = .ok (.astore a, 2)) := by
    rcases hok with ⟨⟨h1, h2⟩, h3⟩ | ⟨h1, h2⟩
    · exact Or.inl ⟨by rw [h1], _, fin4 h2, xdec_ok h3⟩
    · exact Or.inr ⟨by rw [h1], xdec_ok h2⟩
  simp only [xst] at hst
  split at hst
  · exact xs_astore F hlt hdd (hK _ _ _ _ _ _ _ _ hst)
  · exact xs_astoreN F hlt hdd (hK _ _ _ _ _ _ _ _ hst)
  · exact hst.elim
theorem xi_10 (F : XFx p s m meth c args Rm cc own nL ini law sc mc ms A sV) {rt : Option FieldType} {d0 : Nat} {cl : XC} {nx : XN} {Q : XQ} (hfr : d0 + 1 ≤ Rm.frames) (hlo : 40 * (d0 + 1) ≤ Rm.locals)
    (hcl : ∀ (k : Nat) (as : XV) (S : XS) (I : XI) (J : XJ) (r : XR) (Q : XQ), cl k as S I J r Q → XMt l d0 dC dI sV k as S I J r Q)
    (hnx : ∀ (pc : Nat) (L st : XV) (S : XS) (I : XI) (J : XJ) (r : XR) (cu su : Nat), nx pc L st S I J r cu su → XW p l e9 Rm s m args below meth c dC dI A a0 n0 sV nL mc ms Zf pc L st S I J r cu su)
    (hret : ∀ (pc : Nat) (L : XV) (cu su : Nat) (v : Option Value) (S : XS) (I : XI) (J : XJ) (r : XR), Q v S I J r → xretOk rt v → decode cc pc = .ok (xri v, 1) → XW p l e9 Rm s m args below meth c dC dI A a0 n0 sV nL mc ms Zf pc L v.toList S I J r cu su) {len a b d h n e : Nat} {z : Int32} {w : Int64} (hK : ∀ (L st : XV) (S : XS) (I : XI) (J : XJ) (r : XR) (cu su : Nat), K L st S I J r cu su → XW p l e9 Rm s m args below meth c dC dI A a0 n0 sV nL mc ms Zf (pc + len) L st S I J r cu su) (hok : ck10 own cc nL rt ini law pc len a b d h n e z w = true) (hst : xst sc cl nx Q mc ms K (10, len, a, b, d, h, n, e, z, w) L st S I J r cu su) : XW p l e9 Rm s m args below meth c dC dI A a0 n0 sV nL mc ms Zf pc L st S I J r cu su := by
  unfold ck10 at hok
  simp only [Bool.or_eq_true, Bool.and_eq_true, beq_iff_eq, decide_eq_true_eq, Bool.not_eq_true'] at hok
  obtain ⟨⟨rfl, h2⟩, h3⟩ := hok
  simp only [xst] at hst
  split at hst
  · rename_i x hx
    exact xs_iinc F hx h2 (xdec_ok h3) (hK _ _ _ _ _ _ _ _ hst)
  · exact hst.elim
theorem xi_11 (F : XFx p s m meth c args Rm cc own nL ini law sc mc ms A sV) {rt : Option FieldType} {d0 : Nat} {cl : XC} {nx : XN} {Q : XQ} (hfr : d0 + 1 ≤ Rm.frames) (hlo : 40 * (d0 + 1) ≤ Rm.locals)
    (hcl : ∀ (k : Nat) (as : XV) (S : XS) (I : XI) (J : XJ) (r : XR) (Q : XQ), cl k as S I J r Q → XMt l d0 dC dI sV k as S I J r Q)
    (hnx : ∀ (pc : Nat) (L st : XV) (S : XS) (I : XI) (J : XJ) (r : XR) (cu su : Nat), nx pc L st S I J r cu su → XW p l e9 Rm s m args below meth c dC dI A a0 n0 sV nL mc ms Zf pc L st S I J r cu su)
    (hret : ∀ (pc : Nat) (L : XV) (cu su : Nat) (v : Option Value) (S : XS) (I : XI) (J : XJ) (r : XR), Q v S I J r → xretOk rt v → decode cc pc = .ok (xri v, 1) → XW p l e9 Rm s m args below meth c dC dI A a0 n0 sV nL mc ms Zf pc L v.toList S I J r cu su) {len a b d h n e : Nat} {z : Int32} {w : Int64} (hK : ∀ (L st : XV) (S : XS) (I : XI) (J : XJ) (r : XR) (cu su : Nat), K L st S I J r cu su → XW p l e9 Rm s m args below meth c dC dI A a0 n0 sV nL mc ms Zf (pc + len) L st S I J r cu su) (hok : ck11 own cc nL rt ini law pc len a b d h n e z w = true) (hst : xst sc cl nx Q mc ms K (11, len, a, b, d, h, n, e, z, w) L st S I J r cu su) : XW p l e9 Rm s m args below meth c dC dI A a0 n0 sV nL mc ms Zf pc L st S I J r cu su := by
  unfold ck11 at hok
  simp only [Bool.or_eq_true, Bool.and_eq_true, beq_iff_eq, decide_eq_true_eq, Bool.not_eq_true'] at hok
  obtain ⟨rfl, hok⟩ := hok
  simp only [xst] at hst
  split at hst
  · rcases hok with ((((((((⟨rfl, h3⟩) | ⟨rfl, h3⟩) | ⟨rfl, h3⟩) | ⟨rfl, h3⟩) | ⟨rfl, h3⟩) | ⟨rfl, h3⟩) | ⟨rfl, h3⟩) | ⟨rfl, h3⟩) | ⟨rfl, h3⟩
    · exact xs_iadd F (xdec_ok h3) (hK _ _ _ _ _ _ _ _ hst)
    · exact xs_isub F (xdec_ok h3) (hK _ _ _ _ _ _ _ _ hst)
    · exact xs_imul F (xdec_ok h3) (hK _ _ _ _ _ _ _ _ hst)
    · exact xs_iand F (xdec_ok h3) (hK _ _ _ _ _ _ _ _ hst)
    · exact xs_ior F (xdec_ok h3) (hK _ _ _ _ _ _ _ _ hst)
    · exact xs_ixor F (xdec_ok h3) (hK _ _ _ _ _ _ _ _ hst)
    · exact xs_ishl F (xdec_ok h3) (hK _ _ _ _ _ _ _ _ hst)
    · exact xs_ishr F (xdec_ok h3) (hK _ _ _ _ _ _ _ _ hst)
    · exact xs_iushr F (xdec_ok h3) (hK _ _ _ _ _ _ _ _ hst)
  · exact hst.elim
theorem xi_12 (F : XFx p s m meth c args Rm cc own nL ini law sc mc ms A sV) {rt : Option FieldType} {d0 : Nat} {cl : XC} {nx : XN} {Q : XQ} (hfr : d0 + 1 ≤ Rm.frames) (hlo : 40 * (d0 + 1) ≤ Rm.locals)
    (hcl : ∀ (k : Nat) (as : XV) (S : XS) (I : XI) (J : XJ) (r : XR) (Q : XQ), cl k as S I J r Q → XMt l d0 dC dI sV k as S I J r Q)
    (hnx : ∀ (pc : Nat) (L st : XV) (S : XS) (I : XI) (J : XJ) (r : XR) (cu su : Nat), nx pc L st S I J r cu su → XW p l e9 Rm s m args below meth c dC dI A a0 n0 sV nL mc ms Zf pc L st S I J r cu su)
    (hret : ∀ (pc : Nat) (L : XV) (cu su : Nat) (v : Option Value) (S : XS) (I : XI) (J : XJ) (r : XR), Q v S I J r → xretOk rt v → decode cc pc = .ok (xri v, 1) → XW p l e9 Rm s m args below meth c dC dI A a0 n0 sV nL mc ms Zf pc L v.toList S I J r cu su) {len a b d h n e : Nat} {z : Int32} {w : Int64} (hK : ∀ (L st : XV) (S : XS) (I : XI) (J : XJ) (r : XR) (cu su : Nat), K L st S I J r cu su → XW p l e9 Rm s m args below meth c dC dI A a0 n0 sV nL mc ms Zf (pc + len) L st S I J r cu su) (hok : ck12 own cc nL rt ini law pc len a b d h n e z w = true) (hst : xst sc cl nx Q mc ms K (12, len, a, b, d, h, n, e, z, w) L st S I J r cu su) : XW p l e9 Rm s m args below meth c dC dI A a0 n0 sV nL mc ms Zf pc L st S I J r cu su := by
  unfold ck12 at hok
  simp only [Bool.or_eq_true, Bool.and_eq_true, beq_iff_eq, decide_eq_true_eq, Bool.not_eq_true'] at hok
  obtain ⟨rfl, hok⟩ := hok
  simp only [xst] at hst
  split at hst
  · obtain ⟨hy, hst⟩ := hst
    rcases hok with (⟨rfl, h3⟩) | ⟨rfl, h3⟩
    · exact xs_idiv F hy (xdec_ok h3) (hK _ _ _ _ _ _ _ _ hst)
    · exact xs_irem F hy (xdec_ok h3) (hK _ _ _ _ _ _ _ _ hst)
  · exact hst.elim
theorem xi_13 (F : XFx p s m meth c args Rm cc own nL ini law sc mc ms A sV) {rt : Option FieldType} {d0 : Nat} {cl : XC} {nx : XN} {Q : XQ} (hfr : d0 + 1 ≤ Rm.frames) (hlo : 40 * (d0 + 1) ≤ Rm.locals)
    (hcl : ∀ (k : Nat) (as : XV) (S : XS) (I : XI) (J : XJ) (r : XR) (Q : XQ), cl k as S I J r Q → XMt l d0 dC dI sV k as S I J r Q)
    (hnx : ∀ (pc : Nat) (L st : XV) (S : XS) (I : XI) (J : XJ) (r : XR) (cu su : Nat), nx pc L st S I J r cu su → XW p l e9 Rm s m args below meth c dC dI A a0 n0 sV nL mc ms Zf pc L st S I J r cu su)
    (hret : ∀ (pc : Nat) (L : XV) (cu su : Nat) (v : Option Value) (S : XS) (I : XI) (J : XJ) (r : XR), Q v S I J r → xretOk rt v → decode cc pc = .ok (xri v, 1) → XW p l e9 Rm s m args below meth c dC dI A a0 n0 sV nL mc ms Zf pc L v.toList S I J r cu su) {len a b d h n e : Nat} {z : Int32} {w : Int64} (hK : ∀ (L st : XV) (S : XS) (I : XI) (J : XJ) (r : XR) (cu su : Nat), K L st S I J r cu su → XW p l e9 Rm s m args below meth c dC dI A a0 n0 sV nL mc ms Zf (pc + len) L st S I J r cu su) (hok : ck13 own cc nL rt ini law pc len a b d h n e z w = true) (hst : xst sc cl nx Q mc ms K (13, len, a, b, d, h, n, e, z, w) L st S I J r cu su) : XW p l e9 Rm s m args below meth c dC dI A a0 n0 sV nL mc ms Zf pc L st S I J r cu su := by
  unfold ck13 at hok
  simp only [Bool.or_eq_true, Bool.and_eq_true, beq_iff_eq, decide_eq_true_eq, Bool.not_eq_true'] at hok
  obtain ⟨rfl, h3⟩ := hok
  simp only [xst] at hst
  split at hst
  · exact xs_ineg F (xdec_ok h3) (hK _ _ _ _ _ _ _ _ hst)
  · exact hst.elim
theorem xi_14 (F : XFx p s m meth c args Rm cc own nL ini law sc mc ms A sV) {rt : Option FieldType} {d0 : Nat} {cl : XC} {nx : XN} {Q : XQ} (hfr : d0 + 1 ≤ Rm.frames) (hlo : 40 * (d0 + 1) ≤ Rm.locals)
    (hcl : ∀ (k : Nat) (as : XV) (S : XS) (I : XI) (J : XJ) (r : XR) (Q : XQ), cl k as S I J r Q → XMt l d0 dC dI sV k as S I J r Q)
    (hnx : ∀ (pc : Nat) (L st : XV) (S : XS) (I : XI) (J : XJ) (r : XR) (cu su : Nat), nx pc L st S I J r cu su → XW p l e9 Rm s m args below meth c dC dI A a0 n0 sV nL mc ms Zf pc L st S I J r cu su)
    (hret : ∀ (pc : Nat) (L : XV) (cu su : Nat) (v : Option Value) (S : XS) (I : XI) (J : XJ) (r : XR), Q v S I J r → xretOk rt v → decode cc pc = .ok (xri v, 1) → XW p l e9 Rm s m args below meth c dC dI A a0 n0 sV nL mc ms Zf pc L v.toList S I J r cu su) {len a b d h n e : Nat} {z : Int32} {w : Int64} (hK : ∀ (L st : XV) (S : XS) (I : XI) (J : XJ) (r : XR) (cu su : Nat), K L st S I J r cu su → XW p l e9 Rm s m args below meth c dC dI A a0 n0 sV nL mc ms Zf (pc + len) L st S I J r cu su) (hok : ck14 own cc nL rt ini law pc len a b d h n e z w = true) (hst : xst sc cl nx Q mc ms K (14, len, a, b, d, h, n, e, z, w) L st S I J r cu su) : XW p l e9 Rm s m args below meth c dC dI A a0 n0 sV nL mc ms Zf pc L st S I J r cu su := by
  unfold ck14 at hok
  simp only [Bool.or_eq_true, Bool.and_eq_true, beq_iff_eq, decide_eq_true_eq, Bool.not_eq_true'] at hok
  obtain ⟨rfl, hok⟩ := hok
  simp only [xst] at hst
  split at hst
  · rcases hok with ((((⟨rfl, h3⟩) | ⟨rfl, h3⟩) | ⟨rfl, h3⟩) | ⟨rfl, h3⟩) | ⟨rfl, h3⟩
    · exact xs_ladd F (xdec_ok h3) (hK _ _ _ _ _ _ _ _ hst)
    · exact xs_lsub F (xdec_ok h3) (hK _ _ _ _ _ _ _ _ hst)
    · exact xs_lmul F (xdec_ok h3) (hK _ _ _ _ _ _ _ _ hst)
    · exact xs_land F (xdec_ok h3) (hK _ _ _ _ _ _ _ _ hst)
    · exact xs_lor F (xdec_ok h3) (hK _ _ _ _ _ _ _ _ hst)
  · exact hst.elim
theorem xi_15 (F : XFx p s m meth c args Rm cc own nL ini law sc mc ms A sV) {rt : Option FieldType} {d0 : Nat} {cl : XC} {nx : XN} {Q : XQ} (hfr : d0 + 1 ≤ Rm.frames) (hlo : 40 * (d0 + 1) ≤ Rm.locals)
    (hcl : ∀ (k : Nat) (as : XV) (S : XS) (I : XI) (J : XJ) (r : XR) (Q : XQ), cl k as S I J r Q → XMt l d0 dC dI sV k as S I J r Q)
    (hnx : ∀ (pc : Nat) (L st : XV) (S : XS) (I : XI) (J : XJ) (r : XR) (cu su : Nat), nx pc L st S I J r cu su → XW p l e9 Rm s m args below meth c dC dI A a0 n0 sV nL mc ms Zf pc L st S I J r cu su)
    (hret : ∀ (pc : Nat) (L : XV) (cu su : Nat) (v : Option Value) (S : XS) (I : XI) (J : XJ) (r : XR), Q v S I J r → xretOk rt v → decode cc pc = .ok (xri v, 1) → XW p l e9 Rm s m args below meth c dC dI A a0 n0 sV nL mc ms Zf pc L v.toList S I J r cu su) {len a b d h n e : Nat} {z : Int32} {w : Int64} (hK : ∀ (L st : XV) (S : XS) (I : XI) (J : XJ) (r : XR) (cu su : Nat), K L st S I J r cu su → XW p l e9 Rm s m args below meth c dC dI A a0 n0 sV nL mc ms Zf (pc + len) L st S I J r cu su) (hok : ck15 own cc nL rt ini law pc len a b d h n e z w = true) (hst : xst sc cl nx Q mc ms K (15, len, a, b, d, h, n, e, z, w) L st S I J r cu su) : XW p l e9 Rm s m args below meth c dC dI A a0 n0 sV nL mc ms Zf pc L st S I J r cu su := by
  unfold ck15 at hok
  simp only [Bool.or_eq_true, Bool.and_eq_true, beq_iff_eq, decide_eq_true_eq, Bool.not_eq_true'] at hok
  obtain ⟨rfl, hok⟩ := hok
  simp only [xst] at hst
  split at hst
  · obtain ⟨hy, hst⟩ := hst
    rcases hok with (⟨rfl, h3⟩) | ⟨rfl, h3⟩
    · exact xs_ldiv F hy (xdec_ok h3) (hK _ _ _ _ _ _ _ _ hst)
    · exact xs_lrem F hy (xdec_ok h3) (hK _ _ _ _ _ _ _ _ hst)
  · exact hst.elim
theorem xi_16 (F : XFx p s m meth c args Rm cc own nL ini law sc mc ms A sV) {rt : Option FieldType} {d0 : Nat} {cl : XC} {nx : XN} {Q : XQ} (hfr : d0 + 1 ≤ Rm.frames) (hlo : 40 * (d0 + 1) ≤ Rm.locals)
    (hcl : ∀ (k : Nat) (as : XV) (S : XS) (I : XI) (J : XJ) (r : XR) (Q : XQ), cl k as S I J r Q → XMt l d0 dC dI sV k as S I J r Q)
    (hnx : ∀ (pc : Nat) (L st : XV) (S : XS) (I : XI) (J : XJ) (r : XR) (cu su : Nat), nx pc L st S I J r cu su → XW p l e9 Rm s m args below meth c dC dI A a0 n0 sV nL mc ms Zf pc L st S I J r cu su)
    (hret : ∀ (pc : Nat) (L : XV) (cu su : Nat) (v : Option Value) (S : XS) (I : XI) (J : XJ) (r : XR), Q v S I J r → xretOk rt v → decode cc pc = .ok (xri v, 1) → XW p l e9 Rm s m args below meth c dC dI A a0 n0 sV nL mc ms Zf pc L v.toList S I J r cu su) {len a b d h n e : Nat} {z : Int32} {w : Int64} (hK : ∀ (L st : XV) (S : XS) (I : XI) (J : XJ) (r : XR) (cu su : Nat), K L st S I J r cu su → XW p l e9 Rm s m args below meth c dC dI A a0 n0 sV nL mc ms Zf (pc + len) L st S I J r cu su) (hok : ck16 own cc nL rt ini law pc len a b d h n e z w = true) (hst : xst sc cl nx Q mc ms K (16, len, a, b, d, h, n, e, z, w) L st S I J r cu su) : XW p l e9 Rm s m args below meth c dC dI A a0 n0 sV nL mc ms Zf pc L st S I J r cu su := by
  unfold ck16 at hok
  simp only [Bool.or_eq_true, Bool.and_eq_true, beq_iff_eq, decide_eq_true_eq, Bool.not_eq_true'] at hok
  obtain ⟨rfl, h3⟩ := hok
  simp only [xst] at hst
  split at hst
  · exact xs_lshl F (xdec_ok h3) (hK _ _ _ _ _ _ _ _ hst)
  · exact hst.elim
theorem xi_17 (F : XFx p s m meth c args Rm cc own nL ini law sc mc ms A sV) {rt : Option FieldType} {d0 : Nat} {cl : XC} {nx : XN} {Q : XQ} (hfr : d0 + 1 ≤ Rm.frames) (hlo : 40 * (d0 + 1) ≤ Rm.locals)
    (hcl : ∀ (k : Nat) (as : XV) (S : XS) (I : XI) (J : XJ) (r : XR) (Q : XQ), cl k as S I J r Q → XMt l d0 dC dI sV k as S I J r Q)
    (hnx : ∀ (pc : Nat) (L st : XV) (S : XS) (I : XI) (J : XJ) (r : XR) (cu su : Nat), nx pc L st S I J r cu su → XW p l e9 Rm s m args below meth c dC dI A a0 n0 sV nL mc ms Zf pc L st S I J r cu su)
    (hret : ∀ (pc : Nat) (L : XV) (cu su : Nat) (v : Option Value) (S : XS) (I : XI) (J : XJ) (r : XR), Q v S I J r → xretOk rt v → decode cc pc = .ok (xri v, 1) → XW p l e9 Rm s m args below meth c dC dI A a0 n0 sV nL mc ms Zf pc L v.toList S I J r cu su) {len a b d h n e : Nat} {z : Int32} {w : Int64} (hK : ∀ (L st : XV) (S : XS) (I : XI) (J : XJ) (r : XR) (cu su : Nat), K L st S I J r cu su → XW p l e9 Rm s m args below meth c dC dI A a0 n0 sV nL mc ms Zf (pc + len) L st S I J r cu su) (hok : ck17 own cc nL rt ini law pc len a b d h n e z w = true) (hst : xst sc cl nx Q mc ms K (17, len, a, b, d, h, n, e, z, w) L st S I J r cu su) : XW p l e9 Rm s m args below meth c dC dI A a0 n0 sV nL mc ms Zf pc L st S I J r cu su := by
  unfold ck17 at hok
  simp only [Bool.or_eq_true, Bool.and_eq_true, beq_iff_eq, decide_eq_true_eq, Bool.not_eq_true'] at hok
  obtain ⟨rfl, hok⟩ := hok
  rcases hok with (((((⟨rfl, h3⟩) | ⟨rfl, h3⟩) | ⟨rfl, h3⟩) | ⟨rfl, h3⟩) | ⟨rfl, h3⟩) | ⟨rfl, h3⟩
  · simp only [xst] at hst
    split at hst <;> first | exact hst.elim | (rename_i q9 _; cases q9; done) | skip
    all_goals first | exact xs_i2l F (xdec_ok h3) (hK _ _ _ _ _ _ _ _ hst) | (simp at *; done)
  · simp only [xst] at hst
    split at hst <;> first | exact hst.elim | (rename_i q9 _; cases q9; done) | skip
    all_goals first | exact xs_l2i F (xdec_ok h3) (hK _ _ _ _ _ _ _ _ hst) | (simp at *; done)
  · simp only [xst] at hst
    split at hst <;> first | exact hst.elim | (rename_i q9 _; cases q9; done) | skip
    all_goals first | exact xs_i2b F (xdec_ok h3) (hK _ _ _ _ _ _ _ _ hst) | (simp at *; done)
  · simp only [xst] at hst
    split at hst <;> first | exact hst.elim | (rename_i q9 _; cases q9; done) | skip
    all_goals first | exact xs_i2s F (xdec_ok h3) (hK _ _ _ _ _ _ _ _ hst) | (simp at *; done)
  · simp only [xst] at hst
    split at hst <;> first | exact hst.elim | (rename_i q9 _; cases q9; done) | skip
    all_goals first | exact xs_i2c F (xdec_ok h3) (hK _ _ _ _ _ _ _ _ hst) | (simp at *; done)
  · simp only [xst] at hst
    split at hst <;> first | exact hst.elim | (rename_i q9 _; cases q9; done) | skip
    all_goals first | exact xs_lneg F (xdec_ok h3) (hK _ _ _ _ _ _ _ _ hst) | (simp at *; done)
theorem xi_18 (F : XFx p s m meth c args Rm cc own nL ini law sc mc ms A sV) {rt : Option FieldType} {d0 : Nat} {cl : XC} {nx : XN} {Q : XQ} (hfr : d0 + 1 ≤ Rm.frames) (hlo : 40 * (d0 + 1) ≤ Rm.locals)
    (hcl : ∀ (k : Nat) (as : XV) (S : XS) (I : XI) (J : XJ) (r : XR) (Q : XQ), cl k as S I J r Q → XMt l d0 dC dI sV k as S I J r Q)
    (hnx : ∀ (pc : Nat) (L st : XV) (S : XS) (I : XI) (J : XJ) (r : XR) (cu su : Nat), nx pc L st S I J r cu su → XW p l e9 Rm s m args below meth c dC dI A a0 n0 sV nL mc ms Zf pc L st S I J r cu su)
    (hret : ∀ (pc : Nat) (L : XV) (cu su : Nat) (v : Option Value) (S : XS) (I : XI) (J : XJ) (r : XR), Q v S I J r → xretOk rt v → decode cc pc = .ok (xri v, 1) → XW p l e9 Rm s m args below meth c dC dI A a0 n0 sV nL mc ms Zf pc L v.toList S I J r cu su) {len a b d h n e : Nat} {z : Int32} {w : Int64} (hK : ∀ (L st : XV) (S : XS) (I : XI) (J : XJ) (r : XR) (cu su : Nat), K L st S I J r cu su → XW p l e9 Rm s m args below meth c dC dI A a0 n0 sV nL mc ms Zf (pc + len) L st S I J r cu su) (hok : ck18 own cc nL rt ini law pc len a b d h n e z w = true) (hst : xst sc cl nx Q mc ms K (18, len, a, b, d, h, n, e, z, w) L st S I J r cu su) : XW p l e9 Rm s m args below meth c dC dI A a0 n0 sV nL mc ms Zf pc L st S I J r cu su := by
  unfold ck18 at hok
  simp only [Bool.or_eq_true, Bool.and_eq_true, beq_iff_eq, decide_eq_true_eq, Bool.not_eq_true'] at hok
  obtain ⟨rfl, h3⟩ := hok
  simp only [xst] at hst
  split at hst
  · exact xs_lcmp F (xdec_ok h3) (hK _ _ _ _ _ _ _ _ hst)
  · exact hst.elim
theorem xi_19 (F : XFx p s m meth c args Rm cc own nL ini law sc mc ms A sV) {rt : Option FieldType} {d0 : Nat} {cl : XC} {nx : XN} {Q : XQ} (hfr : d0 + 1 ≤ Rm.frames) (hlo : 40 * (d0 + 1) ≤ Rm.locals)
    (hcl : ∀ (k : Nat) (as : XV) (S : XS) (I : XI) (J : XJ) (r : XR) (Q : XQ), cl k as S I J r Q → XMt l d0 dC dI sV k as S I J r Q)
    (hnx : ∀ (pc : Nat) (L st : XV) (S : XS) (I : XI) (J : XJ) (r : XR) (cu su : Nat), nx pc L st S I J r cu su → XW p l e9 Rm s m args below meth c dC dI A a0 n0 sV nL mc ms Zf pc L st S I J r cu su)
    (hret : ∀ (pc : Nat) (L : XV) (cu su : Nat) (v : Option Value) (S : XS) (I : XI) (J : XJ) (r : XR), Q v S I J r → xretOk rt v → decode cc pc = .ok (xri v, 1) → XW p l e9 Rm s m args below meth c dC dI A a0 n0 sV nL mc ms Zf pc L v.toList S I J r cu su) {len a b d h n e : Nat} {z : Int32} {w : Int64} (hK : ∀ (L st : XV) (S : XS) (I : XI) (J : XJ) (r : XR) (cu su : Nat), K L st S I J r cu su → XW p l e9 Rm s m args below meth c dC dI A a0 n0 sV nL mc ms Zf (pc + len) L st S I J r cu su) (hok : ck19 own cc nL rt ini law pc len a b d h n e z w = true) (hst : xst sc cl nx Q mc ms K (19, len, a, b, d, h, n, e, z, w) L st S I J r cu su) : XW p l e9 Rm s m args below meth c dC dI A a0 n0 sV nL mc ms Zf pc L st S I J r cu su := by
  unfold ck19 at hok
  simp only [Bool.or_eq_true, Bool.and_eq_true, beq_iff_eq, decide_eq_true_eq, Bool.not_eq_true'] at hok
  obtain ⟨rfl, h3⟩ := hok
  simp only [xst] at hst
  split at hst
  · exact xs_dup F hst.1 (xdec_ok h3) (hK _ _ _ _ _ _ _ _ hst.2)
  · exact hst.elim
theorem xi_20 (F : XFx p s m meth c args Rm cc own nL ini law sc mc ms A sV) {rt : Option FieldType} {d0 : Nat} {cl : XC} {nx : XN} {Q : XQ} (hfr : d0 + 1 ≤ Rm.frames) (hlo : 40 * (d0 + 1) ≤ Rm.locals)
    (hcl : ∀ (k : Nat) (as : XV) (S : XS) (I : XI) (J : XJ) (r : XR) (Q : XQ), cl k as S I J r Q → XMt l d0 dC dI sV k as S I J r Q)
    (hnx : ∀ (pc : Nat) (L st : XV) (S : XS) (I : XI) (J : XJ) (r : XR) (cu su : Nat), nx pc L st S I J r cu su → XW p l e9 Rm s m args below meth c dC dI A a0 n0 sV nL mc ms Zf pc L st S I J r cu su)
    (hret : ∀ (pc : Nat) (L : XV) (cu su : Nat) (v : Option Value) (S : XS) (I : XI) (J : XJ) (r : XR), Q v S I J r → xretOk rt v → decode cc pc = .ok (xri v, 1) → XW p l e9 Rm s m args below meth c dC dI A a0 n0 sV nL mc ms Zf pc L v.toList S I J r cu su) {len a b d h n e : Nat} {z : Int32} {w : Int64} (hK : ∀ (L st : XV) (S : XS) (I : XI) (J : XJ) (r : XR) (cu su : Nat), K L st S I J r cu su → XW p l e9 Rm s m args below meth c dC dI A a0 n0 sV nL mc ms Zf (pc + len) L st S I J r cu su) (hok : ck20 own cc nL rt ini law pc len a b d h n e z w = true) (hst : xst sc cl nx Q mc ms K (20, len, a, b, d, h, n, e, z, w) L st S I J r cu su) : XW p l e9 Rm s m args below meth c dC dI A a0 n0 sV nL mc ms Zf pc L st S I J r cu su := by
  unfold ck20 at hok
  simp only [Bool.or_eq_true, Bool.and_eq_true, beq_iff_eq, decide_eq_true_eq, Bool.not_eq_true'] at hok
  obtain ⟨rfl, h3⟩ := hok
  simp only [xst] at hst
  split at hst
  · exact xs_dup2 F hst.1 hst.2.1 (xdec_ok h3) (hK _ _ _ _ _ _ _ _ hst.2.2)
  · exact hst.elim
theorem xi_21 (F : XFx p s m meth c args Rm cc own nL ini law sc mc ms A sV) {rt : Option FieldType} {d0 : Nat} {cl : XC} {nx : XN} {Q : XQ} (hfr : d0 + 1 ≤ Rm.frames) (hlo : 40 * (d0 + 1) ≤ Rm.locals)
    (hcl : ∀ (k : Nat) (as : XV) (S : XS) (I : XI) (J : XJ) (r : XR) (Q : XQ), cl k as S I J r Q → XMt l d0 dC dI sV k as S I J r Q)
    (hnx : ∀ (pc : Nat) (L st : XV) (S : XS) (I : XI) (J : XJ) (r : XR) (cu su : Nat), nx pc L st S I J r cu su → XW p l e9 Rm s m args below meth c dC dI A a0 n0 sV nL mc ms Zf pc L st S I J r cu su)
    (hret : ∀ (pc : Nat) (L : XV) (cu su : Nat) (v : Option Value) (S : XS) (I : XI) (J : XJ) (r : XR), Q v S I J r → xretOk rt v → decode cc pc = .ok (xri v, 1) → XW p l e9 Rm s m args below meth c dC dI A a0 n0 sV nL mc ms Zf pc L v.toList S I J r cu su) {len a b d h n e : Nat} {z : Int32} {w : Int64} (hK : ∀ (L st : XV) (S : XS) (I : XI) (J : XJ) (r : XR) (cu su : Nat), K L st S I J r cu su → XW p l e9 Rm s m args below meth c dC dI A a0 n0 sV nL mc ms Zf (pc + len) L st S I J r cu su) (hok : ck21 own cc nL rt ini law pc len a b d h n e z w = true) (hst : xst sc cl nx Q mc ms K (21, len, a, b, d, h, n, e, z, w) L st S I J r cu su) : XW p l e9 Rm s m args below meth c dC dI A a0 n0 sV nL mc ms Zf pc L st S I J r cu su := by
  unfold ck21 at hok
  simp only [Bool.or_eq_true, Bool.and_eq_true, beq_iff_eq, decide_eq_true_eq, Bool.not_eq_true'] at hok
  obtain ⟨rfl, h3⟩ := hok
  simp only [xst] at hst
  split at hst
  · exact xs_pop F hst.1 (xdec_ok h3) (hK _ _ _ _ _ _ _ _ hst.2)
  · exact hst.elim
theorem xi_22 (F : XFx p s m meth c args Rm cc own nL ini law sc mc ms A sV) {rt : Option FieldType} {d0 : Nat} {cl : XC} {nx : XN} {Q : XQ} (hfr : d0 + 1 ≤ Rm.frames) (hlo : 40 * (d0 + 1) ≤ Rm.locals)
    (hcl : ∀ (k : Nat) (as : XV) (S : XS) (I : XI) (J : XJ) (r : XR) (Q : XQ), cl k as S I J r Q → XMt l d0 dC dI sV k as S I J r Q)
    (hnx : ∀ (pc : Nat) (L st : XV) (S : XS) (I : XI) (J : XJ) (r : XR) (cu su : Nat), nx pc L st S I J r cu su → XW p l e9 Rm s m args below meth c dC dI A a0 n0 sV nL mc ms Zf pc L st S I J r cu su)
    (hret : ∀ (pc : Nat) (L : XV) (cu su : Nat) (v : Option Value) (S : XS) (I : XI) (J : XJ) (r : XR), Q v S I J r → xretOk rt v → decode cc pc = .ok (xri v, 1) → XW p l e9 Rm s m args below meth c dC dI A a0 n0 sV nL mc ms Zf pc L v.toList S I J r cu su) {len a b d h n e : Nat} {z : Int32} {w : Int64} (hK : ∀ (L st : XV) (S : XS) (I : XI) (J : XJ) (r : XR) (cu su : Nat), K L st S I J r cu su → XW p l e9 Rm s m args below meth c dC dI A a0 n0 sV nL mc ms Zf (pc + len) L st S I J r cu su) (hok : ck22 own cc nL rt ini law pc len a b d h n e z w = true) (hst : xst sc cl nx Q mc ms K (22, len, a, b, d, h, n, e, z, w) L st S I J r cu su) : XW p l e9 Rm s m args below meth c dC dI A a0 n0 sV nL mc ms Zf pc L st S I J r cu su := by
  unfold ck22 at hok
  simp only [Bool.or_eq_true, Bool.and_eq_true, beq_iff_eq, decide_eq_true_eq, Bool.not_eq_true'] at hok
  obtain ⟨⟨rfl, h2⟩, h3⟩ := hok
  simp only [xst] at hst
  split at hst
  · exact xs_if F h2 (xdec_ok h3) (by omega) (fun q => hnx _ _ _ _ _ _ _ _ _ (hst.1 q)) (fun q => hK _ _ _ _ _ _ _ _ (hst.2 q))
  · exact hst.elim
theorem xi_23 (F : XFx p s m meth c args Rm cc own nL ini law sc mc ms A sV) {rt : Option FieldType} {d0 : Nat} {cl : XC} {nx : XN} {Q : XQ} (hfr : d0 + 1 ≤ Rm.frames) (hlo : 40 * (d0 + 1) ≤ Rm.locals)
    (hcl : ∀ (k : Nat) (as : XV) (S : XS) (I : XI) (J : XJ) (r : XR) (Q : XQ), cl k as S I J r Q → XMt l d0 dC dI sV k as S I J r Q)
    (hnx : ∀ (pc : Nat) (L st : XV) (S : XS) (I : XI) (J : XJ) (r : XR) (cu su : Nat), nx pc L st S I J r cu su → XW p l e9 Rm s m args below meth c dC dI A a0 n0 sV nL mc ms Zf pc L st S I J r cu su)
    (hret : ∀ (pc : Nat) (L : XV) (cu su : Nat) (v : Option Value) (S : XS) (I : XI) (J : XJ) (r : XR), Q v S I J r → xretOk rt v → decode cc pc = .ok (xri v, 1) → XW p l e9 Rm s m args below meth c dC dI A a0 n0 sV nL mc ms Zf pc L v.toList S I J r cu su) {len a b d h n e : Nat} {z : Int32} {w : Int64} (hK : ∀ (L st : XV) (S : XS) (I : XI) (J : XJ) (r : XR) (cu su : Nat), K L st S I J r cu su → XW p l e9 Rm s m args below meth c dC dI A a0 n0 sV nL mc ms Zf (pc + len) L st S I J r cu su) (hok : ck23 own cc nL rt ini law pc len a b d h n e z w = true) (hst : xst sc cl nx Q mc ms K (23, len, a, b, d, h, n, e, z, w) L st S I J r cu su) : XW p l e9 Rm s m args below meth c dC dI A a0 n0 sV nL mc ms Zf pc L st S I J r cu su := by
  unfold ck23 at hok
  simp only [Bool.or_eq_true, Bool.and_eq_true, beq_iff_eq, decide_eq_true_eq, Bool.not_eq_true'] at hok
  obtain ⟨⟨rfl, h2⟩, h3⟩ := hok
  simp only [xst] at hst
  split at hst
  · exact xs_icmp F h2 (xdec_ok h3) (by omega) (fun q => hnx _ _ _ _ _ _ _ _ _ (hst.1 q)) (fun q => hK _ _ _ _ _ _ _ _ (hst.2 q))
  · exact hst.elim
theorem xi_24 (F : XFx p s m meth c args Rm cc own nL ini law sc mc ms A sV) {rt : Option FieldType} {d0 : Nat} {cl : XC} {nx : XN} {Q : XQ} (hfr : d0 + 1 ≤ Rm.frames) (hlo : 40 * (d0 + 1) ≤ Rm.locals)
    (hcl : ∀ (k : Nat) (as : XV) (S : XS) (I : XI) (J : XJ) (r : XR) (Q : XQ), cl k as S I J r Q → XMt l d0 dC dI sV k as S I J r Q)
    (hnx : ∀ (pc : Nat) (L st : XV) (S : XS) (I : XI) (J : XJ) (r : XR) (cu su : Nat), nx pc L st S I J r cu su → XW p l e9 Rm s m args below meth c dC dI A a0 n0 sV nL mc ms Zf pc L st S I J r cu su)
    (hret : ∀ (pc : Nat) (L : XV) (cu su : Nat) (v : Option Value) (S : XS) (I : XI) (J : XJ) (r : XR), Q v S I J r → xretOk rt v → decode cc pc = .ok (xri v, 1) → XW p l e9 Rm s m args below meth c dC dI A a0 n0 sV nL mc ms Zf pc L v.toList S I J r cu su) {len a b d h n e : Nat} {z : Int32} {w : Int64} (hK : ∀ (L st : XV) (S : XS) (I : XI) (J : XJ) (r : XR) (cu su : Nat), K L st S I J r cu su → XW p l e9 Rm s m args below meth c dC dI A a0 n0 sV nL mc ms Zf (pc + len) L st S I J r cu su) (hok : ck24 own cc nL rt ini law pc len a b d h n e z w = true) (hst : xst sc cl nx Q mc ms K (24, len, a, b, d, h, n, e, z, w) L st S I J r cu su) : XW p l e9 Rm s m args below meth c dC dI A a0 n0 sV nL mc ms Zf pc L st S I J r cu su := by
  unfold ck24 at hok
  simp only [Bool.or_eq_true, Bool.and_eq_true, beq_iff_eq, decide_eq_true_eq, Bool.not_eq_true'] at hok
  rcases hok with ⟨h1, rfl⟩ | ⟨⟨h1, h2⟩, h3⟩
  · exact hnx _ _ _ _ _ _ _ _ _ hst
  · exact xs_goto F (xdec_ok h3) (by omega) (hnx _ _ _ _ _ _ _ _ _ hst)
theorem xi_25 (F : XFx p s m meth c args Rm cc own nL ini law sc mc ms A sV) {rt : Option FieldType} {d0 : Nat} {cl : XC} {nx : XN} {Q : XQ} (hfr : d0 + 1 ≤ Rm.frames) (hlo : 40 * (d0 + 1) ≤ Rm.locals)
    (hcl : ∀ (k : Nat) (as : XV) (S : XS) (I : XI) (J : XJ) (r : XR) (Q : XQ), cl k as S I J r Q → XMt l d0 dC dI sV k as S I J r Q)
    (hnx : ∀ (pc : Nat) (L st : XV) (S : XS) (I : XI) (J : XJ) (r : XR) (cu su : Nat), nx pc L st S I J r cu su → XW p l e9 Rm s m args below meth c dC dI A a0 n0 sV nL mc ms Zf pc L st S I J r cu su)
    (hret : ∀ (pc : Nat) (L : XV) (cu su : Nat) (v : Option Value) (S : XS) (I : XI) (J : XJ) (r : XR), Q v S I J r → xretOk rt v → decode cc pc = .ok (xri v, 1) → XW p l e9 Rm s m args below meth c dC dI A a0 n0 sV nL mc ms Zf pc L v.toList S I J r cu su) {len a b d h n e : Nat} {z : Int32} {w : Int64} (hK : ∀ (L st : XV) (S : XS) (I : XI) (J : XJ) (r : XR) (cu su : Nat), K L st S I J r cu su → XW p l e9 Rm s m args below meth c dC dI A a0 n0 sV nL mc ms Zf (pc + len) L st S I J r cu su) (hok : ck25 own cc nL rt ini law pc len a b d h n e z w = true) (hst : xst sc cl nx Q mc ms K (25, len, a, b, d, h, n, e, z, w) L st S I J r cu su) : XW p l e9 Rm s m args below meth c dC dI A a0 n0 sV nL mc ms Zf pc L st S I J r cu su := by
  unfold ck25 at hok
  simp only [Bool.or_eq_true, Bool.and_eq_true, beq_iff_eq, decide_eq_true_eq, Bool.not_eq_true'] at hok
  obtain ⟨rfl, hok⟩ := hok
  simp only [xst] at hst
  rcases hok with ⟨rfl, h3⟩ | ⟨rfl, h3⟩
  · rcases st with _ | ⟨v, st⟩
    · exact hst.elim
    cases v with
    | null => exact xs_ifnull_N (a := a) (x := 0) F (xdec_ok h3) (by omega) (hnx _ _ _ _ _ _ _ _ _ hst)
    | ref x => exact xs_ifnull_R (a := a) F (xdec_ok h3) (by omega) (hK _ _ _ _ _ _ _ _ hst)
    | _ => exact hst.elim
  · rcases st with _ | ⟨v, st⟩
    · exact hst.elim
    cases v with
    | null => exact xs_ifnonnull_N (a := a) (x := 0) F (xdec_ok h3) (by omega) (hK _ _ _ _ _ _ _ _ hst)
    | ref x => exact xs_ifnonnull_R (a := a) F (xdec_ok h3) (by omega) (hnx _ _ _ _ _ _ _ _ _ hst)
    | _ => exact hst.elim
theorem xi_26 (F : XFx p s m meth c args Rm cc own nL ini law sc mc ms A sV) {rt : Option FieldType} {d0 : Nat} {cl : XC} {nx : XN} {Q : XQ} (hfr : d0 + 1 ≤ Rm.frames) (hlo : 40 * (d0 + 1) ≤ Rm.locals)
    (hcl : ∀ (k : Nat) (as : XV) (S : XS) (I : XI) (J : XJ) (r : XR) (Q : XQ), cl k as S I J r Q → XMt l d0 dC dI sV k as S I J r Q)
    (hnx : ∀ (pc : Nat) (L st : XV) (S : XS) (I : XI) (J : XJ) (r : XR) (cu su : Nat), nx pc L st S I J r cu su → XW p l e9 Rm s m args below meth c dC dI A a0 n0 sV nL mc ms Zf pc L st S I J r cu su)
    (hret : ∀ (pc : Nat) (L : XV) (cu su : Nat) (v : Option Value) (S : XS) (I : XI) (J : XJ) (r : XR), Q v S I J r → xretOk rt v → decode cc pc = .ok (xri v, 1) → XW p l e9 Rm s m args below meth c dC dI A a0 n0 sV nL mc ms Zf pc L v.toList S I J r cu su) {len a b d h n e : Nat} {z : Int32} {w : Int64} (hK : ∀ (L st : XV) (S : XS) (I : XI) (J : XJ) (r : XR) (cu su : Nat), K L st S I J r cu su → XW p l e9 Rm s m args below meth c dC dI A a0 n0 sV nL mc ms Zf (pc + len) L st S I J r cu su) (hok : ck26 own cc nL rt ini law pc len a b d h n e z w = true) (hst : xst sc cl nx Q mc ms K (26, len, a, b, d, h, n, e, z, w) L st S I J r cu su) : XW p l e9 Rm s m args below meth c dC dI A a0 n0 sV nL mc ms Zf pc L st S I J r cu su := by
  unfold ck26 at hok
  simp only [xst] at hst
  split at hst
  · have k1 := hnx _ _ _ _ _ _ _ _ _ (xsw_swt _ hst)
    split at hok
    · rename_i df lo hi offs l9 hdec
      simp only [Bool.and_eq_true, decide_eq_true_eq] at hok
      obtain ⟨⟨h1, h2⟩, h3⟩ := hok
      refine xs_tsw F hdec h1 h2 (fun j hj => ?_) k1
      have h4 := List.all_eq_true.mp h3 j (List.mem_range.mpr hj)
      rw [Bool.and_eq_true] at h4
      refine ⟨of_decide_eq_true h4.1, ?_⟩
      cases hx : offs[j]? with
      | none => rw [hx] at h4; cases h4.2
      | some off => rw [hx] at h4; exact ⟨off, rfl, of_decide_eq_true h4.2⟩
    · rename_i df ps l9 hdec
      simp only [Bool.and_eq_true, decide_eq_true_eq] at hok
      exact xs_lsw F hdec hok.1.1 hok.1.2 hok.2 k1
    · cases hok
  · exact hst.elim
theorem xi_27 (F : XFx p s m meth c args Rm cc own nL ini law sc mc ms A sV) {rt : Option FieldType} {d0 : Nat} {cl : XC} {nx : XN} {Q : XQ} (hfr : d0 + 1 ≤ Rm.frames) (hlo : 40 * (d0 + 1) ≤ Rm.locals)
    (hcl : ∀ (k : Nat) (as : XV) (S : XS) (I : XI) (J : XJ) (r : XR) (Q : XQ), cl k as S I J r Q → XMt l d0 dC dI sV k as S I J r Q)
    (hnx : ∀ (pc : Nat) (L st : XV) (S : XS) (I : XI) (J : XJ) (r : XR) (cu su : Nat), nx pc L st S I J r cu su → XW p l e9 Rm s m args below meth c dC dI A a0 n0 sV nL mc ms Zf pc L st S I J r cu su)
    (hret : ∀ (pc : Nat) (L : XV) (cu su : Nat) (v : Option Value) (S : XS) (I : XI) (J : XJ) (r : XR), Q v S I J r → xretOk rt v → decode cc pc = .ok (xri v, 1) → XW p l e9 Rm s m args below meth c dC dI A a0 n0 sV nL mc ms Zf pc L v.toList S I J r cu su) {len a b d h n e : Nat} {z : Int32} {w : Int64} (hK : ∀ (L st : XV) (S : XS) (I : XI) (J : XJ) (r : XR) (cu su : Nat), K L st S I J r cu su → XW p l e9 Rm s m args below meth c dC dI A a0 n0 sV nL mc ms Zf (pc + len) L st S I J r cu su) (hok : ck27 own cc nL rt ini law pc len a b d h n e z w = true) (hst : xst sc cl nx Q mc ms K (27, len, a, b, d, h, n, e, z, w) L st S I J r cu su) : XW p l e9 Rm s m args below meth c dC dI A a0 n0 sV nL mc ms Zf pc L st S I J r cu su := by
  unfold ck27 at hok
  simp only [Bool.or_eq_true, Bool.and_eq_true, beq_iff_eq, decide_eq_true_eq, Bool.not_eq_true'] at hok
  obtain ⟨-, hok⟩ := hok
  simp only [xst] at hst
  rcases hok with ((((⟨⟨rfl, h1⟩, h2⟩ | ⟨⟨rfl, h1⟩, h2⟩) | ⟨⟨rfl, h1⟩, h2⟩) | ⟨⟨rfl, h1⟩, h2⟩) | ⟨⟨rfl, h1⟩, h2⟩) | ⟨⟨rfl, h1⟩, h2⟩
  · rcases st with _ | ⟨v, _ | ⟨u, st⟩⟩
    · exact hst.elim
    · cases v <;> first | exact hst.elim | skip
      rename_i x
      exact hret pc L cu su (some (.int x)) _ _ _ _ hst (by rw [h1]; rfl) (xdec_ok h2)
    · cases v <;> exact hst.elim
  · rcases st with _ | ⟨v, _ | ⟨u, st⟩⟩
    · exact hst.elim
    · cases v <;> first | exact hst.elim | skip
      rename_i x
      exact hret pc L cu su (some (.int x)) _ _ _ _ hst.2 (by rw [h1]; rcases hst.1 with e | e <;> rw [e] <;> rfl) (xdec_ok h2)
    · cases v <;> exact hst.elim
  · rcases st with _ | ⟨v, _ | ⟨u, st⟩⟩
    · exact hst.elim
    · cases v <;> first | exact hst.elim | skip
      rename_i x
      exact hret pc L cu su (some (.long x)) _ _ _ _ hst (by rw [h1]; trivial) (xdec_ok h2)
    · cases v <;> exact hst.elim
  · rcases st with _ | ⟨v, st⟩
    · exact hret pc L cu su none _ _ _ _ hst (by rw [h1]; trivial) (xdec_ok h2)
    · cases v <;> exact hst.elim
  · rcases st with _ | ⟨v, _ | ⟨u, st⟩⟩
    · exact hst.elim
    · cases v <;> first | exact hst.elim | skip
      rename_i x
      exact hret pc L cu su (some (.int x)) _ _ _ _ hst.2 (by rw [h1]; exact congrArg Value.int hst.1) (xdec_ok h2)
    · cases v <;> exact hst.elim
  · rcases st with _ | ⟨v, _ | ⟨u, st⟩⟩
    · exact hst.elim
    · cases v <;> first | exact hst.elim | skip
      rename_i x
      exact hret pc L cu su (some (.int x)) _ _ _ _ hst.2 (by rw [h1]; exact congrArg Value.int hst.1) (xdec_ok h2)
    · cases v <;> exact hst.elim
theorem xi_28 (F : XFx p s m meth c args Rm cc own nL ini law sc mc ms A sV) {rt : Option FieldType} {d0 : Nat} {cl : XC} {nx : XN} {Q : XQ} (hfr : d0 + 1 ≤ Rm.frames) (hlo : 40 * (d0 + 1) ≤ Rm.locals)
    (hcl : ∀ (k : Nat) (as : XV) (S : XS) (I : XI) (J : XJ) (r : XR) (Q : XQ), cl k as S I J r Q → XMt l d0 dC dI sV k as S I J r Q)
    (hnx : ∀ (pc : Nat) (L st : XV) (S : XS) (I : XI) (J : XJ) (r : XR) (cu su : Nat), nx pc L st S I J r cu su → XW p l e9 Rm s m args below meth c dC dI A a0 n0 sV nL mc ms Zf pc L st S I J r cu su)
    (hret : ∀ (pc : Nat) (L : XV) (cu su : Nat) (v : Option Value) (S : XS) (I : XI) (J : XJ) (r : XR), Q v S I J r → xretOk rt v → decode cc pc = .ok (xri v, 1) → XW p l e9 Rm s m args below meth c dC dI A a0 n0 sV nL mc ms Zf pc L v.toList S I J r cu su) {len a b d h n e : Nat} {z : Int32} {w : Int64} (hK : ∀ (L st : XV) (S : XS) (I : XI) (J : XJ) (r : XR) (cu su : Nat), K L st S I J r cu su → XW p l e9 Rm s m args below meth c dC dI A a0 n0 sV nL mc ms Zf (pc + len) L st S I J r cu su) (hok : ck28 own cc nL rt ini law pc len a b d h n e z w = true) (hst : xst sc cl nx Q mc ms K (28, len, a, b, d, h, n, e, z, w) L st S I J r cu su) : XW p l e9 Rm s m args below meth c dC dI A a0 n0 sV nL mc ms Zf pc L st S I J r cu su := by
  unfold ck28 at hok
  simp only [Bool.or_eq_true, Bool.and_eq_true, beq_iff_eq, decide_eq_true_eq, Bool.not_eq_true'] at hok
  obtain ⟨⟨⟨rfl, h1⟩, h2⟩, h3⟩ := hok
  exact xs_new F h1 (xw_in h2) (okK_in h1).1 (okK_in h1).2 (xdec_ok h3) hst.1 hst.2.1 (hK _ _ _ _ _ _ _ _ hst.2.2)
theorem xi_29 (F : XFx p s m meth c args Rm cc own nL ini law sc mc ms A sV) {rt : Option FieldType} {d0 : Nat} {cl : XC} {nx : XN} {Q : XQ} (hfr : d0 + 1 ≤ Rm.frames) (hlo : 40 * (d0 + 1) ≤ Rm.locals)
    (hcl : ∀ (k : Nat) (as : XV) (S : XS) (I : XI) (J : XJ) (r : XR) (Q : XQ), cl k as S I J r Q → XMt l d0 dC dI sV k as S I J r Q)
    (hnx : ∀ (pc : Nat) (L st : XV) (S : XS) (I : XI) (J : XJ) (r : XR) (cu su : Nat), nx pc L st S I J r cu su → XW p l e9 Rm s m args below meth c dC dI A a0 n0 sV nL mc ms Zf pc L st S I J r cu su)
    (hret : ∀ (pc : Nat) (L : XV) (cu su : Nat) (v : Option Value) (S : XS) (I : XI) (J : XJ) (r : XR), Q v S I J r → xretOk rt v → decode cc pc = .ok (xri v, 1) → XW p l e9 Rm s m args below meth c dC dI A a0 n0 sV nL mc ms Zf pc L v.toList S I J r cu su) {len a b d h n e : Nat} {z : Int32} {w : Int64} (hK : ∀ (L st : XV) (S : XS) (I : XI) (J : XJ) (r : XR) (cu su : Nat), K L st S I J r cu su → XW p l e9 Rm s m args below meth c dC dI A a0 n0 sV nL mc ms Zf (pc + len) L st S I J r cu su) (hok : ck29 own cc nL rt ini law pc len a b d h n e z w = true) (hst : xst sc cl nx Q mc ms K (29, len, a, b, d, h, n, e, z, w) L st S I J r cu su) : XW p l e9 Rm s m args below meth c dC dI A a0 n0 sV nL mc ms Zf pc L st S I J r cu su := by
  unfold ck29 at hok
  simp only [Bool.or_eq_true, Bool.and_eq_true, beq_iff_eq, decide_eq_true_eq, Bool.not_eq_true'] at hok
  obtain ⟨rfl, hok⟩ := hok
  simp only [xst] at hst
  split at hst
  · obtain ⟨g1, g2, g3, g4, hst⟩ := hst
    rcases hok with (⟨rfl, h3⟩ | ⟨rfl, h3⟩) | ⟨rfl, h3⟩
    · exact xs_newa (atype := .int) F rfl (Or.inl rfl) xc_ai (xdec_ok h3) g1 g2 g3 g4 (hK _ _ _ _ _ _ _ _ hst)
    · exact xs_newa (atype := .long) F rfl (Or.inr (Or.inl rfl)) xc_al (xdec_ok h3) g1 g2 g3 g4 (hK _ _ _ _ _ _ _ _ hst)
    · exact xs_newa (atype := .byte) F rfl (Or.inr (Or.inr rfl)) xc_ab (xdec_ok h3) g1 g2 g3 g4 (hK _ _ _ _ _ _ _ _ hst)
  · exact hst.elim
theorem xi_30 (F : XFx p s m meth c args Rm cc own nL ini law sc mc ms A sV) {rt : Option FieldType} {d0 : Nat} {cl : XC} {nx : XN} {Q : XQ} (hfr : d0 + 1 ≤ Rm.frames) (hlo : 40 * (d0 + 1) ≤ Rm.locals)
    (hcl : ∀ (k : Nat) (as : XV) (S : XS) (I : XI) (J : XJ) (r : XR) (Q : XQ), cl k as S I J r Q → XMt l d0 dC dI sV k as S I J r Q)
    (hnx : ∀ (pc : Nat) (L st : XV) (S : XS) (I : XI) (J : XJ) (r : XR) (cu su : Nat), nx pc L st S I J r cu su → XW p l e9 Rm s m args below meth c dC dI A a0 n0 sV nL mc ms Zf pc L st S I J r cu su)
    (hret : ∀ (pc : Nat) (L : XV) (cu su : Nat) (v : Option Value) (S : XS) (I : XI) (J : XJ) (r : XR), Q v S I J r → xretOk rt v → decode cc pc = .ok (xri v, 1) → XW p l e9 Rm s m args below meth c dC dI A a0 n0 sV nL mc ms Zf pc L v.toList S I J r cu su) {len a b d h n e : Nat} {z : Int32} {w : Int64} (hK : ∀ (L st : XV) (S : XS) (I : XI) (J : XJ) (r : XR) (cu su : Nat), K L st S I J r cu su → XW p l e9 Rm s m args below meth c dC dI A a0 n0 sV nL mc ms Zf (pc + len) L st S I J r cu su) (hok : ck30 own cc nL rt ini law pc len a b d h n e z w = true) (hst : xst sc cl nx Q mc ms K (30, len, a, b, d, h, n, e, z, w) L st S I J r cu su) : XW p l e9 Rm s m args below meth c dC dI A a0 n0 sV nL mc ms Zf pc L st S I J r cu su := by
  unfold ck30 at hok
  simp only [Bool.or_eq_true, Bool.and_eq_true, beq_iff_eq, decide_eq_true_eq, Bool.not_eq_true'] at hok
  obtain ⟨⟨rfl, h2⟩, h3⟩ := hok
  simp only [xst] at hst
  split at hst
  · obtain ⟨g1, g2, g3, g4, hst⟩ := hst
    exact xs_anewa F (xw_in h2) (xdec_ok h3) g1 g2 g3 g4 (hK _ _ _ _ _ _ _ _ hst)
  · exact hst.elim
theorem xi_31 (F : XFx p s m meth c args Rm cc own nL ini law sc mc ms A sV) {rt : Option FieldType} {d0 : Nat} {cl : XC} {nx : XN} {Q : XQ} (hfr : d0 + 1 ≤ Rm.frames) (hlo : 40 * (d0 + 1) ≤ Rm.locals)
    (hcl : ∀ (k : Nat) (as : XV) (S : XS) (I : XI) (J : XJ) (r : XR) (Q : XQ), cl k as S I J r Q → XMt l d0 dC dI sV k as S I J r Q)
    (hnx : ∀ (pc : Nat) (L st : XV) (S : XS) (I : XI) (J : XJ) (r : XR) (cu su : Nat), nx pc L st S I J r cu su → XW p l e9 Rm s m args below meth c dC dI A a0 n0 sV nL mc ms Zf pc L st S I J r cu su)
    (hret : ∀ (pc : Nat) (L : XV) (cu su : Nat) (v : Option Value) (S : XS) (I : XI) (J : XJ) (r : XR), Q v S I J r → xretOk rt v → decode cc pc = .ok (xri v, 1) → XW p l e9 Rm s m args below meth c dC dI A a0 n0 sV nL mc ms Zf pc L v.toList S I J r cu su) {len a b d h n e : Nat} {z : Int32} {w : Int64} (hK : ∀ (L st : XV) (S : XS) (I : XI) (J : XJ) (r : XR) (cu su : Nat), K L st S I J r cu su → XW p l e9 Rm s m args below meth c dC dI A a0 n0 sV nL mc ms Zf (pc + len) L st S I J r cu su) (hok : ck31 own cc nL rt ini law pc len a b d h n e z w = true) (hst : xst sc cl nx Q mc ms K (31, len, a, b, d, h, n, e, z, w) L st S I J r cu su) : XW p l e9 Rm s m args below meth c dC dI A a0 n0 sV nL mc ms Zf pc L st S I J r cu su := by
  unfold ck31 at hok
  simp only [Bool.or_eq_true, Bool.and_eq_true, beq_iff_eq, decide_eq_true_eq, Bool.not_eq_true'] at hok
  obtain ⟨⟨rfl, h2⟩, h3⟩ := hok
  simp only [xst] at hst
  split at hst
  · obtain ⟨⟨q0, n1, g1⟩, rfl, rfl, g4, g5, hst⟩ := hst
    exact xs_mna F (xw_in h2) xc_al (xdec_ok h3) g1 g4 g5 (hK _ _ _ _ _ _ _ _ hst)
  · exact hst.elim
theorem xi_32 (F : XFx p s m meth c args Rm cc own nL ini law sc mc ms A sV) {rt : Option FieldType} {d0 : Nat} {cl : XC} {nx : XN} {Q : XQ} (hfr : d0 + 1 ≤ Rm.frames) (hlo : 40 * (d0 + 1) ≤ Rm.locals)
    (hcl : ∀ (k : Nat) (as : XV) (S : XS) (I : XI) (J : XJ) (r : XR) (Q : XQ), cl k as S I J r Q → XMt l d0 dC dI sV k as S I J r Q)
    (hnx : ∀ (pc : Nat) (L st : XV) (S : XS) (I : XI) (J : XJ) (r : XR) (cu su : Nat), nx pc L st S I J r cu su → XW p l e9 Rm s m args below meth c dC dI A a0 n0 sV nL mc ms Zf pc L st S I J r cu su)
    (hret : ∀ (pc : Nat) (L : XV) (cu su : Nat) (v : Option Value) (S : XS) (I : XI) (J : XJ) (r : XR), Q v S I J r → xretOk rt v → decode cc pc = .ok (xri v, 1) → XW p l e9 Rm s m args below meth c dC dI A a0 n0 sV nL mc ms Zf pc L v.toList S I J r cu su) {len a b d h n e : Nat} {z : Int32} {w : Int64} (hK : ∀ (L st : XV) (S : XS) (I : XI) (J : XJ) (r : XR) (cu su : Nat), K L st S I J r cu su → XW p l e9 Rm s m args below meth c dC dI A a0 n0 sV nL mc ms Zf (pc + len) L st S I J r cu su) (hok : ck32 own cc nL rt ini law pc len a b d h n e z w = true) (hst : xst sc cl nx Q mc ms K (32, len, a, b, d, h, n, e, z, w) L st S I J r cu su) : XW p l e9 Rm s m args below meth c dC dI A a0 n0 sV nL mc ms Zf pc L st S I J r cu su := by
  unfold ck32 at hok
  simp only [Bool.or_eq_true, Bool.and_eq_true, beq_iff_eq, decide_eq_true_eq, Bool.not_eq_true'] at hok
  obtain ⟨rfl, h3⟩ := hok
  simp only [xst] at hst
  split at hst
  · obtain ⟨t, n, g1, g2, hst⟩ := hst
    exact xs_alen F g1 g2 (xdec_ok h3) (hK _ _ _ _ _ _ _ _ hst)
  · exact hst.elim
theorem xi_33 (F : XFx p s m meth c args Rm cc own nL ini law sc mc ms A sV) {rt : Option FieldType} {d0 : Nat} {cl : XC} {nx : XN} {Q : XQ} (hfr : d0 + 1 ≤ Rm.frames) (hlo : 40 * (d0 + 1) ≤ Rm.locals)
    (hcl : ∀ (k : Nat) (as : XV) (S : XS) (I : XI) (J : XJ) (r : XR) (Q : XQ), cl k as S I J r Q → XMt l d0 dC dI sV k as S I J r Q)
    (hnx : ∀ (pc : Nat) (L st : XV) (S : XS) (I : XI) (J : XJ) (r : XR) (cu su : Nat), nx pc L st S I J r cu su → XW p l e9 Rm s m args below meth c dC dI A a0 n0 sV nL mc ms Zf pc L st S I J r cu su)
    (hret : ∀ (pc : Nat) (L : XV) (cu su : Nat) (v : Option Value) (S : XS) (I : XI) (J : XJ) (r : XR), Q v S I J r → xretOk rt v → decode cc pc = .ok (xri v, 1) → XW p l e9 Rm s m args below meth c dC dI A a0 n0 sV nL mc ms Zf pc L v.toList S I J r cu su) {len a b d h n e : Nat} {z : Int32} {w : Int64} (hK : ∀ (L st : XV) (S : XS) (I : XI) (J : XJ) (r : XR) (cu su : Nat), K L st S I J r cu su → XW p l e9 Rm s m args below meth c dC dI A a0 n0 sV nL mc ms Zf (pc + len) L st S I J r cu su) (hok : ck33 own cc nL rt ini law pc len a b d h n e z w = true) (hst : xst sc cl nx Q mc ms K (33, len, a, b, d, h, n, e, z, w) L st S I J r cu su) : XW p l e9 Rm s m args below meth c dC dI A a0 n0 sV nL mc ms Zf pc L st S I J r cu su := by
  unfold ck33 at hok
  simp only [Bool.or_eq_true, Bool.and_eq_true, beq_iff_eq, decide_eq_true_eq, Bool.not_eq_true'] at hok
  obtain ⟨rfl, h3⟩ := hok
  simp only [xst] at hst
  split at hst
  · obtain ⟨n, g1, g2, hst⟩ := hst
    exact xs_iald F g1 g2 (xdec_ok h3) (hK _ _ _ _ _ _ _ _ hst)
  · exact hst.elim
theorem xi_34 (F : XFx p s m meth c args Rm cc own nL ini law sc mc ms A sV) {rt : Option FieldType} {d0 : Nat} {cl : XC} {nx : XN} {Q : XQ} (hfr : d0 + 1 ≤ Rm.frames) (hlo : 40 * (d0 + 1) ≤ Rm.locals)
    (hcl : ∀ (k : Nat) (as : XV) (S : XS) (I : XI) (J : XJ) (r : XR) (Q : XQ), cl k as S I J r Q → XMt l d0 dC dI sV k as S I J r Q)
    (hnx : ∀ (pc : Nat) (L st : XV) (S : XS) (I : XI) (J : XJ) (r : XR) (cu su : Nat), nx pc L st S I J r cu su → XW p l e9 Rm s m args below meth c dC dI A a0 n0 sV nL mc ms Zf pc L st S I J r cu su)
    (hret : ∀ (pc : Nat) (L : XV) (cu su : Nat) (v : Option Value) (S : XS) (I : XI) (J : XJ) (r : XR), Q v S I J r → xretOk rt v → decode cc pc = .ok (xri v, 1) → XW p l e9 Rm s m args below meth c dC dI A a0 n0 sV nL mc ms Zf pc L v.toList S I J r cu su) {len a b d h n e : Nat} {z : Int32} {w : Int64} (hK : ∀ (L st : XV) (S : XS) (I : XI) (J : XJ) (r : XR) (cu su : Nat), K L st S I J r cu su → XW p l e9 Rm s m args below meth c dC dI A a0 n0 sV nL mc ms Zf (pc + len) L st S I J r cu su) (hok : ck34 own cc nL rt ini law pc len a b d h n e z w = true) (hst : xst sc cl nx Q mc ms K (34, len, a, b, d, h, n, e, z, w) L st S I J r cu su) : XW p l e9 Rm s m args below meth c dC dI A a0 n0 sV nL mc ms Zf pc L st S I J r cu su := by
  unfold ck34 at hok
  simp only [Bool.or_eq_true, Bool.and_eq_true, beq_iff_eq, decide_eq_true_eq, Bool.not_eq_true'] at hok
  obtain ⟨rfl, h3⟩ := hok
  simp only [xst] at hst
  split at hst
  · obtain ⟨n, g1, g2, hst⟩ := hst
    exact xs_iast F g1 g2 (xdec_ok h3) (hK _ _ _ _ _ _ _ _ hst)
  · exact hst.elim
theorem xi_35 (F : XFx p s m meth c args Rm cc own nL ini law sc mc ms A sV) {rt : Option FieldType} {d0 : Nat} {cl : XC} {nx : XN} {Q : XQ} (hfr : d0 + 1 ≤ Rm.frames) (hlo : 40 * (d0 + 1) ≤ Rm.locals)
    (hcl : ∀ (k : Nat) (as : XV) (S : XS) (I : XI) (J : XJ) (r : XR) (Q : XQ), cl k as S I J r Q → XMt l d0 dC dI sV k as S I J r Q)
    (hnx : ∀ (pc : Nat) (L st : XV) (S : XS) (I : XI) (J : XJ) (r : XR) (cu su : Nat), nx pc L st S I J r cu su → XW p l e9 Rm s m args below meth c dC dI A a0 n0 sV nL mc ms Zf pc L st S I J r cu su)
    (hret : ∀ (pc : Nat) (L : XV) (cu su : Nat) (v : Option Value) (S : XS) (I : XI) (J : XJ) (r : XR), Q v S I J r → xretOk rt v → decode cc pc = .ok (xri v, 1) → XW p l e9 Rm s m args below meth c dC dI A a0 n0 sV nL mc ms Zf pc L v.toList S I J r cu su) {len a b d h n e : Nat} {z : Int32} {w : Int64} (hK : ∀ (L st : XV) (S : XS) (I : XI) (J : XJ) (r : XR) (cu su : Nat), K L st S I J r cu su → XW p l e9 Rm s m args below meth c dC dI A a0 n0 sV nL mc ms Zf (pc + len) L st S I J r cu su) (hok : ck35 own cc nL rt ini law pc len a b d h n e z w = true) (hst : xst sc cl nx Q mc ms K (35, len, a, b, d, h, n, e, z, w) L st S I J r cu su) : XW p l e9 Rm s m args below meth c dC dI A a0 n0 sV nL mc ms Zf pc L st S I J r cu su := by
  unfold ck35 at hok
  simp only [Bool.or_eq_true, Bool.and_eq_true, beq_iff_eq, decide_eq_true_eq, Bool.not_eq_true'] at hok
  obtain ⟨rfl, h3⟩ := hok
  simp only [xst] at hst
  split at hst
  · obtain ⟨n, g1, g2, hst⟩ := hst
    exact xs_lald F g1 g2 (xdec_ok h3) (hK _ _ _ _ _ _ _ _ hst)
  · exact hst.elim
theorem xi_36 (F : XFx p s m meth c args Rm cc own nL ini law sc mc ms A sV) {rt : Option FieldType} {d0 : Nat} {cl : XC} {nx : XN} {Q : XQ} (hfr : d0 + 1 ≤ Rm.frames) (hlo : 40 * (d0 + 1) ≤ Rm.locals)
    (hcl : ∀ (k : Nat) (as : XV) (S : XS) (I : XI) (J : XJ) (r : XR) (Q : XQ), cl k as S I J r Q → XMt l d0 dC dI sV k as S I J r Q)
    (hnx : ∀ (pc : Nat) (L st : XV) (S : XS) (I : XI) (J : XJ) (r : XR) (cu su : Nat), nx pc L st S I J r cu su → XW p l e9 Rm s m args below meth c dC dI A a0 n0 sV nL mc ms Zf pc L st S I J r cu su)
    (hret : ∀ (pc : Nat) (L : XV) (cu su : Nat) (v : Option Value) (S : XS) (I : XI) (J : XJ) (r : XR), Q v S I J r → xretOk rt v → decode cc pc = .ok (xri v, 1) → XW p l e9 Rm s m args below meth c dC dI A a0 n0 sV nL mc ms Zf pc L v.toList S I J r cu su) {len a b d h n e : Nat} {z : Int32} {w : Int64} (hK : ∀ (L st : XV) (S : XS) (I : XI) (J : XJ) (r : XR) (cu su : Nat), K L st S I J r cu su → XW p l e9 Rm s m args below meth c dC dI A a0 n0 sV nL mc ms Zf (pc + len) L st S I J r cu su) (hok : ck36 own cc nL rt ini law pc len a b d h n e z w = true) (hst : xst sc cl nx Q mc ms K (36, len, a, b, d, h, n, e, z, w) L st S I J r cu su) : XW p l e9 Rm s m args below meth c dC dI A a0 n0 sV nL mc ms Zf pc L st S I J r cu su := by
  unfold ck36 at hok
  simp only [Bool.or_eq_true, Bool.and_eq_true, beq_iff_eq, decide_eq_true_eq, Bool.not_eq_true'] at hok
  obtain ⟨rfl, h3⟩ := hok
  simp only [xst] at hst
  split at hst
  · obtain ⟨n, g1, g2, hst⟩ := hst
    exact xs_last F g1 g2 (xdec_ok h3) (hK _ _ _ _ _ _ _ _ hst)
  · exact hst.elim
theorem xi_37 (F : XFx p s m meth c args Rm cc own nL ini law sc mc ms A sV) {rt : Option FieldType} {d0 : Nat} {cl : XC} {nx : XN} {Q : XQ} (hfr : d0 + 1 ≤ Rm.frames) (hlo : 40 * (d0 + 1) ≤ Rm.locals)
    (hcl : ∀ (k : Nat) (as : XV) (S : XS) (I : XI) (J : XJ) (r : XR) (Q : XQ), cl k as S I J r Q → XMt l d0 dC dI sV k as S I J r Q)
    (hnx : ∀ (pc : Nat) (L st : XV) (S : XS) (I : XI) (J : XJ) (r : XR) (cu su : Nat), nx pc L st S I J r cu su → XW p l e9 Rm s m args below meth c dC dI A a0 n0 sV nL mc ms Zf pc L st S I J r cu su)
    (hret : ∀ (pc : Nat) (L : XV) (cu su : Nat) (v : Option Value) (S : XS) (I : XI) (J : XJ) (r : XR), Q v S I J r → xretOk rt v → decode cc pc = .ok (xri v, 1) → XW p l e9 Rm s m args below meth c dC dI A a0 n0 sV nL mc ms Zf pc L v.toList S I J r cu su) {len a b d h n e : Nat} {z : Int32} {w : Int64} (hK : ∀ (L st : XV) (S : XS) (I : XI) (J : XJ) (r : XR) (cu su : Nat), K L st S I J r cu su → XW p l e9 Rm s m args below meth c dC dI A a0 n0 sV nL mc ms Zf (pc + len) L st S I J r cu su) (hok : ck37 own cc nL rt ini law pc len a b d h n e z w = true) (hst : xst sc cl nx Q mc ms K (37, len, a, b, d, h, n, e, z, w) L st S I J r cu su) : XW p l e9 Rm s m args below meth c dC dI A a0 n0 sV nL mc ms Zf pc L st S I J r cu su := by
  unfold ck37 at hok
  simp only [Bool.or_eq_true, Bool.and_eq_true, beq_iff_eq, decide_eq_true_eq, Bool.not_eq_true'] at hok
  obtain ⟨rfl, h3⟩ := hok
  simp only [xst] at hst
  split at hst
  · obtain ⟨n, g1, g2, hst⟩ := hst
    exact xs_bald F g1 g2 (xdec_ok h3) (hK _ _ _ _ _ _ _ _ hst)
  · exact hst.elim
theorem xi_38 (F : XFx p s m meth c args Rm cc own nL ini law sc mc ms A sV) {rt : Option FieldType} {d0 : Nat} {cl : XC} {nx : XN} {Q : XQ} (hfr : d0 + 1 ≤ Rm.frames) (hlo : 40 * (d0 + 1) ≤ Rm.locals)
    (hcl : ∀ (k : Nat) (as : XV) (S : XS) (I : XI) (J : XJ) (r : XR) (Q : XQ), cl k as S I J r Q → XMt l d0 dC dI sV k as S I J r Q)
    (hnx : ∀ (pc : Nat) (L st : XV) (S : XS) (I : XI) (J : XJ) (r : XR) (cu su : Nat), nx pc L st S I J r cu su → XW p l e9 Rm s m args below meth c dC dI A a0 n0 sV nL mc ms Zf pc L st S I J r cu su)
    (hret : ∀ (pc : Nat) (L : XV) (cu su : Nat) (v : Option Value) (S : XS) (I : XI) (J : XJ) (r : XR), Q v S I J r → xretOk rt v → decode cc pc = .ok (xri v, 1) → XW p l e9 Rm s m args below meth c dC dI A a0 n0 sV nL mc ms Zf pc L v.toList S I J r cu su) {len a b d h n e : Nat} {z : Int32} {w : Int64} (hK : ∀ (L st : XV) (S : XS) (I : XI) (J : XJ) (r : XR) (cu su : Nat), K L st S I J r cu su → XW p l e9 Rm s m args below meth c dC dI A a0 n0 sV nL mc ms Zf (pc + len) L st S I J r cu su) (hok : ck38 own cc nL rt ini law pc len a b d h n e z w = true) (hst : xst sc cl nx Q mc ms K (38, len, a, b, d, h, n, e, z, w) L st S I J r cu su) : XW p l e9 Rm s m args below meth c dC dI A a0 n0 sV nL mc ms Zf pc L st S I J r cu su := by
  unfold ck38 at hok
  simp only [Bool.or_eq_true, Bool.and_eq_true, beq_iff_eq, decide_eq_true_eq, Bool.not_eq_true'] at hok
  obtain ⟨rfl, h3⟩ := hok
  simp only [xst] at hst
  split at hst
  · obtain ⟨n, g1, g2, hst⟩ := hst
    exact xs_bast F g1 g2 (xdec_ok h3) (hK _ _ _ _ _ _ _ _ hst)
  · exact hst.elim
theorem xi_39 (F : XFx p s m meth c args Rm cc own nL ini law sc mc ms A sV) {rt : Option FieldType} {d0 : Nat} {cl : XC} {nx : XN} {Q : XQ} (hfr : d0 + 1 ≤ Rm.frames) (hlo : 40 * (d0 + 1) ≤ Rm.locals)
    (hcl : ∀ (k : Nat) (as : XV) (S : XS) (I : XI) (J : XJ) (r : XR) (Q : XQ), cl k as S I J r Q → XMt l d0 dC dI sV k as S I J r Q)
    (hnx : ∀ (pc : Nat) (L st : XV) (S : XS) (I : XI) (J : XJ) (r : XR) (cu su : Nat), nx pc L st S I J r cu su → XW p l e9 Rm s m args below meth c dC dI A a0 n0 sV nL mc ms Zf pc L st S I J r cu su)
    (hret : ∀ (pc : Nat) (L : XV) (cu su : Nat) (v : Option Value) (S : XS) (I : XI) (J : XJ) (r : XR), Q v S I J r → xretOk rt v → decode cc pc = .ok (xri v, 1) → XW p l e9 Rm s m args below meth c dC dI A a0 n0 sV nL mc ms Zf pc L v.toList S I J r cu su) {len a b d h n e : Nat} {z : Int32} {w : Int64} (hK : ∀ (L st : XV) (S : XS) (I : XI) (J : XJ) (r : XR) (cu su : Nat), K L st S I J r cu su → XW p l e9 Rm s m args below meth c dC dI A a0 n0 sV nL mc ms Zf (pc + len) L st S I J r cu su) (hok : ck39 own cc nL rt ini law pc len a b d h n e z w = true) (hst : xst sc cl nx Q mc ms K (39, len, a, b, d, h, n, e, z, w) L st S I J r cu su) : XW p l e9 Rm s m args below meth c dC dI A a0 n0 sV nL mc ms Zf pc L st S I J r cu su := by
  unfold ck39 at hok
  simp only [Bool.or_eq_true, Bool.and_eq_true, beq_iff_eq, decide_eq_true_eq, Bool.not_eq_true'] at hok
  obtain ⟨rfl, h3⟩ := hok
  simp only [xst] at hst
  split at hst
  · obtain ⟨t, n, g1, g2, g3, hst⟩ := hst
    exact xs_aald F g1 g2 g3 (xdec_ok h3) (hK _ _ _ _ _ _ _ _ hst)
  · exact hst.elim
theorem xi_40 (F : XFx p s m meth c args Rm cc own nL ini law sc mc ms A sV) {rt : Option FieldType} {d0 : Nat} {cl : XC} {nx : XN} {Q : XQ} (hfr : d0 + 1 ≤ Rm.frames) (hlo : 40 * (d0 + 1) ≤ Rm.locals)
    (hcl : ∀ (k : Nat) (as : XV) (S : XS) (I : XI) (J : XJ) (r : XR) (Q : XQ), cl k as S I J r Q → XMt l d0 dC dI sV k as S I J r Q)
    (hnx : ∀ (pc : Nat) (L st : XV) (S : XS) (I : XI) (J : XJ) (r : XR) (cu su : Nat), nx pc L st S I J r cu su → XW p l e9 Rm s m args below meth c dC dI A a0 n0 sV nL mc ms Zf pc L st S I J r cu su)
    (hret : ∀ (pc : Nat) (L : XV) (cu su : Nat) (v : Option Value) (S : XS) (I : XI) (J : XJ) (r : XR), Q v S I J r → xretOk rt v → decode cc pc = .ok (xri v, 1) → XW p l e9 Rm s m args below meth c dC dI A a0 n0 sV nL mc ms Zf pc L v.toList S I J r cu su) {len a b d h n e : Nat} {z : Int32} {w : Int64} (hK : ∀ (L st : XV) (S : XS) (I : XI) (J : XJ) (r : XR) (cu su : Nat), K L st S I J r cu su → XW p l e9 Rm s m args below meth c dC dI A a0 n0 sV nL mc ms Zf (pc + len) L st S I J r cu su) (hok : ck40 own cc nL rt ini law pc len a b d h n e z w = true) (hst : xst sc cl nx Q mc ms K (40, len, a, b, d, h, n, e, z, w) L st S I J r cu su) : XW p l e9 Rm s m args below meth c dC dI A a0 n0 sV nL mc ms Zf pc L st S I J r cu su := by
  unfold ck40 at hok
  simp only [Bool.or_eq_true, Bool.and_eq_true, beq_iff_eq, decide_eq_true_eq, Bool.not_eq_true'] at hok
  obtain ⟨rfl, h3⟩ := hok
  simp only [xst] at hst
  split at hst
  · obtain ⟨n, g1, g2, g3, hst⟩ := hst
    exact xs_aast F g1 g2 g3 (xdec_ok h3) (hK _ _ _ _ _ _ _ _ hst)
  · exact hst.elim
theorem xi_42 (F : XFx p s m meth c args Rm cc own nL ini law sc mc ms A sV) {rt : Option FieldType} {d0 : Nat} {cl : XC} {nx : XN} {Q : XQ} (hfr : d0 + 1 ≤ Rm.frames) (hlo : 40 * (d0 + 1) ≤ Rm.locals)
    (hcl : ∀ (k : Nat) (as : XV) (S : XS) (I : XI) (J : XJ) (r : XR) (Q : XQ), cl k as S I J r Q → XMt l d0 dC dI sV k as S I J r Q)
    (hnx : ∀ (pc : Nat) (L st : XV) (S : XS) (I : XI) (J : XJ) (r : XR) (cu su : Nat), nx pc L st S I J r cu su → XW p l e9 Rm s m args below meth c dC dI A a0 n0 sV nL mc ms Zf pc L st S I J r cu su)
    (hret : ∀ (pc : Nat) (L : XV) (cu su : Nat) (v : Option Value) (S : XS) (I : XI) (J : XJ) (r : XR), Q v S I J r → xretOk rt v → decode cc pc = .ok (xri v, 1) → XW p l e9 Rm s m args below meth c dC dI A a0 n0 sV nL mc ms Zf pc L v.toList S I J r cu su) {len a b d h n e : Nat} {z : Int32} {w : Int64} (hK : ∀ (L st : XV) (S : XS) (I : XI) (J : XJ) (r : XR) (cu su : Nat), K L st S I J r cu su → XW p l e9 Rm s m args below meth c dC dI A a0 n0 sV nL mc ms Zf (pc + len) L st S I J r cu su) (hok : ck42 own cc nL rt ini law pc len a b d h n e z w = true) (hst : xst sc cl nx Q mc ms K (42, len, a, b, d, h, n, e, z, w) L st S I J r cu su) : XW p l e9 Rm s m args below meth c dC dI A a0 n0 sV nL mc ms Zf pc L st S I J r cu su := by
  unfold ck42 at hok
  simp only [Bool.or_eq_true, Bool.and_eq_true, beq_iff_eq, decide_eq_true_eq, Bool.not_eq_true'] at hok
  obtain ⟨⟨⟨⟨⟨rfl, h1⟩, h2⟩, h3⟩, h4⟩, h5⟩ := hok
  simp only [xst] at hst
  split at hst
  · exact xs_getI F h1 h2 h3 (xw_in h4) (xdec_ok h5) hst.1 (hK _ _ _ _ _ _ _ _ hst.2)
  · exact hst.elim
theorem xi_43 (F : XFx p s m meth c args Rm cc own nL ini law sc mc ms A sV) {rt : Option FieldType} {d0 : Nat} {cl : XC} {nx : XN} {Q : XQ} (hfr : d0 + 1 ≤ Rm.frames) (hlo : 40 * (d0 + 1) ≤ Rm.locals)
    (hcl : ∀ (k : Nat) (as : XV) (S : XS) (I : XI) (J : XJ) (r : XR) (Q : XQ), cl k as S I J r Q → XMt l d0 dC dI sV k as S I J r Q)
    (hnx : ∀ (pc : Nat) (L st : XV) (S : XS) (I : XI) (J : XJ) (r : XR) (cu su : Nat), nx pc L st S I J r cu su → XW p l e9 Rm s m args below meth c dC dI A a0 n0 sV nL mc ms Zf pc L st S I J r cu su)
    (hret : ∀ (pc : Nat) (L : XV) (cu su : Nat) (v : Option Value) (S : XS) (I : XI) (J : XJ) (r : XR), Q v S I J r → xretOk rt v → decode cc pc = .ok (xri v, 1) → XW p l e9 Rm s m args below meth c dC dI A a0 n0 sV nL mc ms Zf pc L v.toList S I J r cu su) {len a b d h n e : Nat} {z : Int32} {w : Int64} (hK : ∀ (L st : XV) (S : XS) (I : XI) (J : XJ) (r : XR) (cu su : Nat), K L st S I J r cu su → XW p l e9 Rm s m args below meth c dC dI A a0 n0 sV nL mc ms Zf (pc + len) L st S I J r cu su) (hok : ck43 own cc nL rt ini law pc len a b d h n e z w = true) (hst : xst sc cl nx Q mc ms K (43, len, a, b, d, h, n, e, z, w) L st S I J r cu su) : XW p l e9 Rm s m args below meth c dC dI A a0 n0 sV nL mc ms Zf pc L st S I J r cu su := by
  unfold ck43 at hok
  simp only [Bool.or_eq_true, Bool.and_eq_true, beq_iff_eq, decide_eq_true_eq, Bool.not_eq_true'] at hok
  obtain ⟨⟨⟨⟨⟨rfl, h1⟩, h2⟩, h3⟩, h4⟩, h5⟩ := hok
  simp only [xst] at hst
  split at hst
  · exact xs_getJ F h1 h2 h3 (xw_in h4) (xdec_ok h5) hst.1 (hK _ _ _ _ _ _ _ _ hst.2)
  · exact hst.elim
theorem xi_44 (F : XFx p s m meth c args Rm cc own nL ini law sc mc ms A sV) {rt : Option FieldType} {d0 : Nat} {cl : XC} {nx : XN} {Q : XQ} (hfr : d0 + 1 ≤ Rm.frames) (hlo : 40 * (d0 + 1) ≤ Rm.locals)
    (hcl : ∀ (k : Nat) (as : XV) (S : XS) (I : XI) (J : XJ) (r : XR) (Q : XQ), cl k as S I J r Q → XMt l d0 dC dI sV k as S I J r Q)
    (hnx : ∀ (pc : Nat) (L st : XV) (S : XS) (I : XI) (J : XJ) (r : XR) (cu su : Nat), nx pc L st S I J r cu su → XW p l e9 Rm s m args below meth c dC dI A a0 n0 sV nL mc ms Zf pc L st S I J r cu su)
    (hret : ∀ (pc : Nat) (L : XV) (cu su : Nat) (v : Option Value) (S : XS) (I : XI) (J : XJ) (r : XR), Q v S I J r → xretOk rt v → decode cc pc = .ok (xri v, 1) → XW p l e9 Rm s m args below meth c dC dI A a0 n0 sV nL mc ms Zf pc L v.toList S I J r cu su) {len a b d h n e : Nat} {z : Int32} {w : Int64} (hK : ∀ (L st : XV) (S : XS) (I : XI) (J : XJ) (r : XR) (cu su : Nat), K L st S I J r cu su → XW p l e9 Rm s m args below meth c dC dI A a0 n0 sV nL mc ms Zf (pc + len) L st S I J r cu su) (hok : ck44 own cc nL rt ini law pc len a b d h n e z w = true) (hst : xst sc cl nx Q mc ms K (44, len, a, b, d, h, n, e, z, w) L st S I J r cu su) : XW p l e9 Rm s m args below meth c dC dI A a0 n0 sV nL mc ms Zf pc L st S I J r cu su := by
  unfold ck44 at hok
  simp only [Bool.or_eq_true, Bool.and_eq_true, beq_iff_eq, decide_eq_true_eq, Bool.not_eq_true'] at hok
  obtain ⟨⟨⟨⟨⟨rfl, h1⟩, h2⟩, h3⟩, h4⟩, h5⟩ := hok
  simp only [xst] at hst
  split at hst
  · exact xs_getR F h1 h2 h3 (xw_in h4) (xdec_ok h5) hst.1 (hK _ _ _ _ _ _ _ _ hst.2)
  · exact hst.elim
theorem xi_45 (F : XFx p s m meth c args Rm cc own nL ini law sc mc ms A sV) {rt : Option FieldType} {d0 : Nat} {cl : XC} {nx : XN} {Q : XQ} (hfr : d0 + 1 ≤ Rm.frames) (hlo : 40 * (d0 + 1) ≤ Rm.locals)
    (hcl : ∀ (k : Nat) (as : XV) (S : XS) (I : XI) (J : XJ) (r : XR) (Q : XQ), cl k as S I J r Q → XMt l d0 dC dI sV k as S I J r Q)
    (hnx : ∀ (pc : Nat) (L st : XV) (S : XS) (I : XI) (J : XJ) (r : XR) (cu su : Nat), nx pc L st S I J r cu su → XW p l e9 Rm s m args below meth c dC dI A a0 n0 sV nL mc ms Zf pc L st S I J r cu su)
    (hret : ∀ (pc : Nat) (L : XV) (cu su : Nat) (v : Option Value) (S : XS) (I : XI) (J : XJ) (r : XR), Q v S I J r → xretOk rt v → decode cc pc = .ok (xri v, 1) → XW p l e9 Rm s m args below meth c dC dI A a0 n0 sV nL mc ms Zf pc L v.toList S I J r cu su) {len a b d h n e : Nat} {z : Int32} {w : Int64} (hK : ∀ (L st : XV) (S : XS) (I : XI) (J : XJ) (r : XR) (cu su : Nat), K L st S I J r cu su → XW p l e9 Rm s m args below meth c dC dI A a0 n0 sV nL mc ms Zf (pc + len) L st S I J r cu su) (hok : ck45 own cc nL rt ini law pc len a b d h n e z w = true) (hst : xst sc cl nx Q mc ms K (45, len, a, b, d, h, n, e, z, w) L st S I J r cu su) : XW p l e9 Rm s m args below meth c dC dI A a0 n0 sV nL mc ms Zf pc L st S I J r cu su := by
  unfold ck45 at hok
  simp only [Bool.or_eq_true, Bool.and_eq_true, beq_iff_eq, decide_eq_true_eq, Bool.not_eq_true'] at hok
  obtain ⟨⟨⟨⟨⟨⟨⟨rfl, h1⟩, h2⟩, h3⟩, h4⟩, h5⟩, h6⟩, h7⟩ := hok
  have h6 : ((xC b).2.1 d).2.2.2 = false ∨ (((xC b).2.1 d).2.2.2 = true ∧ ini = true ∧ ((xC b).2.1 d).1 = own) := by
    rcases h6 with h6 | h6
    · exact Or.inl h6
    · exact Or.inr ⟨h6.1.1, h6.1.2, h6.2⟩
  simp only [xst] at hst
  split at hst
  · exact xs_putI F h1 h2 h3 (Or.inl h7) (xw_in h4) h6 (xdec_ok h5) hst.1 (hK _ _ _ _ _ _ _ _ hst.2)
  · exact hst.elim
theorem xi_46 (F : XFx p s m meth c args Rm cc own nL ini law sc mc ms A sV) {rt : Option FieldType} {d0 : Nat} {cl : XC} {nx : XN} {Q : XQ} (hfr : d0 + 1 ≤ Rm.frames) (hlo : 40 * (d0 + 1) ≤ Rm.locals)
    (hcl : ∀ (k : Nat) (as : XV) (S : XS) (I : XI) (J : XJ) (r : XR) (Q : XQ), cl k as S I J r Q → XMt l d0 dC dI sV k as S I J r Q)
    (hnx : ∀ (pc : Nat) (L st : XV) (S : XS) (I : XI) (J : XJ) (r : XR) (cu su : Nat), nx pc L st S I J r cu su → XW p l e9 Rm s m args below meth c dC dI A a0 n0 sV nL mc ms Zf pc L st S I J r cu su)
    (hret : ∀ (pc : Nat) (L : XV) (cu su : Nat) (v : Option Value) (S : XS) (I : XI) (J : XJ) (r : XR), Q v S I J r → xretOk rt v → decode cc pc = .ok (xri v, 1) → XW p l e9 Rm s m args below meth c dC dI A a0 n0 sV nL mc ms Zf pc L v.toList S I J r cu su) {len a b d h n e : Nat} {z : Int32} {w : Int64} (hK : ∀ (L st : XV) (S : XS) (I : XI) (J : XJ) (r : XR) (cu su : Nat), K L st S I J r cu su → XW p l e9 Rm s m args below meth c dC dI A a0 n0 sV nL mc ms Zf (pc + len) L st S I J r cu su) (hok : ck46 own cc nL rt ini law pc len a b d h n e z w = true) (hst : xst sc cl nx Q mc ms K (46, len, a, b, d, h, n, e, z, w) L st S I J r cu su) : XW p l e9 Rm s m args below meth c dC dI A a0 n0 sV nL mc ms Zf pc L st S I J r cu su := by
  unfold ck46 at hok
  simp only [Bool.or_eq_true, Bool.and_eq_true, beq_iff_eq, decide_eq_true_eq, Bool.not_eq_true'] at hok
  obtain ⟨⟨⟨⟨⟨⟨rfl, h1⟩, h2⟩, h3⟩, h4⟩, h5⟩, h6⟩ := hok
  have h6 : ((xC b).2.1 d).2.2.2 = false ∨ (((xC b).2.1 d).2.2.2 = true ∧ ini = true ∧ ((xC b).2.1 d).1 = own) := by
    rcases h6 with h6 | h6
    · exact Or.inl h6
    · exact Or.inr ⟨h6.1.1, h6.1.2, h6.2⟩
  simp only [xst] at hst
  split at hst
  · exact xs_putJ F h1 h2 h3 (xw_in h4) h6 (xdec_ok h5) hst.1 (hK _ _ _ _ _ _ _ _ hst.2)
  · exact hst.elim
theorem xi_47 (F : XFx p s m meth c args Rm cc own nL ini law sc mc ms A sV) {rt : Option FieldType} {d0 : Nat} {cl : XC} {nx : XN} {Q : XQ} (hfr : d0 + 1 ≤ Rm.frames) (hlo : 40 * (d0 + 1) ≤ Rm.locals)
    (hcl : ∀ (k : Nat) (as : XV) (S : XS) (I : XI) (J : XJ) (r : XR) (Q : XQ), cl k as S I J r Q → XMt l d0 dC dI sV k as S I J r Q)
    (hnx : ∀ (pc : Nat) (L st : XV) (S : XS) (I : XI) (J : XJ) (r : XR) (cu su : Nat), nx pc L st S I J r cu su → XW p l e9 Rm s m args below meth c dC dI A a0 n0 sV nL mc ms Zf pc L st S I J r cu su)
    (hret : ∀ (pc : Nat) (L : XV) (cu su : Nat) (v : Option Value) (S : XS) (I : XI) (J : XJ) (r : XR), Q v S I J r → xretOk rt v → decode cc pc = .ok (xri v, 1) → XW p l e9 Rm s m args below meth c dC dI A a0 n0 sV nL mc ms Zf pc L v.toList S I J r cu su) {len a b d h n e : Nat} {z : Int32} {w : Int64} (hK : ∀ (L st : XV) (S : XS) (I : XI) (J : XJ) (r : XR) (cu su : Nat), K L st S I J r cu su → XW p l e9 Rm s m args below meth c dC dI A a0 n0 sV nL mc ms Zf (pc + len) L st S I J r cu su) (hok : ck47 own cc nL rt ini law pc len a b d h n e z w = true) (hst : xst sc cl nx Q mc ms K (47, len, a, b, d, h, n, e, z, w) L st S I J r cu su) : XW p l e9 Rm s m args below meth c dC dI A a0 n0 sV nL mc ms Zf pc L st S I J r cu su := by
  unfold ck47 at hok
  simp only [Bool.or_eq_true, Bool.and_eq_true, beq_iff_eq, decide_eq_true_eq, Bool.not_eq_true'] at hok
  obtain ⟨⟨⟨⟨⟨⟨rfl, h1⟩, h2⟩, h3⟩, h4⟩, h5⟩, h6⟩ := hok
  have h6 : ((xC b).2.1 d).2.2.2 = false ∨ (((xC b).2.1 d).2.2.2 = true ∧ ini = true ∧ ((xC b).2.1 d).1 = own) := by
    rcases h6 with h6 | h6
    · exact Or.inl h6
    · exact Or.inr ⟨h6.1.1, h6.1.2, h6.2⟩
  simp only [xst] at hst
  split at hst
  · exact xs_putR F h1 h2 h3 (xw_in h4) h6 (xdec_ok h5) hst.1 (hK _ _ _ _ _ _ _ _ hst.2)
  · exact hst.elim
theorem xi_48 (F : XFx p s m meth c args Rm cc own nL ini law sc mc ms A sV) {rt : Option FieldType} {d0 : Nat} {cl : XC} {nx : XN} {Q : XQ} (hfr : d0 + 1 ≤ Rm.frames) (hlo : 40 * (d0 + 1) ≤ Rm.locals)
    (hcl : ∀ (k : Nat) (as : XV) (S : XS) (I : XI) (J : XJ) (r : XR) (Q : XQ), cl k as S I J r Q → XMt l d0 dC dI sV k as S I J r Q)
    (hnx : ∀ (pc : Nat) (L st : XV) (S : XS) (I : XI) (J : XJ) (r : XR) (cu su : Nat), nx pc L st S I J r cu su → XW p l e9 Rm s m args below meth c dC dI A a0 n0 sV nL mc ms Zf pc L st S I J r cu su)
    (hret : ∀ (pc : Nat) (L : XV) (cu su : Nat) (v : Option Value) (S : XS) (I : XI) (J : XJ) (r : XR), Q v S I J r → xretOk rt v → decode cc pc = .ok (xri v, 1) → XW p l e9 Rm s m args below meth c dC dI A a0 n0 sV nL mc ms Zf pc L v.toList S I J r cu su) {len a b d h n e : Nat} {z : Int32} {w : Int64} (hK : ∀ (L st : XV) (S : XS) (I : XI) (J : XJ) (r : XR) (cu su : Nat), K L st S I J r cu su → XW p l e9 Rm s m args below meth c dC dI A a0 n0 sV nL mc ms Zf (pc + len) L st S I J r cu su) (hok : ck48 own cc nL rt ini law pc len a b d h n e z w = true) (hst : xst sc cl nx Q mc ms K (48, len, a, b, d, h, n, e, z, w) L st S I J r cu su) : XW p l e9 Rm s m args below meth c dC dI A a0 n0 sV nL mc ms Zf pc L st S I J r cu su := by
  unfold ck48 at hok
  simp only [Bool.or_eq_true, Bool.and_eq_true, beq_iff_eq, decide_eq_true_eq, Bool.not_eq_true'] at hok
  intro ls H locs ws tys hXH
  have hcu := hXH.2.2.2.2.1
  have hsu := hXH.2.2.2.2.2
  revert ls H locs ws tys
  intro ls H locs ws tys hXH
  obtain ⟨⟨⟨⟨rfl, hc⟩, hm⟩, hn⟩, hok⟩ := hok
  refine (?_ : XW p l e9 Rm s m args below meth c dC dI A a0 n0 sV nL mc ms Zf pc L st S I J r cu su) ls H locs ws tys hXH
  simp only [xst] at hst
  obtain ⟨g1, g2, g3, hst⟩ := hst
  have ecu : cu + mck b = cu := by rw [hm]; rfl
  have esu : su + msk b = su := by rw [hn]; rfl
  rcases hok with ((⟨⟨⟨⟨⟨⟨rfl, h1⟩, h2⟩, h3⟩, h4⟩, h5⟩, h6⟩ | ⟨⟨⟨⟨rfl, h1⟩, h2⟩, h5⟩, h6⟩) | ⟨⟨⟨⟨rfl, h1⟩, h2⟩, h5⟩, h6⟩) | ⟨⟨⟨⟨rfl, h1⟩, h2⟩, h5⟩, h6⟩
  · rcases g3 with g3 | ⟨q, As, g3, g4⟩
    · cases g3
    · exact xs_callV F hfr hlo (okCs_ok hc) h1 (xw_in h2) h3 h4 h5 g1 (xdec_ok h6) g2 (by rw [ecu]; exact hcu) (by rw [esu]; exact hsu) g3 g4 (hcl _ _ _ _ _ _ _ hst) (fun v S I J r hk => by rw [ecu, esu]; exact hK _ _ _ _ _ _ _ _ hk)
  · exact xs_callS F hfr hlo (okCs_ok hc) h1 (xw_in h2) h5 g1 (xdec_ok h6) g2 (by rw [ecu]; exact hcu) (by rw [esu]; exact hsu) (hcl _ _ _ _ _ _ _ hst) (fun v S I J r hk => by rw [ecu, esu]; exact hK _ _ _ _ _ _ _ _ hk)
  · rcases g3 with g3 | ⟨q, As, g3, g4⟩
    · cases g3
    · exact xs_callI (host := "FreckleChart") F hfr hlo (okCs_ok hc) h1 (Or.inl (xw_in h2)) h5 g1 (xdec_ok h6) g2 (by rw [ecu]; exact hcu) (by rw [esu]; exact hsu) g3 (hcl _ _ _ _ _ _ _ hst) (fun v S I J r hk => by rw [ecu, esu]; exact hK _ _ _ _ _ _ _ _ hk)
  · rcases g3 with g3 | ⟨q, As, g3, g4⟩
    · cases g3
    · exact xs_callI (host := "FreckleChart") F hfr hlo (okCs_ok hc) h1 (Or.inr (xw_in h2)) h5 g1 (xdec_ok h6) g2 (by rw [ecu]; exact hcu) (by rw [esu]; exact hsu) g3 (hcl _ _ _ _ _ _ _ hst) (fun v S I J r hk => by rw [ecu, esu]; exact hK _ _ _ _ _ _ _ _ hk)
theorem xi_49 (F : XFx p s m meth c args Rm cc own nL ini law sc mc ms A sV) {rt : Option FieldType} {d0 : Nat} {cl : XC} {nx : XN} {Q : XQ} (hfr : d0 + 1 ≤ Rm.frames) (hlo : 40 * (d0 + 1) ≤ Rm.locals)
    (hcl : ∀ (k : Nat) (as : XV) (S : XS) (I : XI) (J : XJ) (r : XR) (Q : XQ), cl k as S I J r Q → XMt l d0 dC dI sV k as S I J r Q)
    (hnx : ∀ (pc : Nat) (L st : XV) (S : XS) (I : XI) (J : XJ) (r : XR) (cu su : Nat), nx pc L st S I J r cu su → XW p l e9 Rm s m args below meth c dC dI A a0 n0 sV nL mc ms Zf pc L st S I J r cu su)
    (hret : ∀ (pc : Nat) (L : XV) (cu su : Nat) (v : Option Value) (S : XS) (I : XI) (J : XJ) (r : XR), Q v S I J r → xretOk rt v → decode cc pc = .ok (xri v, 1) → XW p l e9 Rm s m args below meth c dC dI A a0 n0 sV nL mc ms Zf pc L v.toList S I J r cu su) {len a b d h n e : Nat} {z : Int32} {w : Int64} (hK : ∀ (L st : XV) (S : XS) (I : XI) (J : XJ) (r : XR) (cu su : Nat), K L st S I J r cu su → XW p l e9 Rm s m args below meth c dC dI A a0 n0 sV nL mc ms Zf (pc + len) L st S I J r cu su) (hok : ck49 own cc nL rt ini law pc len a b d h n e z w = true) (hst : xst sc cl nx Q mc ms K (49, len, a, b, d, h, n, e, z, w) L st S I J r cu su) : XW p l e9 Rm s m args below meth c dC dI A a0 n0 sV nL mc ms Zf pc L st S I J r cu su := by
  unfold ck49 at hok
  simp only [Bool.or_eq_true, Bool.and_eq_true, beq_iff_eq, decide_eq_true_eq, Bool.not_eq_true'] at hok
  obtain ⟨⟨rfl, h2⟩, h3⟩ := hok
  simp only [xst] at hst
  split at hst
  · exact xs_objInit F (xw_in h2) xc_oi xc_oc (xdec_ok h3) hst.1 (hK _ _ _ _ _ _ _ _ hst.2)
  · exact hst.elim
theorem xi_50 (F : XFx p s m meth c args Rm cc own nL ini law sc mc ms A sV) {rt : Option FieldType} {d0 : Nat} {cl : XC} {nx : XN} {Q : XQ} (hfr : d0 + 1 ≤ Rm.frames) (hlo : 40 * (d0 + 1) ≤ Rm.locals)
    (hcl : ∀ (k : Nat) (as : XV) (S : XS) (I : XI) (J : XJ) (r : XR) (Q : XQ), cl k as S I J r Q → XMt l d0 dC dI sV k as S I J r Q)
    (hnx : ∀ (pc : Nat) (L st : XV) (S : XS) (I : XI) (J : XJ) (r : XR) (cu su : Nat), nx pc L st S I J r cu su → XW p l e9 Rm s m args below meth c dC dI A a0 n0 sV nL mc ms Zf pc L st S I J r cu su)
    (hret : ∀ (pc : Nat) (L : XV) (cu su : Nat) (v : Option Value) (S : XS) (I : XI) (J : XJ) (r : XR), Q v S I J r → xretOk rt v → decode cc pc = .ok (xri v, 1) → XW p l e9 Rm s m args below meth c dC dI A a0 n0 sV nL mc ms Zf pc L v.toList S I J r cu su) {len a b d h n e : Nat} {z : Int32} {w : Int64} (hK : ∀ (L st : XV) (S : XS) (I : XI) (J : XJ) (r : XR) (cu su : Nat), K L st S I J r cu su → XW p l e9 Rm s m args below meth c dC dI A a0 n0 sV nL mc ms Zf (pc + len) L st S I J r cu su) (hok : ck50 own cc nL rt ini law pc len a b d h n e z w = true) (hst : xst sc cl nx Q mc ms K (50, len, a, b, d, h, n, e, z, w) L st S I J r cu su) : XW p l e9 Rm s m args below meth c dC dI A a0 n0 sV nL mc ms Zf pc L st S I J r cu su := by
  unfold ck50 at hok
  simp only [Bool.or_eq_true, Bool.and_eq_true, beq_iff_eq, decide_eq_true_eq, Bool.not_eq_true'] at hok
  obtain ⟨⟨⟨rfl, h1⟩, h2⟩, h3⟩ := hok
  simp only [xst] at hst
  split at hst
  · obtain ⟨g0, n0', n1', g1, g2, g3, g4, g5, g6, g7, hst⟩ := hst
    exact xs_copy F h1 (xw_in h2) xc_n xc_s xc_i (xdec_ok h3) g0 g1 g2 g3 g4 g5 g6 g7 (hK _ _ _ _ _ _ _ _ hst)
  · exact hst.elim
theorem xi_51 (F : XFx p s m meth c args Rm cc own nL ini law sc mc ms A sV) {rt : Option FieldType} {d0 : Nat} {cl : XC} {nx : XN} {Q : XQ} (hfr : d0 + 1 ≤ Rm.frames) (hlo : 40 * (d0 + 1) ≤ Rm.locals)
    (hcl : ∀ (k : Nat) (as : XV) (S : XS) (I : XI) (J : XJ) (r : XR) (Q : XQ), cl k as S I J r Q → XMt l d0 dC dI sV k as S I J r Q)
    (hnx : ∀ (pc : Nat) (L st : XV) (S : XS) (I : XI) (J : XJ) (r : XR) (cu su : Nat), nx pc L st S I J r cu su → XW p l e9 Rm s m args below meth c dC dI A a0 n0 sV nL mc ms Zf pc L st S I J r cu su)
    (hret : ∀ (pc : Nat) (L : XV) (cu su : Nat) (v : Option Value) (S : XS) (I : XI) (J : XJ) (r : XR), Q v S I J r → xretOk rt v → decode cc pc = .ok (xri v, 1) → XW p l e9 Rm s m args below meth c dC dI A a0 n0 sV nL mc ms Zf pc L v.toList S I J r cu su) {len a b d h n e : Nat} {z : Int32} {w : Int64} (hK : ∀ (L st : XV) (S : XS) (I : XI) (J : XJ) (r : XR) (cu su : Nat), K L st S I J r cu su → XW p l e9 Rm s m args below meth c dC dI A a0 n0 sV nL mc ms Zf (pc + len) L st S I J r cu su) (hok : ck51 own cc nL rt ini law pc len a b d h n e z w = true) (hst : xst sc cl nx Q mc ms K (51, len, a, b, d, h, n, e, z, w) L st S I J r cu su) : XW p l e9 Rm s m args below meth c dC dI A a0 n0 sV nL mc ms Zf pc L st S I J r cu su := by
  unfold ck51 at hok
  simp only [Bool.or_eq_true, Bool.and_eq_true, beq_iff_eq, decide_eq_true_eq, Bool.not_eq_true'] at hok
  obtain ⟨⟨rfl, h2⟩, h3⟩ := hok
  simp only [xst] at hst
  split at hst
  · exact xs_strV F hst.1 (xw_in h2) (xdec_ok h3) (hK _ _ _ _ _ _ _ _ hst.2)
  · exact hst.elim
theorem xi_52 (F : XFx p s m meth c args Rm cc own nL ini law sc mc ms A sV) {rt : Option FieldType} {d0 : Nat} {cl : XC} {nx : XN} {Q : XQ} (hfr : d0 + 1 ≤ Rm.frames) (hlo : 40 * (d0 + 1) ≤ Rm.locals)
    (hcl : ∀ (k : Nat) (as : XV) (S : XS) (I : XI) (J : XJ) (r : XR) (Q : XQ), cl k as S I J r Q → XMt l d0 dC dI sV k as S I J r Q)
    (hnx : ∀ (pc : Nat) (L st : XV) (S : XS) (I : XI) (J : XJ) (r : XR) (cu su : Nat), nx pc L st S I J r cu su → XW p l e9 Rm s m args below meth c dC dI A a0 n0 sV nL mc ms Zf pc L st S I J r cu su)
    (hret : ∀ (pc : Nat) (L : XV) (cu su : Nat) (v : Option Value) (S : XS) (I : XI) (J : XJ) (r : XR), Q v S I J r → xretOk rt v → decode cc pc = .ok (xri v, 1) → XW p l e9 Rm s m args below meth c dC dI A a0 n0 sV nL mc ms Zf pc L v.toList S I J r cu su) {len a b d h n e : Nat} {z : Int32} {w : Int64} (hK : ∀ (L st : XV) (S : XS) (I : XI) (J : XJ) (r : XR) (cu su : Nat), K L st S I J r cu su → XW p l e9 Rm s m args below meth c dC dI A a0 n0 sV nL mc ms Zf (pc + len) L st S I J r cu su) (hok : ck52 own cc nL rt ini law pc len a b d h n e z w = true) (hst : xst sc cl nx Q mc ms K (52, len, a, b, d, h, n, e, z, w) L st S I J r cu su) : XW p l e9 Rm s m args below meth c dC dI A a0 n0 sV nL mc ms Zf pc L st S I J r cu su := by
  unfold ck52 at hok
  simp only [Bool.or_eq_true, Bool.and_eq_true, beq_iff_eq, decide_eq_true_eq, Bool.not_eq_true'] at hok
  obtain ⟨⟨rfl, h2⟩, h3⟩ := hok
  simp only [xst] at hst
  split at hst
  · exact xs_strC F hst.1 (xw_in h2) (xdec_ok h3) (hK _ _ _ _ _ _ _ _ hst.2)
  · exact hst.elim
theorem xi_53 (F : XFx p s m meth c args Rm cc own nL ini law sc mc ms A sV) {rt : Option FieldType} {d0 : Nat} {cl : XC} {nx : XN} {Q : XQ} (hfr : d0 + 1 ≤ Rm.frames) (hlo : 40 * (d0 + 1) ≤ Rm.locals)
    (hcl : ∀ (k : Nat) (as : XV) (S : XS) (I : XI) (J : XJ) (r : XR) (Q : XQ), cl k as S I J r Q → XMt l d0 dC dI sV k as S I J r Q)
    (hnx : ∀ (pc : Nat) (L st : XV) (S : XS) (I : XI) (J : XJ) (r : XR) (cu su : Nat), nx pc L st S I J r cu su → XW p l e9 Rm s m args below meth c dC dI A a0 n0 sV nL mc ms Zf pc L st S I J r cu su)
    (hret : ∀ (pc : Nat) (L : XV) (cu su : Nat) (v : Option Value) (S : XS) (I : XI) (J : XJ) (r : XR), Q v S I J r → xretOk rt v → decode cc pc = .ok (xri v, 1) → XW p l e9 Rm s m args below meth c dC dI A a0 n0 sV nL mc ms Zf pc L v.toList S I J r cu su) {len a b d h n e : Nat} {z : Int32} {w : Int64} (hK : ∀ (L st : XV) (S : XS) (I : XI) (J : XJ) (r : XR) (cu su : Nat), K L st S I J r cu su → XW p l e9 Rm s m args below meth c dC dI A a0 n0 sV nL mc ms Zf (pc + len) L st S I J r cu su) (hok : ck53 own cc nL rt ini law pc len a b d h n e z w = true) (hst : xst sc cl nx Q mc ms K (53, len, a, b, d, h, n, e, z, w) L st S I J r cu su) : XW p l e9 Rm s m args below meth c dC dI A a0 n0 sV nL mc ms Zf pc L st S I J r cu su := by
  unfold ck53 at hok
  simp only [Bool.or_eq_true, Bool.and_eq_true, beq_iff_eq, decide_eq_true_eq, Bool.not_eq_true'] at hok
  obtain ⟨⟨rfl, h2⟩, h3⟩ := hok
  simp only [xst] at hst
  split at hst
  · obtain ⟨rfl, hst⟩ := hst
    exact xs_slen F h2 (xdec_ok h3) (hK _ _ _ _ _ _ _ _ hst)
  · exact hst.elim
theorem xi_54 (F : XFx p s m meth c args Rm cc own nL ini law sc mc ms A sV) {rt : Option FieldType} {d0 : Nat} {cl : XC} {nx : XN} {Q : XQ} (hfr : d0 + 1 ≤ Rm.frames) (hlo : 40 * (d0 + 1) ≤ Rm.locals)
    (hcl : ∀ (k : Nat) (as : XV) (S : XS) (I : XI) (J : XJ) (r : XR) (Q : XQ), cl k as S I J r Q → XMt l d0 dC dI sV k as S I J r Q)
    (hnx : ∀ (pc : Nat) (L st : XV) (S : XS) (I : XI) (J : XJ) (r : XR) (cu su : Nat), nx pc L st S I J r cu su → XW p l e9 Rm s m args below meth c dC dI A a0 n0 sV nL mc ms Zf pc L st S I J r cu su)
    (hret : ∀ (pc : Nat) (L : XV) (cu su : Nat) (v : Option Value) (S : XS) (I : XI) (J : XJ) (r : XR), Q v S I J r → xretOk rt v → decode cc pc = .ok (xri v, 1) → XW p l e9 Rm s m args below meth c dC dI A a0 n0 sV nL mc ms Zf pc L v.toList S I J r cu su) {len a b d h n e : Nat} {z : Int32} {w : Int64} (hK : ∀ (L st : XV) (S : XS) (I : XI) (J : XJ) (r : XR) (cu su : Nat), K L st S I J r cu su → XW p l e9 Rm s m args below meth c dC dI A a0 n0 sV nL mc ms Zf (pc + len) L st S I J r cu su) (hok : ck54 own cc nL rt ini law pc len a b d h n e z w = true) (hst : xst sc cl nx Q mc ms K (54, len, a, b, d, h, n, e, z, w) L st S I J r cu su) : XW p l e9 Rm s m args below meth c dC dI A a0 n0 sV nL mc ms Zf pc L st S I J r cu su := by
  unfold ck54 at hok
  simp only [Bool.or_eq_true, Bool.and_eq_true, beq_iff_eq, decide_eq_true_eq, Bool.not_eq_true'] at hok
  obtain ⟨⟨rfl, h2⟩, h3⟩ := hok
  simp only [xst] at hst
  split at hst
  · obtain ⟨rfl, hj, hst⟩ := hst
    exact xs_sld F h2 hj (xdec_ok h3) (hK _ _ _ _ _ _ _ _ hst)
  · exact hst.elim
theorem xi_55 (F : XFx p s m meth c args Rm cc own nL ini law sc mc ms A sV) {rt : Option FieldType} {d0 : Nat} {cl : XC} {nx : XN} {Q : XQ} (hfr : d0 + 1 ≤ Rm.frames) (hlo : 40 * (d0 + 1) ≤ Rm.locals)
    (hcl : ∀ (k : Nat) (as : XV) (S : XS) (I : XI) (J : XJ) (r : XR) (Q : XQ), cl k as S I J r Q → XMt l d0 dC dI sV k as S I J r Q)
    (hnx : ∀ (pc : Nat) (L st : XV) (S : XS) (I : XI) (J : XJ) (r : XR) (cu su : Nat), nx pc L st S I J r cu su → XW p l e9 Rm s m args below meth c dC dI A a0 n0 sV nL mc ms Zf pc L st S I J r cu su)
    (hret : ∀ (pc : Nat) (L : XV) (cu su : Nat) (v : Option Value) (S : XS) (I : XI) (J : XJ) (r : XR), Q v S I J r → xretOk rt v → decode cc pc = .ok (xri v, 1) → XW p l e9 Rm s m args below meth c dC dI A a0 n0 sV nL mc ms Zf pc L v.toList S I J r cu su) {len a b d h n e : Nat} {z : Int32} {w : Int64} (hK : ∀ (L st : XV) (S : XS) (I : XI) (J : XJ) (r : XR) (cu su : Nat), K L st S I J r cu su → XW p l e9 Rm s m args below meth c dC dI A a0 n0 sV nL mc ms Zf (pc + len) L st S I J r cu su) (hok : ck55 own cc nL rt ini law pc len a b d h n e z w = true) (hst : xst sc cl nx Q mc ms K (55, len, a, b, d, h, n, e, z, w) L st S I J r cu su) : XW p l e9 Rm s m args below meth c dC dI A a0 n0 sV nL mc ms Zf pc L st S I J r cu su := by
  unfold ck55 at hok
  simp only [Bool.or_eq_true, Bool.and_eq_true, beq_iff_eq, decide_eq_true_eq, Bool.not_eq_true'] at hok
  obtain ⟨⟨rfl, hc⟩, hok⟩ := hok
  simp only [xst] at hst
  obtain ⟨hcu, hsu, g1, g2, g3, hst⟩ := hst
  rcases hok with ((⟨⟨⟨⟨⟨⟨rfl, h1⟩, h2⟩, h3⟩, h4⟩, h5⟩, h6⟩ | ⟨⟨⟨⟨rfl, h1⟩, h2⟩, h5⟩, h6⟩) | ⟨⟨⟨⟨rfl, h1⟩, h2⟩, h5⟩, h6⟩) | ⟨⟨⟨⟨rfl, h1⟩, h2⟩, h5⟩, h6⟩
  · rcases g3 with g3 | ⟨q, As, g3, g4⟩
    · cases g3
    · exact xs_callV F hfr hlo (okCs_ok hc) h1 (xw_in h2) h3 h4 h5 g1 (xdec_ok h6) g2 hcu hsu g3 g4 (hcl _ _ _ _ _ _ _ hst) (fun v S I J r hk => hK _ _ _ _ _ _ _ _ hk)
  · exact xs_callS F hfr hlo (okCs_ok hc) h1 (xw_in h2) h5 g1 (xdec_ok h6) g2 hcu hsu (hcl _ _ _ _ _ _ _ hst) (fun v S I J r hk => hK _ _ _ _ _ _ _ _ hk)
  · rcases g3 with g3 | ⟨q, As, g3, g4⟩
    · cases g3
    · exact xs_callI (host := "FreckleChart") F hfr hlo (okCs_ok hc) h1 (Or.inl (xw_in h2)) h5 g1 (xdec_ok h6) g2 hcu hsu g3 (hcl _ _ _ _ _ _ _ hst) (fun v S I J r hk => hK _ _ _ _ _ _ _ _ hk)
  · rcases g3 with g3 | ⟨q, As, g3, g4⟩
    · cases g3
    · exact xs_callI (host := "FreckleChart") F hfr hlo (okCs_ok hc) h1 (Or.inr (xw_in h2)) h5 g1 (xdec_ok h6) g2 hcu hsu g3 (hcl _ _ _ _ _ _ _ hst) (fun v S I J r hk => hK _ _ _ _ _ _ _ _ hk)
theorem xi_56 (F : XFx p s m meth c args Rm cc own nL ini law sc mc ms A sV) {rt : Option FieldType} {d0 : Nat} {cl : XC} {nx : XN} {Q : XQ} (hfr : d0 + 1 ≤ Rm.frames) (hlo : 40 * (d0 + 1) ≤ Rm.locals)
    (hcl : ∀ (k : Nat) (as : XV) (S : XS) (I : XI) (J : XJ) (r : XR) (Q : XQ), cl k as S I J r Q → XMt l d0 dC dI sV k as S I J r Q)
    (hnx : ∀ (pc : Nat) (L st : XV) (S : XS) (I : XI) (J : XJ) (r : XR) (cu su : Nat), nx pc L st S I J r cu su → XW p l e9 Rm s m args below meth c dC dI A a0 n0 sV nL mc ms Zf pc L st S I J r cu su)
    (hret : ∀ (pc : Nat) (L : XV) (cu su : Nat) (v : Option Value) (S : XS) (I : XI) (J : XJ) (r : XR), Q v S I J r → xretOk rt v → decode cc pc = .ok (xri v, 1) → XW p l e9 Rm s m args below meth c dC dI A a0 n0 sV nL mc ms Zf pc L v.toList S I J r cu su) {len a b d h n e : Nat} {z : Int32} {w : Int64} (hK : ∀ (L st : XV) (S : XS) (I : XI) (J : XJ) (r : XR) (cu su : Nat), K L st S I J r cu su → XW p l e9 Rm s m args below meth c dC dI A a0 n0 sV nL mc ms Zf (pc + len) L st S I J r cu su) (hok : ck56 own cc nL rt ini law pc len a b d h n e z w = true) (hst : xst sc cl nx Q mc ms K (56, len, a, b, d, h, n, e, z, w) L st S I J r cu su) : XW p l e9 Rm s m args below meth c dC dI A a0 n0 sV nL mc ms Zf pc L st S I J r cu su := by
  unfold ck56 at hok
  simp only [Bool.or_eq_true, Bool.and_eq_true, beq_iff_eq, decide_eq_true_eq, Bool.not_eq_true'] at hok
  obtain ⟨rfl, h3⟩ := hok
  simp only [xst] at hst
  split at hst
  · exact xs_strL F hst.1 hst.2.1 (xdec_ok h3) (hK _ _ _ _ _ _ _ _ hst.2.2)
  · exact hst.elim
theorem xi_57 (F : XFx p s m meth c args Rm cc own nL ini law sc mc ms A sV) {rt : Option FieldType} {d0 : Nat} {cl : XC} {nx : XN} {Q : XQ} (hfr : d0 + 1 ≤ Rm.frames) (hlo : 40 * (d0 + 1) ≤ Rm.locals)
    (hcl : ∀ (k : Nat) (as : XV) (S : XS) (I : XI) (J : XJ) (r : XR) (Q : XQ), cl k as S I J r Q → XMt l d0 dC dI sV k as S I J r Q)
    (hnx : ∀ (pc : Nat) (L st : XV) (S : XS) (I : XI) (J : XJ) (r : XR) (cu su : Nat), nx pc L st S I J r cu su → XW p l e9 Rm s m args below meth c dC dI A a0 n0 sV nL mc ms Zf pc L st S I J r cu su)
    (hret : ∀ (pc : Nat) (L : XV) (cu su : Nat) (v : Option Value) (S : XS) (I : XI) (J : XJ) (r : XR), Q v S I J r → xretOk rt v → decode cc pc = .ok (xri v, 1) → XW p l e9 Rm s m args below meth c dC dI A a0 n0 sV nL mc ms Zf pc L v.toList S I J r cu su) {len a b d h n e : Nat} {z : Int32} {w : Int64} (hK : ∀ (L st : XV) (S : XS) (I : XI) (J : XJ) (r : XR) (cu su : Nat), K L st S I J r cu su → XW p l e9 Rm s m args below meth c dC dI A a0 n0 sV nL mc ms Zf (pc + len) L st S I J r cu su) (hok : ck57 own cc nL rt ini law pc len a b d h n e z w = true) (hst : xst sc cl nx Q mc ms K (57, len, a, b, d, h, n, e, z, w) L st S I J r cu su) : XW p l e9 Rm s m args below meth c dC dI A a0 n0 sV nL mc ms Zf pc L st S I J r cu su := by
  unfold ck57 at hok
  simp only [Bool.or_eq_true, Bool.and_eq_true, beq_iff_eq, decide_eq_true_eq, Bool.not_eq_true'] at hok
  obtain ⟨rfl, h3⟩ := hok
  simp only [xst] at hst
  split at hst
  · exact xs_strB F hst.1 hst.2.1 hst.2.2.1 (xdec_ok h3) (hK _ _ _ _ _ _ _ _ hst.2.2.2)
  · exact hst.elim
theorem xi_58 (F : XFx p s m meth c args Rm cc own nL ini law sc mc ms A sV) {rt : Option FieldType} {d0 : Nat} {cl : XC} {nx : XN} {Q : XQ} (hfr : d0 + 1 ≤ Rm.frames) (hlo : 40 * (d0 + 1) ≤ Rm.locals)
    (hcl : ∀ (k : Nat) (as : XV) (S : XS) (I : XI) (J : XJ) (r : XR) (Q : XQ), cl k as S I J r Q → XMt l d0 dC dI sV k as S I J r Q)
    (hnx : ∀ (pc : Nat) (L st : XV) (S : XS) (I : XI) (J : XJ) (r : XR) (cu su : Nat), nx pc L st S I J r cu su → XW p l e9 Rm s m args below meth c dC dI A a0 n0 sV nL mc ms Zf pc L st S I J r cu su)
    (hret : ∀ (pc : Nat) (L : XV) (cu su : Nat) (v : Option Value) (S : XS) (I : XI) (J : XJ) (r : XR), Q v S I J r → xretOk rt v → decode cc pc = .ok (xri v, 1) → XW p l e9 Rm s m args below meth c dC dI A a0 n0 sV nL mc ms Zf pc L v.toList S I J r cu su) {len a b d h n e : Nat} {z : Int32} {w : Int64} (hK : ∀ (L st : XV) (S : XS) (I : XI) (J : XJ) (r : XR) (cu su : Nat), K L st S I J r cu su → XW p l e9 Rm s m args below meth c dC dI A a0 n0 sV nL mc ms Zf (pc + len) L st S I J r cu su) (hok : ck58 own cc nL rt ini law pc len a b d h n e z w = true) (hst : xst sc cl nx Q mc ms K (58, len, a, b, d, h, n, e, z, w) L st S I J r cu su) : XW p l e9 Rm s m args below meth c dC dI A a0 n0 sV nL mc ms Zf pc L st S I J r cu su := by
  unfold ck58 at hok
  simp only [Bool.or_eq_true, Bool.and_eq_true, beq_iff_eq, decide_eq_true_eq, Bool.not_eq_true'] at hok
  obtain ⟨⟨rfl, h2⟩, h3⟩ := hok
  exact xs_getS F (xw_in h2) (xdec_ok h3) (hK _ _ _ _ _ _ _ _ hst)
theorem xi_59 (F : XFx p s m meth c args Rm cc own nL ini law sc mc ms A sV) {rt : Option FieldType} {d0 : Nat} {cl : XC} {nx : XN} {Q : XQ} (hfr : d0 + 1 ≤ Rm.frames) (hlo : 40 * (d0 + 1) ≤ Rm.locals)
    (hcl : ∀ (k : Nat) (as : XV) (S : XS) (I : XI) (J : XJ) (r : XR) (Q : XQ), cl k as S I J r Q → XMt l d0 dC dI sV k as S I J r Q)
    (hnx : ∀ (pc : Nat) (L st : XV) (S : XS) (I : XI) (J : XJ) (r : XR) (cu su : Nat), nx pc L st S I J r cu su → XW p l e9 Rm s m args below meth c dC dI A a0 n0 sV nL mc ms Zf pc L st S I J r cu su)
    (hret : ∀ (pc : Nat) (L : XV) (cu su : Nat) (v : Option Value) (S : XS) (I : XI) (J : XJ) (r : XR), Q v S I J r → xretOk rt v → decode cc pc = .ok (xri v, 1) → XW p l e9 Rm s m args below meth c dC dI A a0 n0 sV nL mc ms Zf pc L v.toList S I J r cu su) {len a b d h n e : Nat} {z : Int32} {w : Int64} (hK : ∀ (L st : XV) (S : XS) (I : XI) (J : XJ) (r : XR) (cu su : Nat), K L st S I J r cu su → XW p l e9 Rm s m args below meth c dC dI A a0 n0 sV nL mc ms Zf (pc + len) L st S I J r cu su) (hok : ck59 own cc nL rt ini law pc len a b d h n e z w = true) (hst : xst sc cl nx Q mc ms K (59, len, a, b, d, h, n, e, z, w) L st S I J r cu su) : XW p l e9 Rm s m args below meth c dC dI A a0 n0 sV nL mc ms Zf pc L st S I J r cu su := by
  unfold ck59 at hok
  simp only [Bool.or_eq_true, Bool.and_eq_true, beq_iff_eq, decide_eq_true_eq, Bool.not_eq_true'] at hok
  obtain ⟨⟨rfl, h2⟩, h3⟩ := hok
  exact xs_getP F (xw_in h2) (xdec_ok h3) (hK _ _ _ _ _ _ _ _ hst)
theorem xi_60 (F : XFx p s m meth c args Rm cc own nL ini law sc mc ms A sV) {rt : Option FieldType} {d0 : Nat} {cl : XC} {nx : XN} {Q : XQ} (hfr : d0 + 1 ≤ Rm.frames) (hlo : 40 * (d0 + 1) ≤ Rm.locals)
    (hcl : ∀ (k : Nat) (as : XV) (S : XS) (I : XI) (J : XJ) (r : XR) (Q : XQ), cl k as S I J r Q → XMt l d0 dC dI sV k as S I J r Q)
    (hnx : ∀ (pc : Nat) (L st : XV) (S : XS) (I : XI) (J : XJ) (r : XR) (cu su : Nat), nx pc L st S I J r cu su → XW p l e9 Rm s m args below meth c dC dI A a0 n0 sV nL mc ms Zf pc L st S I J r cu su)
    (hret : ∀ (pc : Nat) (L : XV) (cu su : Nat) (v : Option Value) (S : XS) (I : XI) (J : XJ) (r : XR), Q v S I J r → xretOk rt v → decode cc pc = .ok (xri v, 1) → XW p l e9 Rm s m args below meth c dC dI A a0 n0 sV nL mc ms Zf pc L v.toList S I J r cu su) {len a b d h n e : Nat} {z : Int32} {w : Int64} (hK : ∀ (L st : XV) (S : XS) (I : XI) (J : XJ) (r : XR) (cu su : Nat), K L st S I J r cu su → XW p l e9 Rm s m args below meth c dC dI A a0 n0 sV nL mc ms Zf (pc + len) L st S I J r cu su) (hok : ck60 own cc nL rt ini law pc len a b d h n e z w = true) (hst : xst sc cl nx Q mc ms K (60, len, a, b, d, h, n, e, z, w) L st S I J r cu su) : XW p l e9 Rm s m args below meth c dC dI A a0 n0 sV nL mc ms Zf pc L st S I J r cu su := by
  unfold ck60 at hok
  simp only [Bool.or_eq_true, Bool.and_eq_true, beq_iff_eq, decide_eq_true_eq, Bool.not_eq_true'] at hok
  intro ls H locs ws tys hXH
  have hcu := hXH.2.2.2.2.1
  have hsu := hXH.2.2.2.2.2
  obtain ⟨⟨⟨⟨⟨⟨⟨⟨rfl, hc⟩, hm⟩, hn⟩, h1⟩, h2⟩, h4⟩, h5⟩, h6⟩ := hok
  refine (?_ : XW p l e9 Rm s m args below meth c dC dI A a0 n0 sV nL mc ms Zf pc L st S I J r cu su) ls H locs ws tys hXH
  simp only [xst] at hst
  obtain ⟨g1, g2, ⟨i, As, g3, g4⟩, hst⟩ := hst
  have ecu : cu + mck b = cu := by rw [hm]; rfl
  have esu : su + msk b = su := by rw [hn]; rfl
  exact xs_callX F hfr hlo (okCs_ok hc) h1 (xw_in h2) h4 h5 g1 (xdec_ok h6) g2 (by rw [ecu]; exact hcu) (by rw [esu]; exact hsu) g3 g4 (hcl _ _ _ _ _ _ _ hst) (fun v S I J r hk => by rw [ecu, esu]; exact hK _ _ _ _ _ _ _ _ hk)
theorem xi_61 (F : XFx p s m meth c args Rm cc own nL ini law sc mc ms A sV) {rt : Option FieldType} {d0 : Nat} {cl : XC} {nx : XN} {Q : XQ} (hfr : d0 + 1 ≤ Rm.frames) (hlo : 40 * (d0 + 1) ≤ Rm.locals)
    (hcl : ∀ (k : Nat) (as : XV) (S : XS) (I : XI) (J : XJ) (r : XR) (Q : XQ), cl k as S I J r Q → XMt l d0 dC dI sV k as S I J r Q)
    (hnx : ∀ (pc : Nat) (L st : XV) (S : XS) (I : XI) (J : XJ) (r : XR) (cu su : Nat), nx pc L st S I J r cu su → XW p l e9 Rm s m args below meth c dC dI A a0 n0 sV nL mc ms Zf pc L st S I J r cu su)
    (hret : ∀ (pc : Nat) (L : XV) (cu su : Nat) (v : Option Value) (S : XS) (I : XI) (J : XJ) (r : XR), Q v S I J r → xretOk rt v → decode cc pc = .ok (xri v, 1) → XW p l e9 Rm s m args below meth c dC dI A a0 n0 sV nL mc ms Zf pc L v.toList S I J r cu su) {len a b d h n e : Nat} {z : Int32} {w : Int64} (hK : ∀ (L st : XV) (S : XS) (I : XI) (J : XJ) (r : XR) (cu su : Nat), K L st S I J r cu su → XW p l e9 Rm s m args below meth c dC dI A a0 n0 sV nL mc ms Zf (pc + len) L st S I J r cu su) (hok : ck61 own cc nL rt ini law pc len a b d h n e z w = true) (hst : xst sc cl nx Q mc ms K (61, len, a, b, d, h, n, e, z, w) L st S I J r cu su) : XW p l e9 Rm s m args below meth c dC dI A a0 n0 sV nL mc ms Zf pc L st S I J r cu su := by
  unfold ck61 at hok
  simp only [Bool.or_eq_true, Bool.and_eq_true, beq_iff_eq, decide_eq_true_eq, Bool.not_eq_true'] at hok
  obtain ⟨⟨⟨⟨⟨⟨⟨rfl, h1⟩, h2⟩, h3⟩, h4⟩, h5⟩, h6⟩, h7⟩ := hok
  have h6 : ((xC b).2.1 d).2.2.2 = false ∨ (((xC b).2.1 d).2.2.2 = true ∧ ini = true ∧ ((xC b).2.1 d).1 = own) := by
    rcases h6 with h6 | h6
    · exact Or.inl h6
    · exact Or.inr ⟨h6.1.1, h6.1.2, h6.2⟩
  simp only [xst] at hst
  split at hst
  · exact xs_putI F h1 h2 h3 (Or.inr ⟨h7, hst.1⟩) (xw_in h4) h6 (xdec_ok h5) hst.2.1 (hK _ _ _ _ _ _ _ _ hst.2.2)
  · exact hst.elim
theorem xs_ins (F : XFx p s m meth c args Rm cc own nL ini law sc mc ms A sV) {rt : Option FieldType} {d0 : Nat} {cl : XC} {nx : XN} {Q : XQ} (hfr : d0 + 1 ≤ Rm.frames) (hlo : 40 * (d0 + 1) ≤ Rm.locals)
    (hcl : ∀ (k : Nat) (as : XV) (S : XS) (I : XI) (J : XJ) (r : XR) (Q : XQ), cl k as S I J r Q → XMt l d0 dC dI sV k as S I J r Q)
    (hnx : ∀ (pc : Nat) (L st : XV) (S : XS) (I : XI) (J : XJ) (r : XR) (cu su : Nat), nx pc L st S I J r cu su → XW p l e9 Rm s m args below meth c dC dI A a0 n0 sV nL mc ms Zf pc L st S I J r cu su)
    (hret : ∀ (pc : Nat) (L : XV) (cu su : Nat) (v : Option Value) (S : XS) (I : XI) (J : XJ) (r : XR), Q v S I J r → xretOk rt v → decode cc pc = .ok (xri v, 1) → XW p l e9 Rm s m args below meth c dC dI A a0 n0 sV nL mc ms Zf pc L v.toList S I J r cu su) {i : XO} (hK : ∀ (L st : XV) (S : XS) (I : XI) (J : XJ) (r : XR) (cu su : Nat), K L st S I J r cu su → XW p l e9 Rm s m args below meth c dC dI A a0 n0 sV nL mc ms Zf (pc + i.2.1) L st S I J r cu su) (hok : xins own cc nL rt ini law pc i = true) (hst : xst sc cl nx Q mc ms K i L st S I J r cu su) : XW p l e9 Rm s m args below meth c dC dI A a0 n0 sV nL mc ms Zf pc L st S I J r cu su := by
  obtain ⟨op, len, a, b, d, h, n, e, z, w⟩ := i
  by_cases e0 : op = 0
  · subst e0
    exact xi_0 F hfr hlo hcl hnx hret hK hok hst
  by_cases e1 : op = 1
  · subst e1
    exact xi_1 F hfr hlo hcl hnx hret hK hok hst
  by_cases e2 : op = 2
  · subst e2
    exact xi_2 F hfr hlo hcl hnx hret hK hok hst
  by_cases e3 : op = 3
  · subst e3
    exact xi_3 F hfr hlo hcl hnx hret hK hok hst
  by_cases e4 : op = 4
  · subst e4
    exact xi_4 F hfr hlo hcl hnx hret hK hok hst
  by_cases e5 : op = 5
  · subst e5
    exact xi_5 F hfr hlo hcl hnx hret hK hok hst
  by_cases e6 : op = 6
  · subst e6
    exact xi_6 F hfr hlo hcl hnx hret hK hok hst
  by_cases e7 : op = 7
  · subst e7
    exact xi_7 F hfr hlo hcl hnx hret hK hok hst
  by_cases e8 : op = 8
  · subst e8
    exact xi_8 F hfr hlo hcl hnx hret hK hok hst
  by_cases e9 : op = 9
  · subst e9
    exact xi_9 F hfr hlo hcl hnx hret hK hok hst
  by_cases e10 : op = 10
  · subst e10
    exact xi_10 F hfr hlo hcl hnx hret hK hok hst
  by_cases e11 : op = 11
  · subst e11
    exact xi_11 F hfr hlo hcl hnx hret hK hok hst
  by_cases e12 : op = 12
  · subst e12
    exact xi_12 F hfr hlo hcl hnx hret hK hok hst
  by_cases e13 : op = 13
  · subst e13
    exact xi_13 F hfr hlo hcl hnx hret hK hok hst
  by_cases e14 : op = 14
  · subst e14
    exact xi_14 F hfr hlo hcl hnx hret hK hok hst
  by_cases e15 : op = 15
  · subst e15
    exact xi_15 F hfr hlo hcl hnx hret hK hok hst
  by_cases e16 : op = 16
  · subst e16
    exact xi_16 F hfr hlo hcl hnx hret hK hok hst
  by_cases e17 : op = 17
  · subst e17
    exact xi_17 F hfr hlo hcl hnx hret hK hok hst
  by_cases e18 : op = 18
  · subst e18
    exact xi_18 F hfr hlo hcl hnx hret hK hok hst
  by_cases e19 : op = 19
  · subst e19
    exact xi_19 F hfr hlo hcl hnx hret hK hok hst
  by_cases e20 : op = 20
  · subst e20
    exact xi_20 F hfr hlo hcl hnx hret hK hok hst
  by_cases e21 : op = 21
  · subst e21
    exact xi_21 F hfr hlo hcl hnx hret hK hok hst
  by_cases e22 : op = 22
  · subst e22
    exact xi_22 F hfr hlo hcl hnx hret hK hok hst
  by_cases e23 : op = 23
  · subst e23
    exact xi_23 F hfr hlo hcl hnx hret hK hok hst
  by_cases e24 : op = 24
  · subst e24
    exact xi_24 F hfr hlo hcl hnx hret hK hok hst
  by_cases e25 : op = 25
  · subst e25
    exact xi_25 F hfr hlo hcl hnx hret hK hok hst
  by_cases e26 : op = 26
  · subst e26
    exact xi_26 F hfr hlo hcl hnx hret hK hok hst
  by_cases e27 : op = 27
  · subst e27
    exact xi_27 F hfr hlo hcl hnx hret hK hok hst
  by_cases e28 : op = 28
  · subst e28
    exact xi_28 F hfr hlo hcl hnx hret hK hok hst
  by_cases e29 : op = 29
  · subst e29
    exact xi_29 F hfr hlo hcl hnx hret hK hok hst
  by_cases e30 : op = 30
  · subst e30
    exact xi_30 F hfr hlo hcl hnx hret hK hok hst
  by_cases e31 : op = 31
  · subst e31
    exact xi_31 F hfr hlo hcl hnx hret hK hok hst
  by_cases e32 : op = 32
  · subst e32
    exact xi_32 F hfr hlo hcl hnx hret hK hok hst
  by_cases e33 : op = 33
  · subst e33
    exact xi_33 F hfr hlo hcl hnx hret hK hok hst
  by_cases e34 : op = 34
  · subst e34
    exact xi_34 F hfr hlo hcl hnx hret hK hok hst
  by_cases e35 : op = 35
  · subst e35
    exact xi_35 F hfr hlo hcl hnx hret hK hok hst
  by_cases e36 : op = 36
  · subst e36
    exact xi_36 F hfr hlo hcl hnx hret hK hok hst
  by_cases e37 : op = 37
  · subst e37
    exact xi_37 F hfr hlo hcl hnx hret hK hok hst
  by_cases e38 : op = 38
  · subst e38
    exact xi_38 F hfr hlo hcl hnx hret hK hok hst
  by_cases e39 : op = 39
  · subst e39
    exact xi_39 F hfr hlo hcl hnx hret hK hok hst
  by_cases e40 : op = 40
  · subst e40
    exact xi_40 F hfr hlo hcl hnx hret hK hok hst
  by_cases e42 : op = 42
  · subst e42
    exact xi_42 F hfr hlo hcl hnx hret hK hok hst
  by_cases e43 : op = 43
  · subst e43
    exact xi_43 F hfr hlo hcl hnx hret hK hok hst
  by_cases e44 : op = 44
  · subst e44
    exact xi_44 F hfr hlo hcl hnx hret hK hok hst
  by_cases e45 : op = 45
  · subst e45
    exact xi_45 F hfr hlo hcl hnx hret hK hok hst
  by_cases e46 : op = 46
  · subst e46
    exact xi_46 F hfr hlo hcl hnx hret hK hok hst
  by_cases e47 : op = 47
  · subst e47
    exact xi_47 F hfr hlo hcl hnx hret hK hok hst
  by_cases e48 : op = 48
  · subst e48
    exact xi_48 F hfr hlo hcl hnx hret hK hok hst
  by_cases e49 : op = 49
  · subst e49
    exact xi_49 F hfr hlo hcl hnx hret hK hok hst
  by_cases e50 : op = 50
  · subst e50
    exact xi_50 F hfr hlo hcl hnx hret hK hok hst
  by_cases e51 : op = 51
  · subst e51
    exact xi_51 F hfr hlo hcl hnx hret hK hok hst
  by_cases e52 : op = 52
  · subst e52
    exact xi_52 F hfr hlo hcl hnx hret hK hok hst
  by_cases e53 : op = 53
  · subst e53
    exact xi_53 F hfr hlo hcl hnx hret hK hok hst
  by_cases e54 : op = 54
  · subst e54
    exact xi_54 F hfr hlo hcl hnx hret hK hok hst
  by_cases e55 : op = 55
  · subst e55
    exact xi_55 F hfr hlo hcl hnx hret hK hok hst
  by_cases e56 : op = 56
  · subst e56
    exact xi_56 F hfr hlo hcl hnx hret hK hok hst
  by_cases e57 : op = 57
  · subst e57
    exact xi_57 F hfr hlo hcl hnx hret hK hok hst
  by_cases e58 : op = 58
  · subst e58
    exact xi_58 F hfr hlo hcl hnx hret hK hok hst
  by_cases e59 : op = 59
  · subst e59
    exact xi_59 F hfr hlo hcl hnx hret hK hok hst
  by_cases e60 : op = 60
  · subst e60
    exact xi_60 F hfr hlo hcl hnx hret hK hok hst
  by_cases e61 : op = 61
  · subst e61
    exact xi_61 F hfr hlo hcl hnx hret hK hok hst
  exfalso
  unfold xins at hok
  simp only at hok
  first | cases hok | (split at hok <;> first | (simp_all; done) | cases hok)
def xblkOk (own : String) (cc : ByteArray) (nL : Nat) (rt : Option FieldType) (ini law : Bool) : Nat → List XO → Bool
  | _, [] => true
  | pc, i :: is => xins own cc nL rt ini law pc i && xblkOk own cc nL rt ini law (pc + i.2.1) is
theorem xs_blk (F : XFx p s m meth c args Rm cc own nL ini law sc mc ms A sV) {rt : Option FieldType} {d0 : Nat} {cl : XC} {nx : XN} {Q : XQ} (hfr : d0 + 1 ≤ Rm.frames) (hlo : 40 * (d0 + 1) ≤ Rm.locals)
    (hcl : ∀ (k : Nat) (as : XV) (S : XS) (I : XI) (J : XJ) (r : XR) (Q : XQ), cl k as S I J r Q → XMt l d0 dC dI sV k as S I J r Q)
    (hnx : ∀ (pc : Nat) (L st : XV) (S : XS) (I : XI) (J : XJ) (r : XR) (cu su : Nat), nx pc L st S I J r cu su → XW p l e9 Rm s m args below meth c dC dI A a0 n0 sV nL mc ms Zf pc L st S I J r cu su)
    (hret : ∀ (pc : Nat) (L : XV) (cu su : Nat) (v : Option Value) (S : XS) (I : XI) (J : XJ) (r : XR), Q v S I J r → xretOk rt v → decode cc pc = .ok (xri v, 1) → XW p l e9 Rm s m args below meth c dC dI A a0 n0 sV nL mc ms Zf pc L v.toList S I J r cu su) : ∀ (is : List XO) (pc : Nat) (L st : XV) (S : XS) (I : XI) (J : XJ) (r : XR) (cu su : Nat), xblkOk own cc nL rt ini law pc is = true → xwp sc cl nx Q mc ms is L st S I J r cu su → XW p l e9 Rm s m args below meth c dC dI A a0 n0 sV nL mc ms Zf pc L st S I J r cu su
  | [], _, _, _, _, _, _, _, _, _, _, h => h.elim
  | i :: is, pc, L, st, S, I, J, r, cu, su, hok, hst => by
    have hok := Bool.and_eq_true_iff.mp hok
    exact xs_ins F hfr hlo hcl hnx hret (fun L st S I J r cu su h => xs_blk F hfr hlo hcl hnx hret is _ L st S I J r cu su hok.2 h) hok.1 hst
end XOps
end
