-- the words that can be handed on
def xW : List Cond := lw_tbl.filter goodWord
/-- a word by its place, without a walk over all tables -/
def xlk (h : Nat) : Option Cond := if h < 140 then (k2_sels lw_privs)[h]? else match (h - 140) / 240 with
  | 0 => tables_1_1[(h - 140) % 240]?
  | 1 => tables_1_2[(h - 140) % 240]?
  | 2 => tables_1_3[(h - 140) % 240]?
  | 3 => tables_1_4[(h - 140) % 240]?
  | 4 => tables_1_5[(h - 140) % 240]?
  | 5 => tables_1_6[(h - 140) % 240]?
  | 6 => tables_1_7[(h - 140) % 240]?
  | 7 => tables_1_8[(h - 140) % 240]?
  | _ => tables_1_9[(h - 140) % 240]?
theorem xlk_in {h : Nat} {w : Cond} (q : xlk h = some w) : w ∈ lw_tbl := by
  unfold xlk at q
  unfold lw_tbl tables_1
  split at q
  · exact List.mem_append_left _ (List.mem_of_getElem? q)
  · split at q
    · exact List.mem_append_right _ (List.mem_append_left _ (List.mem_of_getElem? q))
    · exact List.mem_append_right _ (List.mem_append_right _ (List.mem_append_left _ (List.mem_of_getElem? q)))
    · exact List.mem_append_right _ (List.mem_append_right _ (List.mem_append_right _ (List.mem_append_left _ (List.mem_of_getElem? q))))
    · exact List.mem_append_right _ (List.mem_append_right _ (List.mem_append_right _ (List.mem_append_right _ (List.mem_append_left _ (List.mem_of_getElem? q)))))
    · exact List.mem_append_right _ (List.mem_append_right _ (List.mem_append_right _ (List.mem_append_right _ (List.mem_append_right _ (List.mem_append_left _ (List.mem_of_getElem? q))))))
    · exact List.mem_append_right _ (List.mem_append_right _ (List.mem_append_right _ (List.mem_append_right _ (List.mem_append_right _ (List.mem_append_right _ (List.mem_append_left _ (List.mem_of_getElem? q)))))))
    · exact List.mem_append_right _ (List.mem_append_right _ (List.mem_append_right _ (List.mem_append_right _ (List.mem_append_right _ (List.mem_append_right _ (List.mem_append_right _ (List.mem_append_left _ (List.mem_of_getElem? q))))))))
    · exact List.mem_append_right _ (List.mem_append_right _ (List.mem_append_right _ (List.mem_append_right _ (List.mem_append_right _ (List.mem_append_right _ (List.mem_append_right _ (List.mem_append_right _ (List.mem_append_left _ (List.mem_of_getElem? q)))))))))
    · exact List.mem_append_right _ (List.mem_append_right _ (List.mem_append_right _ (List.mem_append_right _ (List.mem_append_right _ (List.mem_append_right _ (List.mem_append_right _ (List.mem_append_right _ (List.mem_append_right _ (List.mem_of_getElem? q)))))))))
def xw (h : Nat) (w : Cond) : Bool := decide (xlk h = some w) && goodWord w
theorem xw_in {h : Nat} {w : Cond} (q : xw h w = true) : w ∈ xW := by
  unfold xw at q
  rw [Bool.and_eq_true] at q
  exact List.mem_filter.mpr ⟨xlk_in (of_decide_eq_true q.1), q.2⟩
def cR0 : String := "FreckleChart$Coast"
def cT0 : u_T := fun k => match k with
  | 0 => ("FreckleChart$Coast", "wide", "I", false)
  | 1 => ("FreckleChart$Coast", "high", "I", false)
  | 2 => ("FreckleChart$Coast", "odds", "I", false)
  | 3 => ("FreckleChart$Coast", "rocks", "I", false)
  | 4 => ("FreckleChart$Coast", "rockCells", "[I", true)
  | 5 => ("FreckleChart$Coast", "rockDepths", "[I", true)
  | 6 => ("FreckleChart$Coast", "shallow", "[I", true)
  | 7 => ("FreckleChart$Coast", "cousins", "I", false)
  | 8 => ("FreckleChart$Coast", "names", "[J", true)
  | 9 => ("FreckleChart$Coast", "firstCells", "[I", true)
  | 10 => ("FreckleChart$Coast", "patchWides", "[I", true)
  | 11 => ("FreckleChart$Coast", "patchHighs", "[I", true)
  | 12 => ("FreckleChart$Coast", "patches", "[I", true)
  | 13 => ("FreckleChart$Coast", "tans", "[I", true)
  | 14 => ("FreckleChart$Coast", "inked", "[I", true)
  | 15 => ("FreckleChart$Coast", "veiled", "I", false)
  | 16 => ("FreckleChart$Coast", "struck", "I", false)
  | 17 => ("FreckleChart$Coast", "cameIn", "I", false)
  | _ => ("FreckleChart$Coast", "years", "LFreckleChart$Years;", true)
def cR1 : String := "FreckleChart$CoastText"
def cT1 : u_T := fun k => match k with
  | 0 => ("FreckleChart$CoastText", "reader", "LFreckleChart$Reader;", true)
  | 1 => ("FreckleChart$CoastText", "sizeTold", "Z", false)
  | _ => ("FreckleChart$CoastText", "oddsTold", "Z", false)
def cR2 : String := "FreckleChart$Fraction"
def cT2 : u_T := fun k => match k with
  | 0 => ("FreckleChart$Fraction", "above", "J", false)
  | 1 => ("FreckleChart$Fraction", "below", "J", false)
  | _ => ("FreckleChart$Fraction", "ways", "[J", true)
def cR3 : String := "FreckleChart$Living"
def cT3 : u_T := fun k => match k with
  | 0 => ("FreckleChart$Living", "pilot", "LFreckleChart$Pilot;", true)
  | 1 => ("FreckleChart$Living", "roundsLeft", "[I", true)
  | 2 => ("FreckleChart$Living", "drawn", "I", false)
  | 3 => ("FreckleChart$Living", "steps", "I", false)
  | 4 => ("FreckleChart$Living", "missed", "I", false)
  | 5 => ("FreckleChart$Living", "struck", "I", false)
  | 6 => ("FreckleChart$Living", "cameIn", "I", false)
  | 7 => ("FreckleChart$Living", "darkened", "I", false)
  | _ => ("FreckleChart$Living", "isLeft", "Z", false)
def cR4 : String := "FreckleChart$Pilot"
def cT4 : u_T := fun k => match k with
  | 0 => ("FreckleChart$Pilot", "cells", "[I", true)
  | 1 => ("FreckleChart$Pilot", "length", "I", false)
  | 2 => ("FreckleChart$Pilot", "rings", "[I", true)
  | 3 => ("FreckleChart$Pilot", "wide", "I", false)
  | 4 => ("FreckleChart$Pilot", "firstColumn", "I", false)
  | _ => ("FreckleChart$Pilot", "lastColumn", "I", false)
def cR5 : String := "FreckleChart$Reader"
def cT5 : u_T := fun k => match k with
  | 0 => ("FreckleChart$Reader", "text", "[B", true)
  | 1 => ("FreckleChart$Reader", "length", "I", false)
  | 2 => ("FreckleChart$Reader", "next", "I", false)
  | 3 => ("FreckleChart$Reader", "place", "I", false)
  | 4 => ("FreckleChart$Reader", "kind", "I", false)
  | 5 => ("FreckleChart$Reader", "code", "J", false)
  | 6 => ("FreckleChart$Reader", "number", "I", false)
  | 7 => ("FreckleChart$Reader", "sign", "I", false)
  | 8 => ("FreckleChart$Reader", "fault", "I", false)
  | _ => ("FreckleChart$Reader", "faultPlace", "I", false)
def cR6 : String := "FreckleChart$Trays"
def cT6 : u_T := fun k => match k with
  | 0 => ("FreckleChart$Trays", "rows", "[[J", true)
  | 1 => ("FreckleChart$Trays", "sorts", "[I", true)
  | _ => ("FreckleChart$Trays", "lengths", "[I", true)
def cR7 : String := "FreckleChart$Years"
def cT7 : u_T := fun k => match k with
  | 0 => ("FreckleChart$Years", "there", "Z", false)
  | 1 => ("FreckleChart$Years", "steps", "I", false)
  | 2 => ("FreckleChart$Years", "lines", "I", false)
  | 3 => ("FreckleChart$Years", "kinds", "[I", true)
  | 4 => ("FreckleChart$Years", "whose", "[I", true)
  | 5 => ("FreckleChart$Years", "firsts", "[I", true)
  | 6 => ("FreckleChart$Years", "seconds", "[I", true)
  | 7 => ("FreckleChart$Years", "thirds", "[I", true)
  | _ => ("FreckleChart$Years", "partners", "[I", true)
def cR8 : String := "FreckleChart$YearsText"
def cT8 : u_T := fun k => match k with
  | 0 => ("FreckleChart$YearsText", "reader", "LFreckleChart$Reader;", true)
  | 1 => ("FreckleChart$YearsText", "opened", "[I", true)
  | _ => ("FreckleChart$YearsText", "nested", "I", false)
def cR9 : String := "FreckleChart"
def cT9 : u_T := fun k => match k with
  | 0 => ("FreckleChart", "fraction", "LFreckleChart$Fraction;", true)
  | 1 => ("FreckleChart", "trays", "LFreckleChart$Trays;", true)
  | 2 => ("FreckleChart", "tape", "[B", true)
  | 3 => ("FreckleChart", "coastText", "LFreckleChart$CoastText;", true)
  | 4 => ("FreckleChart", "yearsText", "LFreckleChart$YearsText;", true)
  | 5 => ("FreckleChart", "pilot", "LFreckleChart$Pilot;", true)
  | 6 => ("FreckleChart", "living", "LFreckleChart$Living;", true)
  | 7 => ("FreckleChart", "latestLived", "[I", true)
  | 8 => ("FreckleChart", "coast", "LFreckleChart$Coast;", true)
  | 9 => ("FreckleChart", "draftCoast", "LFreckleChart$Coast;", true)
  | 10 => ("FreckleChart", "kept", "[LFreckleChart$Coast;", true)
  | 11 => ("FreckleChart", "marks", "I", false)
  | 12 => ("FreckleChart", "taped", "I", false)
  | 13 => ("FreckleChart", "latestStatus", "I", false)
  | 14 => ("FreckleChart", "latestFault", "I", false)
  | 15 => ("FreckleChart", "latestFaultPlace", "I", false)
  | _ => ("FreckleChart", "hasLived", "Z", false)
def cR10 : String := "FreckleChartModel"
def cT10 : u_T := fun k => match k with
  | 0 => ("FreckleChartModel", "status", "I", false)
  | 1 => ("FreckleChartModel", "thrown", "I", false)
  | 2 => ("FreckleChartModel", "above", "J", false)
  | 3 => ("FreckleChartModel", "under", "J", false)
  | 4 => ("FreckleChartModel", "traySort", "[I", true)
  | 5 => ("FreckleChartModel", "trayMany", "[I", true)
  | 6 => ("FreckleChartModel", "numbers", "[J", true)
  | 7 => ("FreckleChartModel", "tape", "[B", true)
  | 8 => ("FreckleChartModel", "taped", "I", false)
  | 9 => ("FreckleChartModel", "textEnd", "I", false)
  | 10 => ("FreckleChartModel", "faultKind", "I", false)
  | 11 => ("FreckleChartModel", "faultAt", "I", false)
  | 12 => ("FreckleChartModel", "bad", "I", false)
  | 13 => ("FreckleChartModel", "badAt", "I", false)
  | 14 => ("FreckleChartModel", "token", "I", false)
  | 15 => ("FreckleChartModel", "at", "I", false)
  | 16 => ("FreckleChartModel", "behind", "I", false)
  | 17 => ("FreckleChartModel", "number", "I", false)
  | 18 => ("FreckleChartModel", "letters", "I", false)
  | 19 => ("FreckleChartModel", "word", "J", false)
  | 20 => ("FreckleChartModel", "c", "[I", true)
  | 21 => ("FreckleChartModel", "before", "[I", true)
  | 22 => ("FreckleChartModel", "words", "[J", true)
  | 23 => ("FreckleChartModel", "markMany", "I", false)
  | 24 => ("FreckleChartModel", "toldCoast", "Z", false)
  | 25 => ("FreckleChartModel", "toldOdds", "Z", false)
  | 26 => ("FreckleChartModel", "newSteps", "I", false)
  | 27 => ("FreckleChartModel", "fars", "[I", true)
  | 28 => ("FreckleChartModel", "fitMany", "I", false)
  | 29 => ("FreckleChartModel", "firstMove", "I", false)
  | 30 => ("FreckleChartModel", "chances", "[J", true)
  | 31 => ("FreckleChartModel", "livedLast", "[I", true)
  | 32 => ("FreckleChartModel", "hasLived", "Z", false)
  | 33 => ("FreckleChartModel", "isOver", "Z", false)
  | 34 => ("FreckleChartModel", "random", "I", false)
  | 35 => ("FreckleChartModel", "done", "I", false)
  | 36 => ("FreckleChartModel", "missed", "I", false)
  | 37 => ("FreckleChartModel", "struckAhead", "I", false)
  | 38 => ("FreckleChartModel", "cameAhead", "I", false)
  | 39 => ("FreckleChartModel", "darker", "I", false)
  | _ => ("FreckleChartModel", "leftOver", "I", false)
abbrev xcl : List vw_C := [(cR0, cT0, 19), (cR1, cT1, 3), (cR2, cT2, 3), (cR3, cT3, 9), (cR4, cT4, 6), (cR5, cT5, 10), (cR6, cT6, 3), (cR7, cT7, 9), (cR8, cT8, 3), (cR9, cT9, 17), (cR10, cT10, 41)]
def xtyl : List (List FieldType) := [[.int, .int, .int, .int, .array (.int), .array (.int), .array (.int), .int, .array (.long), .array (.int), .array (.int), .array (.int), .array (.int), .array (.int), .array (.int), .int, .int, .int, .object "FreckleChart$Years"],
  [.object "FreckleChart$Reader", .boolean, .boolean],
  [.long, .long, .array (.long)],
  [.object "FreckleChart$Pilot", .array (.int), .int, .int, .int, .int, .int, .int, .boolean],
  [.array (.int), .int, .array (.int), .int, .int, .int],
  [.array (.byte), .int, .int, .int, .int, .long, .int, .int, .int, .int],
  [.array (.array (.long)), .array (.int), .array (.int)],
  [.boolean, .int, .int, .array (.int), .array (.int), .array (.int), .array (.int), .array (.int), .array (.int)],
  [.object "FreckleChart$Reader", .array (.int), .int],
  [.object "FreckleChart$Fraction", .object "FreckleChart$Trays", .array (.byte), .object "FreckleChart$CoastText", .object "FreckleChart$YearsText", .object "FreckleChart$Pilot", .object "FreckleChart$Living", .array (.int), .object "FreckleChart$Coast", .object "FreckleChart$Coast", .array (.object "FreckleChart$Coast"), .int, .int, .int, .int, .int, .boolean],
  [.int, .int, .long, .long, .array (.int), .array (.int), .array (.long), .array (.byte), .int, .int, .int, .int, .int, .int, .int, .int, .int, .int, .int, .long, .array (.int), .array (.int), .array (.long), .int, .boolean, .boolean, .int, .array (.int), .int, .int, .array (.long), .array (.int), .boolean, .boolean, .int, .int, .int, .int, .int, .int, .int]]
def xty (t k : Nat) : FieldType := (xtyl.getD t []).getD k .int
def xkdl : List (List Nat) := [[0, 0, 0, 0, 2, 2, 2, 0, 2, 2, 2, 2, 2, 2, 2, 0, 0, 0, 2],
  [2, 0, 0],
  [1, 1, 2],
  [2, 2, 0, 0, 0, 0, 0, 0, 0],
  [2, 0, 2, 0, 0, 0],
  [2, 0, 0, 0, 0, 1, 0, 0, 0, 0],
  [2, 2, 2],
  [0, 0, 0, 2, 2, 2, 2, 2, 2],
  [2, 2, 0],
  [2, 2, 2, 2, 2, 2, 2, 2, 2, 2, 2, 0, 0, 0, 0, 0, 0],
  [0, 0, 1, 1, 2, 2, 2, 2, 0, 0, 0, 0, 0, 0, 0, 0, 0, 0, 0, 1, 2, 2, 2, 0, 0, 0, 0, 2, 0, 0, 2, 2, 0, 0, 0, 0, 0, 0, 0, 0, 0]]
/-- a field: 0 an int of a kind, 1 a long, 2 a reference -/
def xkd (t k : Nat) : Nat := (xkdl.getD t []).getD k 9
def xlyl : List (List Nat) := [[476, 478, 480, 482, 484, 486, 488, 490, 492, 494, 496, 498, 500, 502, 504, 506, 508, 510, 512],
  [263, 265, 267],
  [178, 180, 182],
  [339, 341, 343, 345, 347, 349, 351, 353, 355],
  [303, 305, 307, 309, 311, 313],
  [237, 239, 241, 243, 245, 247, 249, 251, 253, 255],
  [198, 200, 202],
  [395, 397, 399, 401, 403, 405, 407, 409, 411],
  [282, 284, 286],
  [533, 535, 537, 539, 541, 543, 545, 547, 549, 551, 553, 555, 557, 559, 561, 563, 565],
  [1418, 1420, 1422, 1424, 1426, 1428, 1430, 1432, 1434, 1436, 1438, 1440, 1442, 1444, 1446, 1448, 1450, 1452, 1454, 1456, 1458, 1460, 1462, 1464, 1466, 1468, 1470, 1472, 1474, 1476, 1478, 1480, 1482, 1484, 1486, 1488, 1490, 1492, 1494, 1496, 1498]]
def nfl : List Nat := [19, 3, 3, 9, 6, 10, 3, 9, 3, 17, 41]
def nfc (t : Nat) : Nat := nfl.getD t 0
/-- what an array of a kind holds -/
def xaty (t : Nat) : FieldType := match t with
  | 100 => .int
  | 101 => .long
  | 102 => .byte
  | 103 => .object "FreckleChart$Coast"
  | _ => .array .long
-- methods: name, code, locals, what it returns; the place of its code word
abbrev XM : Type := MethodName × ByteArray × Nat × Option FieldType
def mlkl : List Nat := [1, 1, 1, 1, 1, 1, 1, 1, 1, 1, 1, 2, 1, 1, 1, 1, 4, 5, 1, 2, 5, 6, 4, 3, 3, 4, 6, 6, 6, 3, 3, 2, 6, 3, 2, 2, 1, 1, 1, 2,
  5, 1, 1, 2, 1, 2, 2, 3, 2, 2, 1, 2, 2, 2, 3, 1, 2, 1, 2, 3, 3, 4, 4, 2, 7, 4, 6, 2, 2, 6, 7, 3, 2, 3, 2, 5, 2, 3, 1, 2,
  2, 2, 2, 2, 3, 9, 3, 2, 3, 2, 1, 5, 4, 5, 5, 3, 5, 2, 2, 1, 3, 3, 3, 3, 2, 2, 2, 4, 3, 3, 2, 4, 3, 4, 3, 3, 3, 6, 6, 6,
  2, 1, 4, 2, 4, 6, 3, 6, 2, 4, 1, 3, 5, 4, 4, 2, 2, 2, 5, 6, 7, 5, 9, 6, 4, 6, 4, 2, 4, 2, 5, 1, 6, 9, 2, 5, 7, 5, 3, 10,
  10, 2, 6, 3, 7, 6, 7, 7, 7, 7, 11, 4, 3, 2, 6, 4, 6, 4, 5, 3, 2, 4, 5, 3, 2, 6, 3, 1, 2, 2, 4, 1, 1, 1, 5, 2, 5, 4, 2, 3,
  3, 9, 6, 3, 2, 2, 3, 2, 2, 1, 1, 2, 1, 1, 8, 3, 1, 3, 4, 3, 1, 6, 2, 1, 4, 1, 1, 1, 4, 5, 1, 5, 1, 6, 1, 1, 1, 1, 1, 1,
  1, 1, 1, 1, 1, 3, 6, 2, 5, 7, 2, 2, 1, 4, 3, 5, 3, 3, 2, 1, 2, 2, 3, 3, 3, 2, 3, 2, 3, 2, 4, 2, 4, 3, 2, 3, 3, 2, 4, 3,
  3, 3, 3, 3, 3, 4, 5, 2, 6, 6, 4, 2, 1, 6, 8, 4, 4, 3, 1, 4, 4, 3, 2, 2, 5, 7, 6, 5, 6, 5, 5, 5, 4, 2, 3, 3, 2, 5, 2, 5,
  6, 3, 5, 9, 4, 4, 7, 9, 2, 10, 3, 2, 6, 9, 11, 2, 3, 2, 2, 2, 4, 5, 4, 3, 2, 2, 5, 2, 7, 1, 1, 4]
def mlk (k : Nat) : Nat := mlkl.getD k 0
def mck (k : Nat) : Nat := match k with
  | 0 => 64
  | 2 => 1
  | 3 => 7
  | 4 => 2
  | 5 => 1
  | 6 => 3
  | 7 => 2
  | 8 => 4
  | 9 => 17
  | 10 => 6
  | 187 => 18
  | 189 => 10
  | 351 => 600000
  | _ => 0
def msk (k : Nat) : Nat := match k with
  | 0 => 4156
  | 2 => 16
  | 3 => 252
  | 4 => 910
  | 5 => 900
  | 6 => 913
  | 7 => 61
  | 8 => 127
  | 9 => 452
  | 10 => 360
  | 187 => 471
  | 189 => 3027
  | 351 => 7302250
  | _ => 0
def xicl : List Nat := [163, 166, 171, 190, 210, 216, 274, 293, 320, 362, 368, 417, 421, 571, 575, 579, 583, 587, 590, 594, 598, 602, 606, 610, 613, 617, 623, 627, 634, 638,
  642, 646, 650, 654, 657, 660, 665, 669, 673, 677, 683, 687, 691, 697, 701, 704, 707, 712, 715, 718, 721, 725, 735, 739, 744, 748, 754, 759, 764, 769,
  773, 778, 783, 787, 791, 796, 800, 806, 811, 815, 819, 823, 827, 833, 838, 843, 847, 851, 855, 863, 867, 870, 876, 881, 885, 889, 897, 902, 906, 910,
  915, 930, 935, 941, 947, 953, 958, 964, 968, 972, 976, 979, 983, 989, 995, 999, 1003, 1007, 1012, 1016, 1020, 1024, 1029, 1034, 1040, 1044, 1048, 1053, 1057, 1061,
  1065, 1069, 1073, 1078, 1082, 1086, 1091, 1095, 1099, 1103, 1106, 1111, 1115, 1120, 1124, 1131, 1135, 1140, 1144, 1148, 1152, 1157, 1161, 1166, 1172, 1176, 1180, 1185, 1189, 1193,
  1197, 1202, 1206, 1210, 1213, 1217, 1221, 1225, 1230, 1235, 1239, 1246, 1249, 1253, 1256, 1261, 1265, 1269, 1273, 1278, 1281, 1285, 1289, 1294, 1298, 1304, 1308, 1312, 1321, 1329,
  1333, 1339, 1342, 1346, 1350, 1354, 1358, 1362, 1366, 1371, 1376, 1504, 1508, 1512, 1516, 1520, 1524, 1528, 1532, 1535, 1539, 1544, 1548, 1552, 1556, 1560, 1564, 1568, 1572, 1575,
  1580, 1584, 1588, 1592, 1595, 1599, 1603, 1607, 1611, 1615, 1619, 1622, 1626, 1630, 1634, 1638, 1642, 1646, 1650, 1654, 1658, 1662, 1666, 1670, 1674, 1678, 1682, 1686, 1690, 1694,
  1698, 1702, 1706, 1710, 1714, 1718, 1722, 1726, 1730, 1734, 1737, 1741, 1745, 1749, 1753, 1757, 1761, 1765, 1769, 1774, 1778, 1783, 1787, 1791, 1795, 1799, 1803, 1807, 1811, 1815,
  1820, 1824, 1828, 1832, 1836, 1842, 1847, 1852, 1856, 1860, 1864, 1868, 1871, 1875, 1879, 1883, 1887, 1891, 1896, 1900, 1904, 1908, 1912, 1917, 1921, 1925, 1929, 1933, 1936, 1940,
  1944, 1948, 1952, 1956, 1960, 1964, 1968, 1972, 1976, 1980, 1984, 1988, 1992, 1996, 2000, 2004, 2008, 2012, 2016, 2020, 2024, 2030, 2034, 2038, 2042, 2045, 2049, 2053, 2057, 2062,
  2066, 2070, 2074, 2079, 2083, 2086, 2090, 2094, 2098, 2103, 2107, 2111, 2115, 2119, 2123, 2127, 2132, 2136, 2140, 2144, 2148]
/-- hints: the places of a method's words, how many arguments, its kind (0 virtual, 1 static, 2 a constructor) -/
def xhl : List (Nat × Nat × Nat × Nat × Nat × Nat) := [(163, 141, 162, 0, 0, 2), (166, 0, 165, 0, 0, 2), (171, 142, 170, 0, 0, 2), (190, 143, 189, 0, 0, 2), (210, 144, 209, 0, 0, 2), (216, 145, 215, 0, 0, 2),
  (274, 146, 273, 0, 0, 2), (293, 147, 292, 0, 0, 2), (320, 148, 319, 0, 0, 2), (362, 149, 361, 0, 0, 2), (368, 150, 367, 0, 0, 2), (417, 149, 415, 416, 0, 0),
  (421, 150, 419, 420, 0, 0), (571, 141, 569, 570, 0, 0), (575, 141, 573, 574, 0, 0), (579, 141, 577, 578, 0, 0), (583, 141, 581, 582, 3, 0), (587, 143, 585, 586, 3, 0),
  (590, 143, 589, 0, 1, 1), (594, 141, 593, 0, 1, 0), (598, 141, 596, 597, 3, 0), (602, 143, 600, 601, 3, 0), (606, 143, 604, 605, 2, 0), (610, 143, 608, 609, 2, 0),
  (613, 143, 612, 0, 2, 1), (617, 141, 615, 616, 2, 0), (623, 141, 621, 622, 5, 0), (627, 143, 625, 626, 5, 0), (634, 141, 632, 633, 5, 0), (638, 141, 637, 1, 1, 0),
  (642, 141, 640, 641, 1, 0), (646, 141, 645, 2, 1, 0), (650, 144, 648, 649, 3, 0), (654, 145, 652, 653, 2, 0), (657, 153, 656, 0, 2, 1), (660, 153, 659, 0, 2, 1),
  (665, 145, 663, 664, 0, 0), (669, 145, 668, 3, 0, 0), (673, 145, 672, 4, 0, 0), (677, 145, 676, 5, 0, 0), (683, 145, 681, 682, 1, 0), (687, 154, 685, 686, 0, 0),
  (691, 154, 689, 690, 0, 0), (697, 154, 695, 696, 1, 0), (701, 154, 699, 700, 0, 0), (704, 155, 703, 0, 2, 1), (707, 154, 706, 0, 2, 1), (712, 156, 711, 0, 3, 1),
  (715, 157, 714, 0, 2, 1), (718, 157, 717, 0, 2, 1), (721, 157, 720, 0, 1, 1), (725, 157, 724, 0, 2, 1), (735, 144, 734, 6, 1, 0), (739, 145, 737, 738, 1, 0),
  (744, 145, 742, 743, 2, 0), (748, 145, 746, 747, 0, 0), (754, 145, 752, 753, 1, 0), (759, 145, 757, 758, 0, 0), (764, 144, 763, 7, 1, 0), (769, 144, 768, 8, 1, 0),
  (773, 149, 771, 772, 1, 0), (778, 149, 776, 777, 2, 0), (783, 144, 782, 9, 1, 0), (787, 145, 785, 786, 0, 0), (791, 145, 790, 0, 2, 1), (796, 149, 794, 795, 1, 0),
  (800, 144, 799, 10, 2, 0), (806, 149, 804, 805, 1, 0), (811, 149, 809, 810, 1, 0), (815, 149, 813, 814, 4, 0), (819, 149, 818, 11, 3, 0), (823, 144, 822, 12, 2, 0),
  (827, 149, 825, 826, 1, 0), (833, 149, 831, 832, 2, 0), (838, 149, 836, 837, 1, 0), (843, 144, 842, 13, 2, 0), (847, 149, 845, 846, 1, 0), (851, 149, 849, 850, 2, 0),
  (855, 158, 854, 0, 1, 1), (863, 141, 862, 14, 1, 0), (867, 149, 865, 866, 1, 0), (870, 149, 869, 0, 2, 1), (876, 150, 874, 875, 1, 0), (881, 141, 880, 15, 1, 0),
  (885, 141, 883, 884, 1, 0), (889, 146, 887, 888, 4, 0), (897, 146, 896, 16, 1, 0), (902, 150, 900, 901, 1, 0), (906, 150, 904, 905, 2, 0), (910, 150, 908, 909, 1, 0),
  (915, 146, 914, 17, 0, 0), (930, 146, 929, 18, 2, 0), (935, 146, 934, 19, 3, 0), (941, 146, 940, 20, 3, 0), (947, 146, 946, 21, 4, 0), (953, 146, 952, 22, 2, 0),
  (958, 146, 957, 23, 3, 0), (964, 141, 962, 963, 1, 0), (968, 141, 966, 967, 1, 0), (972, 149, 970, 971, 0, 0), (976, 141, 974, 975, 2, 0), (979, 141, 978, 0, 3, 1),
  (983, 141, 981, 982, 1, 0), (989, 141, 987, 988, 2, 0), (995, 141, 993, 994, 1, 0), (999, 149, 997, 998, 1, 0), (1003, 149, 1001, 1002, 1, 0), (1007, 141, 1005, 1006, 1, 0),
  (1012, 141, 1010, 1011, 2, 0), (1016, 149, 1014, 1015, 2, 0), (1020, 141, 1018, 1019, 1, 0), (1024, 149, 1022, 1023, 1, 0), (1029, 141, 1027, 1028, 2, 0), (1034, 141, 1032, 1033, 2, 0),
  (1040, 141, 1038, 1039, 1, 0), (1044, 149, 1042, 1043, 1, 0), (1048, 141, 1046, 1047, 2, 0), (1053, 141, 1051, 1052, 4, 0), (1057, 141, 1056, 24, 4, 0), (1061, 141, 1060, 25, 4, 0),
  (1065, 149, 1063, 1064, 1, 0), (1069, 149, 1067, 1068, 0, 0), (1073, 149, 1071, 1072, 1, 0), (1078, 149, 1076, 1077, 1, 0), (1082, 149, 1080, 1081, 1, 0), (1086, 147, 1084, 1085, 4, 0),
  (1091, 147, 1090, 26, 1, 0), (1095, 147, 1094, 27, 3, 0), (1099, 147, 1098, 28, 1, 0), (1103, 147, 1102, 29, 2, 0), (1106, 147, 1105, 0, 1, 1), (1111, 147, 1109, 1110, 2, 0),
  (1115, 147, 1113, 1114, 2, 0), (1120, 141, 1118, 1119, 3, 0), (1124, 149, 1122, 1123, 3, 0), (1131, 141, 1129, 1130, 1, 0), (1135, 141, 1133, 1134, 1, 0), (1140, 141, 1138, 1139, 1, 0),
  (1144, 141, 1142, 1143, 3, 0), (1148, 141, 1146, 1147, 4, 0), (1152, 141, 1150, 1151, 4, 0), (1157, 141, 1155, 1156, 3, 0), (1161, 141, 1160, 30, 3, 0), (1166, 147, 1164, 1165, 5, 0),
  (1172, 141, 1170, 1171, 3, 0), (1176, 141, 1174, 1175, 3, 0), (1180, 141, 1178, 1179, 1, 0), (1185, 141, 1183, 1184, 1, 0), (1189, 141, 1187, 1188, 2, 0), (1193, 141, 1191, 1192, 0, 0),
  (1197, 141, 1196, 31, 0, 0), (1202, 141, 1200, 1201, 0, 0), (1206, 141, 1204, 1205, 4, 0), (1210, 141, 1209, 32, 4, 0), (1213, 141, 1212, 0, 2, 1), (1217, 143, 1215, 1216, 2, 0),
  (1221, 149, 1219, 1220, 3, 0), (1225, 149, 1223, 1224, 2, 0), (1230, 149, 1228, 1229, 2, 0), (1235, 141, 1233, 1234, 5, 0), (1239, 141, 1237, 1238, 2, 0), (1246, 141, 1244, 1245, 1, 0),
  (1249, 141, 1248, 0, 3, 1), (1253, 149, 1251, 1252, 0, 0), (1256, 141, 1255, 0, 4, 1), (1261, 141, 1259, 1260, 1, 0), (1265, 141, 1263, 1264, 3, 0), (1269, 142, 1267, 1268, 3, 0),
  (1273, 142, 1272, 33, 2, 0), (1278, 142, 1276, 1277, 2, 0), (1281, 142, 1280, 0, 2, 1), (1285, 141, 1283, 1284, 2, 0), (1289, 141, 1287, 1288, 1, 0), (1294, 141, 1292, 1293, 1, 0),
  (1298, 148, 1296, 1297, 2, 0), (1304, 148, 1303, 34, 2, 0), (1308, 148, 1307, 35, 2, 0), (1312, 148, 1311, 36, 3, 0), (1321, 148, 1320, 37, 2, 0), (1329, 148, 1328, 38, 1, 0),
  (1333, 148, 1332, 39, 1, 0), (1339, 148, 1338, 40, 2, 0), (1342, 148, 1341, 0, 2, 1), (1346, 148, 1345, 0, 3, 1), (1350, 141, 1348, 1349, 1, 0), (1354, 141, 1352, 1353, 2, 0),
  (1358, 149, 1356, 1357, 0, 0), (1362, 141, 1360, 1361, 0, 0), (1366, 141, 1364, 1365, 0, 0), (1371, 151, 1370, 0, 0, 2), (1376, 151, 1375, 41, 1, 0), (1504, 151, 1502, 1503, 0, 0),
  (1508, 151, 1506, 1507, 0, 0), (1512, 151, 1510, 1511, 0, 0), (1516, 151, 1514, 1515, 3, 0), (1520, 151, 1519, 42, 1, 0), (1524, 151, 1522, 1523, 3, 0), (1528, 151, 1527, 43, 2, 0),
  (1532, 151, 1531, 44, 1, 0), (1535, 151, 1534, 0, 2, 1), (1539, 151, 1537, 1538, 2, 0), (1544, 151, 1542, 1543, 5, 0), (1548, 151, 1546, 1547, 5, 0), (1552, 151, 1551, 45, 1, 0),
  (1556, 151, 1554, 1555, 1, 0), (1560, 151, 1558, 1559, 1, 0), (1564, 151, 1563, 46, 2, 0), (1568, 151, 1567, 47, 0, 0), (1572, 151, 1571, 48, 1, 0), (1575, 151, 1574, 0, 1, 1),
  (1580, 151, 1579, 0, 1, 1), (1584, 151, 1583, 49, 1, 0), (1588, 151, 1587, 50, 0, 0), (1592, 151, 1591, 51, 0, 0), (1595, 151, 1594, 0, 6, 1), (1599, 151, 1598, 52, 1, 0),
  (1603, 151, 1602, 53, 0, 0), (1607, 151, 1606, 54, 2, 0), (1611, 151, 1610, 55, 2, 0), (1615, 151, 1614, 56, 2, 0), (1619, 151, 1618, 57, 0, 0), (1622, 151, 1621, 0, 3, 1),
  (1626, 151, 1625, 58, 1, 0), (1630, 151, 1629, 59, 0, 0), (1634, 151, 1633, 60, 3, 0), (1638, 151, 1637, 61, 0, 0), (1642, 151, 1641, 62, 0, 0), (1646, 151, 1645, 63, 0, 0),
  (1650, 151, 1649, 64, 0, 0), (1654, 151, 1653, 65, 2, 0), (1658, 151, 1657, 66, 0, 0), (1662, 151, 1661, 67, 3, 0), (1666, 151, 1665, 68, 0, 0), (1670, 151, 1669, 69, 0, 0),
  (1674, 151, 1673, 70, 0, 0), (1678, 151, 1677, 71, 0, 0), (1682, 151, 1681, 72, 0, 0), (1686, 151, 1685, 73, 0, 0), (1690, 151, 1689, 74, 0, 0), (1694, 151, 1693, 75, 0, 0),
  (1698, 151, 1697, 76, 0, 0), (1702, 151, 1701, 77, 0, 0), (1706, 151, 1705, 78, 0, 0), (1710, 151, 1709, 79, 0, 0), (1714, 151, 1713, 80, 0, 0), (1718, 151, 1717, 81, 1, 0),
  (1722, 151, 1721, 82, 4, 0), (1726, 151, 1725, 83, 1, 0), (1730, 151, 1729, 84, 1, 0), (1734, 151, 1733, 85, 3, 0), (1737, 151, 1736, 0, 2, 1), (1741, 151, 1740, 86, 1, 0),
  (1745, 151, 1744, 87, 0, 0), (1749, 151, 1748, 88, 2, 0), (1753, 151, 1751, 1752, 1, 0), (1757, 151, 1756, 89, 1, 0), (1761, 151, 1760, 90, 1, 0), (1765, 151, 1764, 91, 1, 0),
  (1769, 151, 1768, 92, 0, 0), (1774, 151, 1773, 93, 0, 0), (1778, 151, 1776, 1777, 1, 0), (1783, 151, 1782, 94, 1, 0), (1787, 151, 1786, 95, 0, 0), (1791, 151, 1790, 96, 0, 0),
  (1795, 151, 1793, 1794, 2, 0), (1799, 151, 1798, 97, 1, 0), (1803, 151, 1801, 1802, 1, 0), (1807, 151, 1806, 98, 1, 0), (1811, 151, 1809, 1810, 2, 0), (1815, 151, 1814, 99, 1, 0),
  (1820, 151, 1819, 100, 1, 0), (1824, 151, 1822, 1823, 1, 0), (1828, 151, 1827, 101, 1, 0), (1832, 151, 1830, 1831, 1, 0), (1836, 151, 1835, 102, 1, 0), (1842, 151, 1840, 1841, 2, 0),
  (1847, 151, 1846, 103, 2, 0), (1852, 151, 1850, 1851, 1, 0), (1856, 151, 1855, 104, 1, 0), (1860, 151, 1858, 1859, 2, 0), (1864, 151, 1863, 105, 2, 0), (1868, 151, 1866, 1867, 2, 0),
  (1871, 151, 1870, 0, 1, 1), (1875, 151, 1874, 106, 2, 0), (1879, 151, 1877, 1878, 1, 0), (1883, 151, 1881, 1882, 2, 0), (1887, 151, 1885, 1886, 3, 0), (1891, 151, 1889, 1890, 1, 0),
  (1896, 151, 1894, 1895, 4, 0), (1900, 151, 1899, 107, 4, 0), (1904, 151, 1903, 108, 3, 0), (1908, 151, 1907, 109, 1, 0), (1912, 151, 1911, 110, 0, 0), (1917, 151, 1916, 111, 4, 0),
  (1921, 151, 1920, 112, 3, 0), (1925, 151, 1924, 113, 1, 0), (1929, 151, 1928, 114, 1, 0), (1933, 151, 1932, 115, 2, 0), (1936, 153, 1935, 0, 1, 1), (1940, 151, 1939, 116, 2, 0),
  (1944, 151, 1943, 117, 2, 0), (1948, 151, 1947, 118, 1, 0), (1952, 151, 1950, 1951, 1, 0), (1956, 151, 1954, 1955, 1, 0), (1960, 151, 1958, 1959, 3, 0), (1964, 151, 1962, 1963, 4, 0),
  (1968, 151, 1966, 1967, 4, 0), (1972, 151, 1970, 1971, 3, 0), (1976, 151, 1975, 119, 3, 0), (1980, 151, 1979, 120, 4, 0), (1984, 151, 1982, 1983, 3, 0), (1988, 151, 1986, 1987, 3, 0),
  (1992, 151, 1990, 1991, 1, 0), (1996, 151, 1994, 1995, 1, 0), (2000, 151, 1998, 1999, 2, 0), (2004, 151, 2003, 121, 2, 0), (2008, 151, 2006, 2007, 0, 0), (2012, 151, 2011, 122, 0, 0),
  (2016, 151, 2014, 2015, 0, 0), (2020, 151, 2018, 2019, 4, 0), (2024, 151, 2023, 123, 4, 0), (2030, 151, 2029, 124, 2, 0), (2034, 151, 2033, 125, 2, 0), (2038, 151, 2037, 126, 4, 0),
  (2042, 151, 2041, 127, 3, 0), (2045, 151, 2044, 0, 4, 1), (2049, 151, 2047, 2048, 5, 0), (2053, 151, 2051, 2052, 2, 0), (2057, 151, 2055, 2056, 1, 0), (2062, 151, 2061, 128, 2, 0),
  (2066, 151, 2065, 129, 0, 0), (2070, 151, 2068, 2069, 1, 0), (2074, 151, 2072, 2073, 3, 0), (2079, 151, 2078, 130, 3, 0), (2083, 151, 2082, 131, 2, 0), (2086, 153, 2085, 0, 1, 1),
  (2090, 151, 2088, 2089, 2, 0), (2094, 151, 2092, 2093, 1, 0), (2098, 151, 2096, 2097, 1, 0), (2103, 151, 2102, 132, 1, 0), (2107, 151, 2106, 133, 2, 0), (2111, 151, 2110, 134, 1, 0),
  (2115, 151, 2114, 135, 1, 0), (2119, 151, 2118, 136, 2, 0), (2123, 151, 2122, 137, 0, 0), (2127, 151, 2126, 138, 1, 0), (2132, 151, 2131, 139, 1, 0), (2136, 151, 2134, 2135, 1, 0),
  (2140, 151, 2138, 2139, 2, 0), (2144, 151, 2142, 2143, 0, 0), (2148, 151, 2146, 2147, 0, 0)]
def xh (k : Nat) : Nat × Nat × Nat × Nat × Nat × Nat := xhl.getD k (0, 0, 0, 0, 0, 0)
def xkhl : List (Nat × Nat) := [(359, 149), (207, 144), (168, 142), (317, 148), (290, 147), (213, 145), (187, 143), (365, 150),
  (271, 146), (160, 141), (1368, 151)]
def xnl : List (String × Nat × MethodName) := [("FreckleChart", 11, ⟨"FreckleChart$Fraction", "<init>", "()V"⟩),
  ("FreckleChart", 18, ⟨"FreckleChart$Trays", "<init>", "()V"⟩),
  ("FreckleChart", 29, ⟨"FreckleChart$CoastText", "<init>", "()V"⟩),
  ("FreckleChart$CoastText", 11, ⟨"FreckleChart$Reader", "<init>", "()V"⟩),
  ("FreckleChart", 36, ⟨"FreckleChart$YearsText", "<init>", "()V"⟩),
  ("FreckleChart$YearsText", 11, ⟨"FreckleChart$Reader", "<init>", "()V"⟩),
  ("FreckleChart", 43, ⟨"FreckleChart$Pilot", "<init>", "()V"⟩),
  ("FreckleChart", 50, ⟨"FreckleChart$Living", "<init>", "()V"⟩),
  ("FreckleChart$Living", 11, ⟨"FreckleChart$Pilot", "<init>", "()V"⟩),
  ("FreckleChart$Coast", 45, ⟨"FreckleChart$Years", "<init>", "()V"⟩)]
def xsth : List Nat := [679, 750, 760, 765, 774, 779, 788, 792, 801, 802, 807, 828, 829, 839, 892, 916, 917, 918, 919, 920, 921, 922, 923, 924, 925, 926, 937, 949, 954]
def xnth : List Nat := [169, 188, 208, 214, 272, 277, 291, 318, 323, 366]
def xsz1 : Nat × Nat × Nat × Nat × Nat := (693, 154, 709, 156, 0)
def xah : List Nat := [205, 185, 258]
def xch : List Nat := [630, 629, 152, 165, 166, 515, 193]
/-- a method, out of its code word -/
def xm (k : Nat) : XM := match xlk (xh k).1 with
  | some (.code y b ml rt) => (y, b, ml, rt)
  | _ => (⟨"", "", ""⟩, code, 0, none)
def xmok (k : Nat) : Bool := match xlk (xh k).1 with
  | some (.code _ _ _ _) => goodWord (.code (xm k).1 (xm k).2.1 (xm k).2.2.1 (xm k).2.2.2)
  | _ => false
theorem xm_in {k : Nat} (h : xmok k = true) : Cond.code (xm k).1 (xm k).2.1 (xm k).2.2.1 (xm k).2.2.2 ∈ xW := by
  unfold xmok at h
  split at h
  · rename_i y b ml rt hx
    refine List.mem_filter.mpr ⟨xlk_in (h := (xh k).1) ?_, h⟩
    rw [hx]
    unfold xm
    rw [hx]
  · cases h
-- switches: (number, where to) and else
def xswl : List (List (Int32 × Nat) × Nat) := [([(0, 28), (1, 33), (2, 38)], 42),
  ([(1, 88), (2, 119), (3, 132), (4, 132), (5, 140), (6, 132), (7, 171), (8, 245), (9, 245), (10, 232)], 245),
  ([(0, 52), (1, 64), (2, 76), (3, 88), (4, 100), (5, 112), (6, 124), (7, 136), (8, 148)], 160),
  ([(0, 60), (1, 74), (2, 88), (3, 102), (4, 116), (5, 137), (6, 151)], 165),
  ([(1, 72), (2, 82), (3, 97), (4, 105), (5, 113), (6, 130), (7, 145), (8, 152)], 158),
  ([(9, 48), (10, 53), (11, 92), (12, 69), (13, 69), (14, 69)], 92),
  ([(12, 64), (13, 83)], 101),
  ([(0, 256), (1, 269), (2, 283), (3, 297), (4, 340), (5, 413), (6, 447), (7, 510), (8, 573), (9, 596), (10, 619), (11, 642), (12, 665), (13, 698), (14, 721), (15, 754), (16, 777), (17, 800), (18, 833), (19, 856), (20, 905), (21, 938), (22, 961), (23, 994), (24, 1047), (25, 1090), (26, 1113), (27, 1136), (28, 1159), (29, 1202), (30, 1255), (31, 1308), (32, 1351), (33, 1394), (34, 1437), (35, 1460), (36, 1483), (37, 1516), (38, 1529), (39, 1542), (40, 1595), (41, 1658), (42, 1691), (43, 1714), (44, 1737), (45, 1780), (46, 1813), (47, 1836), (48, 1859), (49, 1882), (50, 1915), (51, 1928)], 1941)]
def xswt (b : Nat) : List (Int32 × Nat) × Nat := xswl.getD b ([], 0)
-- string constants
def xstl : List (String × Nat × String) := [("FreckleChart$CoastText", 38, "coast"),
  ("FreckleChart$CoastText", 90, "by"),
  ("FreckleChart$CoastText", 48, "odds"),
  ("FreckleChart$CoastText", 53, "rock"),
  ("FreckleChart$CoastText", 107, "deep"),
  ("FreckleChart$CoastText", 58, "cousin"),
  ("FreckleChart$Reader", 80, "coast by odds rock deep cousin at wide high tan veiled inked "),
  ("FreckleChart$Reader", 86, "sun rain veil bare ink wash sail any when shows loop end stop "),
  ("FreckleChart$CoastText", 132, "at"),
  ("FreckleChart$CoastText", 134, "wide"),
  ("FreckleChart$CoastText", 138, "high"),
  ("FreckleChart$CoastText", 149, "tan"),
  ("FreckleChart$CoastText", 155, "veiled"),
  ("FreckleChart$CoastText", 161, "inked"),
  ("FreckleChart$YearsText", 42, "end"),
  ("FreckleChart$YearsText", 92, "sun"),
  ("FreckleChart$YearsText", 94, "rain"),
  ("FreckleChart$YearsText", 96, "veil"),
  ("FreckleChart$YearsText", 98, "bare"),
  ("FreckleChart$YearsText", 100, "ink"),
  ("FreckleChart$YearsText", 102, "wash"),
  ("FreckleChart$YearsText", 104, "sail"),
  ("FreckleChart$YearsText", 106, "any"),
  ("FreckleChart$YearsText", 108, "when"),
  ("FreckleChart$YearsText", 110, "loop"),
  ("FreckleChart$YearsText", 112, "stop"),
  ("FreckleChart$YearsText", 144, "shows"),
  ("FreckleChart$YearsText", 146, "tan"),
  ("FreckleChart$YearsText", 152, "veiled")]
def xstb : List (List Nat) := [[99, 111, 97, 115, 116],
  [98, 121],
  [111, 100, 100, 115],
  [114, 111, 99, 107],
  [100, 101, 101, 112],
  [99, 111, 117, 115, 105, 110],
  [99, 111, 97, 115, 116, 32, 98, 121, 32, 111, 100, 100, 115, 32, 114, 111, 99, 107, 32, 100, 101, 101, 112, 32, 99, 111, 117, 115, 105, 110, 32, 97, 116, 32, 119, 105, 100, 101, 32, 104, 105, 103, 104, 32, 116, 97, 110, 32, 118, 101, 105, 108, 101, 100, 32, 105, 110, 107, 101, 100, 32],
  [115, 117, 110, 32, 114, 97, 105, 110, 32, 118, 101, 105, 108, 32, 98, 97, 114, 101, 32, 105, 110, 107, 32, 119, 97, 115, 104, 32, 115, 97, 105, 108, 32, 97, 110, 121, 32, 119, 104, 101, 110, 32, 115, 104, 111, 119, 115, 32, 108, 111, 111, 112, 32, 101, 110, 100, 32, 115, 116, 111, 112, 32],
  [97, 116],
  [119, 105, 100, 101],
  [104, 105, 103, 104],
  [116, 97, 110],
  [118, 101, 105, 108, 101, 100],
  [105, 110, 107, 101, 100],
  [101, 110, 100],
  [115, 117, 110],
  [114, 97, 105, 110],
  [118, 101, 105, 108],
  [98, 97, 114, 101],
  [105, 110, 107],
  [119, 97, 115, 104],
  [115, 97, 105, 108],
  [97, 110, 121],
  [119, 104, 101, 110],
  [108, 111, 111, 112],
  [115, 116, 111, 112],
  [115, 104, 111, 119, 115],
  [116, 97, 110],
  [118, 101, 105, 108, 101, 100]]
def strLen (i : Nat) : Nat := (xstb.getD i []).length
def strAt (i j : Nat) : Int32 := nI ((xstb.getD i []).getD j 0)
def va_AOA (ty : FieldType) (U : State) : Prop := (Cond.arrayOver (.array ty)).before #[] U = true
theorem va_AOA.use {ty : FieldType} {A : Array Value} {U : State} (h : va_AOA ty U) : (Cond.arrayOver (.array ty)).before A U = true := h
theorem va_AOA.spec {ty : FieldType} {U : State} (h : va_AOA ty U) : ∃ comp c k, U.vm.findClass (FieldType.array ty).toString = some comp ∧ (U.vm.classes.findIdx? fun (x : Class) => match x.kind with | .array component _ => component == comp | _ => false) = some c ∧ U.vm.classes[c]? = some k ∧ k.kind = .array comp (.array ty) ∧ U.vm.findClass ("[" ++ (FieldType.array ty).toString) = some c := by
  unfold va_AOA Cond.before at h
  simp only [Cond.holds, Cond.value, beq_iff_eq] at h
  cases hc : U.vm.findClass (FieldType.array ty).toString with
  | none => simp [hc] at h
  | some comp =>
    simp only [hc, Option.bind_some, Option.bind_eq_some_iff, Option.map_eq_some_iff] at h
    obtain ⟨c, hi, k, hk, hb⟩ := h
    obtain ⟨hlt, hp, -⟩ := Array.findIdx?_eq_some_iff_getElem.mp hi
    have hkk : U.vm.classes[c] = k := (Array.getElem?_eq_some_iff.mp hk).2
    rw [hkk] at hp
    cases hkind : k.kind with
    | array component ty =>
      rw [hkind] at hb hp
      simp at hb hp
      exact ⟨comp, c, k, rfl, hi, hk, by rw [hkind, hp, hb.1], hb.2⟩
    | _ => rw [hkind] at hb; simp at hb
theorem va_AOA.moved {ty : FieldType} {u U : State} (hvm : u.vm.Alike U.vm) (h : va_AOA ty u) : va_AOA ty U := by
  obtain ⟨comp, c, k, h1, h2, h3, h4, h5⟩ := h.spec
  obtain ⟨k', hk', he⟩ := hvm.2.2 _ _ h3
  have hi : (U.vm.classes.findIdx? fun (x : Class) => match x.kind with | .array component _ => component == comp | _ => false) = some c := by
    have e1 := va_idx_bare U.vm comp
    have e2 := va_idx_bare u.vm comp
    have e3 : U.vm.bare = u.vm.bare := by first | exact hvm.bare_eq | exact hvm.bare_eq.symm
    rw [e3] at e1
    exact e1.symm.trans (e2.trans h2)
  have hkind : k'.kind = .array comp (.array ty) := by rw [he]; exact h4
  have f1 : U.vm.findClass (FieldType.array ty).toString = some comp := by rw [hvm.findClass]; exact h1
  have f2 : U.vm.findClass ("[" ++ (FieldType.array ty).toString) = some c := by rw [hvm.findClass]; exact h5
  unfold va_AOA Cond.before Cond.holds
  simp only [Cond.value]
  rw [f1, Option.bind_some]
  refine (congrArg (fun o : Option Nat => (o.bind (fun c => (U.vm.classes[c]?).map fun (k : Class) => match k.kind with | .array _ ty' => decide (ty' = FieldType.array ty) && decide (U.vm.findClass ("[" ++ (FieldType.array ty).toString) = some c) | _ => false) == some true)) hi).trans ?_
  simp [hk', hkind, f2]

/-! ===== BEGIN new T[n][m]: the outer array a place, the inner ones among the pooled ===== -/
/-- f, but v at every address of l -/
def vr_up {α : Type} (f : Nat → α) (l : List Nat) (v : α) : Nat → α := fun a => if a ∈ l then v else f a
theorem vr_up_in {α : Type} {f : Nat → α} {l : List Nat} {v : α} {a : Nat} (h : a ∈ l) : vr_up f l v a = v := if_pos h
theorem vr_up_ne {α : Type} {f : Nat → α} {l : List Nat} {v : α} {a : Nat} (h : a ∉ l) : vr_up f l v a = f a := if_neg h
theorem vr_rows {L l : List Nat} {f : Nat → va_E} {e : va_E} (h : ∀ a, a ∈ l → a ∉ L) : va_pl L f ++ l.map (fun a => (a, e)) = va_pl (L ++ l) (vr_up f l e) := by
  unfold va_pl
  rw [List.map_append]
  congr 1
  · apply List.map_congr_left
    intro a ha
    rw [vr_up_ne (fun q => h a q ha)]
  · apply List.map_congr_left
    intro a ha
    rw [vr_up_in ha]
theorem vr_lay {X rows : va_W} {x : Nat × va_E} {pl : va_W} {D : va_G} {cl : List vw_C} {H : Heap} (hP : va_P D cl (((X ++ pl) ++ [x]) ++ rows) H) : va_P D cl ((X ++ [x]) ++ (pl ++ rows)) H := by
  rw [List.append_assoc (X ++ pl)] at hP
  have h := va_P.swap hP
  rw [← List.append_assoc X] at h
  have h2 := va_P.swap h
  rw [List.append_assoc (X ++ [x])] at h2
  exact h2
theorem vr_layD {X rows : va_W} {x : Nat × va_E} {pl : va_W} {A : Nat → Prop} (hD : va_D A (((X ++ pl) ++ [x]) ++ rows)) : va_D A ((X ++ [x]) ++ (pl ++ rows)) := by
  rw [List.append_assoc (X ++ pl)] at hD
  have h := va_D.swap hD
  rw [← List.append_assoc X] at h
  have h2 := va_D.swap h
  rw [List.append_assoc (X ++ [x])] at h2
  exact h2
theorem vr_outer (c : ClassId) (N h0 : Nat) : ∀ i : Nat, Jvm.Free.Multi.outerC c N h0 i = arrV c N (fun j => va_rf (if j < i then some (h0 + 1 + j) else none))
  | 0 => by
    show ({ cls := c, slots := Array.replicate N .null, vm := .none } : Cell) = _
    rw [arrV_new]
    refine congrArg (arrV c N) (funext fun j => ?_)
    simp [va_rf]
  | i + 1 => by
    show (Jvm.Free.Multi.outerC c N h0 i).setSlot i (.ref (h0 + 1 + i)) = _
    rw [vr_outer c N h0 i, arrV_store]
    refine congrArg (arrV c N) (funext fun j => ?_)
    by_cases e : j = i
    · subst e
      simp [updV, va_rf]
    · by_cases h : j < i
      · simp [updV, e, h, Nat.lt_succ_of_lt h]
      · simp [updV, e, h, show ¬ j < i + 1 by omega]
section VGM
variable {p : Program} {l : Launch} {e : Env} {R : Room} {s : State} {m : MethodId} {args : Array Value} {below : List Frame} {meth : Method} {c : Code} {H : Heap} {locs : List Loc} {cells slots : Nat} {Q : State → Prop}
variable {cc : ByteArray} {pc : Nat} {ls : Array Slot} {rest : List Value} {D : va_G} {cl : List vw_C} {A : Nat → Prop} {a : Nat} {tys : List (ClassId × FieldType)} {ws : va_W} {H0 : Heap}
theorem va_mna {X : va_W} {L : List Nat} {f : Nat → va_E} {cc : ByteArray} (hexec : p.tables.exec = Jvm.exec) (hb : c.code = cc) {own : String} {index : Nat} {ty : FieldType} {cy : ClassId} (hown : s.vm.findClass own = some m.cls) (hclink : (Cond.classLink own index ("[" ++ (FieldType.array ty).toString)).before args s = true) (hover : va_AOA ty s) (harr : (Cond.arrayClass ty).before args s = true) (hcy : s.vm.findClass (FieldType.array ty).toString = some cy)
    (hK : va_K D cl tys s) (hP : va_P D cl (X ++ va_pl L f) H) (hD : va_D A (X ++ va_pl L f)) (hS : va_S A H0 H locs) (hA : ∀ q, H0.size ≤ q → A q) {n k : Int32} {N' K' : Nat} {z : vp_A} (hn : ¬ n < 0) (hk : ¬ k < 0) (hN : n.toNatClampNeg = N') (hM : k.toNatClampNeg = K')
    (hb1 : N' * 4 ≤ 536870912) (hb2 : K' * componentBytes ty ≤ 536870912) (hb3 : K' ≤ 536870912) (hdf : fits ty (defaultValue ty) = true) (hdd : (defaultValue ty).isDefault = true) (hcells : cells + (1 + N') ≤ R.cells) (hslots : slots + (N' + N' * K') ≤ R.slots) (hz : ∀ c : ClassId, Jvm.Free.Multi.innerC c K' (defaultValue ty) = vp_cell c z) (hdg : decode cc pc = .ok (.multianewarray index 2, 4))
    (kk : ∀ (q : Nat) (r : Nat → Nat) (cA : ClassId) (H1 : Heap), (∀ i j : Nat, i < N' → j < N' → r i = r j → i = j) → (∀ i : Nat, i < N' → r i ∉ L) → va_K D cl (tys ++ [(cA, .array ty)]) s →
      va_P D cl ((X ++ [(q, .inl (cA, N', .inr (.inr (.inr (.inr (fun i => if i < N' then some (r i) else none))))))]) ++ va_pl (L ++ (List.range N').map r) (vr_up f ((List.range N').map r) (.inl (cy, z)))) H1 → va_D A ((X ++ [(q, .inl (cA, N', .inr (.inr (.inr (.inr (fun i => if i < N' then some (r i) else none))))))]) ++ va_pl (L ++ (List.range N').map r) (vr_up f ((List.range N').map r) (.inl (cy, z)))) → va_S A H0 H1 locs →
      W p l e R s m args below meth c H1 locs (cells + 1 + N') (slots + N' + N' * K') Q (F0 m (pc + 4) ls (.ref q :: rest))) : W p l e R s m args below meth c H locs cells slots Q (F0 m pc ls (.int k :: .int n :: rest)) := by
  subst hN
  subst hM
  intro T hT Xs
  obtain ⟨vm₁, cA, comp, -, fA, fC, hO, -, X', step⟩ := Xs.multianewarray2F hexec hown hclink (va_AOA.use hover) harr (g := F0 m pc ls (.int k :: .int n :: rest)) rfl (by rw [hb]; exact hdg) rfl hn hk hb1 hb2 hb3 hdf hdd hcells hslots
  have ec : some cy = some comp := hcy.symm.trans fC
  cases ec
  generalize hF : Jvm.Free.Multi.fill (T.setVm vm₁) cA cy n.toNatClampNeg k.toNatClampNeg (defaultValue ty) n.toNatClampNeg = F at X' step
  have hTh : (T.setVm vm₁).heap = H := hT
  obtain ⟨f1, f2, -, -⟩ := Jvm.Free.Multi.fill_facts (T.setVm vm₁) cA cy n.toNatClampNeg k.toNatClampNeg (defaultValue ty) n.toNatClampNeg
  rw [hF, hTh] at f1 f2
  have hold : ∀ x : Nat, x < H.size → F.heap[x]? = H[x]? := fun x hx => by
    have := Jvm.Free.Multi.fill_old (T.setVm vm₁) cA cy n.toNatClampNeg k.toNatClampNeg (defaultValue ty) (a := x) (by rw [hTh]; exact hx) n.toNatClampNeg
    rw [hF, hTh] at this
    exact this
  have hrow : ∀ j : Nat, j < n.toNatClampNeg → F.heap[H.size + 1 + j]? = some (vp_cell cy z) := fun j hj => by
    have := Jvm.Free.Multi.fill_inner (T.setVm vm₁) cA cy n.toNatClampNeg k.toNatClampNeg (defaultValue ty) n.toNatClampNeg j hj
    rw [hF, hTh, hz] at this
    exact this
  have hout : Jvm.Free.Multi.outerC cA n.toNatClampNeg H.size n.toNatClampNeg = vp_cell cA (n.toNatClampNeg, .inr (.inr (.inr (.inr (fun i => if i < n.toNatClampNeg then some (H.size + 1 + i) else none))))) := by
    rw [vp_cell_q]
    exact vr_outer cA n.toNatClampNeg H.size n.toNatClampNeg
  rw [hout] at f2
  have hlt : ∀ a, a ∈ L → a < H.size := fun a ha => by
    obtain ⟨k9, hk9⟩ := va_pl_get (X := X) (f := f) ha
    exact (hP k9 _ hk9).lt
  have hnl : ∀ i : Nat, i < n.toNatClampNeg → H.size + 1 + i ∉ L := fun i _ h => by
    have := hlt _ h
    omega
  have hnm : ∀ a, a ∈ (List.range n.toNatClampNeg).map (fun i => H.size + 1 + i) → a ∉ L := fun a ha h => by
    obtain ⟨i, -, rfl⟩ := List.mem_map.mp ha
    have := hlt _ h
    omega
  have hP0 : va_P D cl (X ++ va_pl L f) F.heap := hP.kept (fun k9 x hx => hold x.1 ((hP k9 x hx).lt))
  have hP1 : va_P D cl ((X ++ va_pl L f) ++ [(H.size, .inl (cA, n.toNatClampNeg, .inr (.inr (.inr (.inr (fun i => if i < n.toNatClampNeg then some (H.size + 1 + i) else none))))))]) F.heap := hP0.app (fun k9 x hx => by
    have h0 : k9 < 1 := (List.getElem?_eq_some_iff.mp hx).1
    rw [show k9 = 0 by omega] at hx
    cases hx
    exact f2)
  have hP2 : va_P D cl (((X ++ va_pl L f) ++ [(H.size, .inl (cA, n.toNatClampNeg, .inr (.inr (.inr (.inr (fun i => if i < n.toNatClampNeg then some (H.size + 1 + i) else none))))))]) ++ ((List.range n.toNatClampNeg).map (fun i => H.size + 1 + i)).map (fun a => (a, .inl (cy, z)))) F.heap := hP1.app (fun k9 x hx => by
    obtain ⟨a, ha, rfl⟩ := List.mem_map.mp (List.mem_of_getElem? hx)
    obtain ⟨i, hi, rfl⟩ := List.mem_map.mp ha
    exact hrow i (List.mem_range.mp hi))
  have hD2 : va_D A (((X ++ va_pl L f) ++ [(H.size, .inl (cA, n.toNatClampNeg, .inr (.inr (.inr (.inr (fun i => if i < n.toNatClampNeg then some (H.size + 1 + i) else none))))))]) ++ ((List.range n.toNatClampNeg).map (fun i => H.size + 1 + i)).map (fun a => (a, .inl (cy, z)))) := by
    have hD1 := hD.push (e := .inl (cA, n.toNatClampNeg, .inr (.inr (.inr (.inr (fun i => if i < n.toNatClampNeg then some (H.size + 1 + i) else none)))))) hP rfl (hA _ hS.1)
    generalize hW1 : (X ++ va_pl L f) ++ [(H.size, .inl (cA, n.toNatClampNeg, .inr (.inr (.inr (.inr (fun i => if i < n.toNatClampNeg then some (H.size + 1 + i) else none))))))] = W1 at hD1 hP1 ⊢
    have hle : ∀ (k9 : Nat) (x : Nat × va_E), W1[k9]? = some x → x.1 ≤ H.size := fun k9 x hx => by
      rw [← hW1] at hx
      by_cases hl : k9 < (X ++ va_pl L f).length
      · rw [List.getElem?_append_left hl] at hx
        exact Nat.le_of_lt ((hP k9 x hx).lt)
      · rw [List.getElem?_append_right (by omega)] at hx
        have h0 : k9 - (X ++ va_pl L f).length < 1 := (List.getElem?_eq_some_iff.mp hx).1
        rw [show k9 - (X ++ va_pl L f).length = 0 by omega] at hx
        cases hx
        exact Nat.le_refl _
    have hr : ∀ (k9 : Nat) (x : Nat × va_E), (((List.range n.toNatClampNeg).map (fun i => H.size + 1 + i)).map (fun a => ((a, .inl (cy, z)) : Nat × va_E)))[k9]? = some x → x.1 = H.size + 1 + k9 := fun k9 x hx => by
      rw [List.getElem?_map, List.getElem?_map] at hx
      by_cases h9 : k9 < n.toNatClampNeg
      · rw [List.getElem?_range h9] at hx
        cases hx
        rfl
      · have hn0 : (List.range n.toNatClampNeg)[k9]? = none := List.getElem?_eq_none (by rw [List.length_range]; omega)
        rw [hn0] at hx
        cases hx
    refine ⟨fun i j x y hi hj hxy => ?_, fun k9 x hx => ?_⟩
    · by_cases h1 : i < W1.length <;> by_cases h2 : j < W1.length
      · rw [List.getElem?_append_left h1] at hi
        rw [List.getElem?_append_left h2] at hj
        exact hD1.1 i j x y hi hj hxy
      · rw [List.getElem?_append_left h1] at hi
        rw [List.getElem?_append_right (by omega)] at hj
        have := hle _ _ hi
        have := hr _ _ hj
        omega
      · rw [List.getElem?_append_right (by omega)] at hi
        rw [List.getElem?_append_left h2] at hj
        have := hle _ _ hj
        have := hr _ _ hi
        omega
      · rw [List.getElem?_append_right (by omega)] at hi hj
        have := hr _ _ hi
        have := hr _ _ hj
        omega
    · by_cases h1 : k9 < W1.length
      · rw [List.getElem?_append_left h1] at hx
        exact hD1.2 k9 x hx
      · rw [List.getElem?_append_right (by omega)] at hx
        have := hr _ _ hx
        exact hA _ (by have := hS.1; omega)
  have hAr : ArrOfT s cA (.array ty) := fun N9 z9 => by
    obtain ⟨-, k9, hk9, cm9, hkk9⟩ := (hO 0 0 0).1
    exact ⟨(fun q hq => by cases hq), k9, hk9, cm9, hkk9⟩
  have hK2 : va_K D cl (tys ++ [(cA, .array ty)]) s := ⟨hK.1, fun k9 x hx => by
    by_cases hl : k9 < tys.length
    · rw [List.getElem?_append_left hl] at hx
      exact hK.2 k9 x hx
    · rw [List.getElem?_append_right (by omega)] at hx
      have h0 : k9 - tys.length < 1 := (List.getElem?_eq_some_iff.mp hx).1
      rw [show k9 - tys.length = 0 by omega] at hx
      cases hx
      exact ⟨hAr, fA⟩⟩
  obtain ⟨t, a1, b1⟩ := kk H.size (fun i => H.size + 1 + i) cA F.heap (fun i j _ _ h => by have h9 : H.size + 1 + i = H.size + 1 + j := h; omega) hnl hK2 (by rw [← vr_rows hnm]; exact vr_lay hP2) (by rw [← vr_rows hnm]; exact vr_layD hD2) ⟨by rw [f1]; have := hS.1; omega, fun x h1 h2 => (hold x (Nat.lt_of_lt_of_le h1 hS.1)).trans (hS.2.1 x h1 h2), hS.2.2⟩ F rfl X'
  refine ⟨t, step t ?_, b1⟩
  have e : T.heap.size = H.size := by rw [hT]
  rw [e]
  exact a1
end VGM
/-! ===== END ===== -/
