def xlb (e : Nat × List XO) : Bool := xblkOk "FreckleChartLaw" code 4 ret false true e.1 e.2
theorem xlaw_c0 : ((xt351.drop 0).take 15).all xlb = true := by decide +kernel
theorem xlaw_c1 : ((xt351.drop 15).take 15).all xlb = true := by decide +kernel
theorem xlaw_c2 : ((xt351.drop 30).take 15).all xlb = true := by decide +kernel
theorem xlaw_c3 : ((xt351.drop 45).take 15).all xlb = true := by decide +kernel
theorem xlaw_c4 : ((xt351.drop 60).take 15).all xlb = true := by decide +kernel
theorem xlaw_c5 : ((xt351.drop 75).take 15).all xlb = true := by decide +kernel
theorem xlaw_c6 : ((xt351.drop 90).take 15).all xlb = true := by decide +kernel
theorem xlaw_c7 : ((xt351.drop 105).take 15).all xlb = true := by decide +kernel
theorem xlaw_c8 : ((xt351.drop 120).take 15).all xlb = true := by decide +kernel
theorem xlaw_c9 : ((xt351.drop 135).take 15).all xlb = true := by decide +kernel
theorem xlaw_c10 : ((xt351.drop 150).take 15).all xlb = true := by decide +kernel
theorem xlaw_c11 : ((xt351.drop 165).take 15).all xlb = true := by decide +kernel
theorem xlaw_end : xt351.drop 180 = [] := by decide +kernel
theorem all_td {α : Type} {l : List α} {p : α → Bool} {n k : Nat} (h : ((l.drop k).take n).all p = true) (h2 : (l.drop (k + n)).all p = true) : (l.drop k).all p = true := by
  rw [← List.take_append_drop n (l.drop k), List.all_append, h, List.drop_drop, h2]
  rfl
theorem xlaw_351 : xtl.getD 351 [] = xt351 := rfl
theorem xlaw_blk : ((xtl.getD 351 []).all fun e => xblkOk "FreckleChartLaw" code 4 ret false true e.1 e.2) = true := by
  rw [xlaw_351]
  have e12 : (xt351.drop 180).all xlb = true := by rw [xlaw_end]; rfl
  have e11 : (xt351.drop 165).all xlb = true := all_td xlaw_c11 e12
  have e10 : (xt351.drop 150).all xlb = true := all_td xlaw_c10 e11
  have e9 : (xt351.drop 135).all xlb = true := all_td xlaw_c9 e10
  have e8 : (xt351.drop 120).all xlb = true := all_td xlaw_c8 e9
  have e7 : (xt351.drop 105).all xlb = true := all_td xlaw_c7 e8
  have e6 : (xt351.drop 90).all xlb = true := all_td xlaw_c6 e7
  have e5 : (xt351.drop 75).all xlb = true := all_td xlaw_c5 e6
  have e4 : (xt351.drop 60).all xlb = true := all_td xlaw_c4 e5
  have e3 : (xt351.drop 45).all xlb = true := all_td xlaw_c3 e4
  have e2 : (xt351.drop 30).all xlb = true := all_td xlaw_c2 e3
  have e1 : (xt351.drop 15).all xlb = true := all_td xlaw_c1 e2
  have e0 : (xt351.drop 0).all xlb = true := all_td xlaw_c0 e1
  exact e0
