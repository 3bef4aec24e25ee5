def xFL : List Cond := flatC (Jvm.Cond.and given_1 narrow_1)
def xtm (i : Nat) : Term := match xstl[i]? with
  | some x => .string x.1 x.2.1
  | none => .int 0
def xfv (i : Nat) : Term := .field (xtm i) "java/lang/String" "value" "[B"
def xof : List Nat := [9, 18, 24, 32, 40, 48, 58, 123, 189, 195, 203, 211, 218, 228, 237, 244, 251, 259, 267, 275, 282, 290, 298, 305, 313, 321, 329, 338, 346]
def xsok (i : Nat) : Bool := decide (xFL[xof.getD i 0]? = some (Cond.exactly (xtm i) "java/lang/String")) && decide (xFL[xof.getD i 0 + 1]? = some (Cond.eq (.field (xtm i) "java/lang/String" "coder" "B") (.int 0))) && decide (xFL[xof.getD i 0 + 2]? = some (Cond.arrayOf (xfv i) .byte)) && decide (xFL[xof.getD i 0 + 3]? = some (Cond.eq (.length (xfv i)) (.int (Int32.ofNat (xlens.getD i 0))))) && decide (xlens.getD i 0 < 2 ^ 31) && (List.range (xlens.getD i 0)).all (fun j => decide (xFL[xof.getD i 0 + 4 + j]? = some (Cond.eq (.elem (xfv i) (.int (Int32.ofNat j))) (.int ((xbyts.getD i []).getD j 0))))) &&
  (match xstl[i]? with
  | some x => decide (xlk (xsth.getD i 0) = some (.stringRef x.1 x.2.1 x.2.2))
  | none => false)
theorem xsok_0 : xsok 0 = true := by decide +kernel
theorem xsok_1 : xsok 1 = true := by decide +kernel
theorem xsok_2 : xsok 2 = true := by decide +kernel
theorem xsok_3 : xsok 3 = true := by decide +kernel
theorem xsok_4 : xsok 4 = true := by decide +kernel
theorem xsok_5 : xsok 5 = true := by decide +kernel
theorem xsok_6 : xsok 6 = true := by decide +kernel
theorem xsok_7 : xsok 7 = true := by decide +kernel
theorem xsok_8 : xsok 8 = true := by decide +kernel
theorem xsok_9 : xsok 9 = true := by decide +kernel
theorem xsok_10 : xsok 10 = true := by decide +kernel
theorem xsok_11 : xsok 11 = true := by decide +kernel
theorem xsok_12 : xsok 12 = true := by decide +kernel
theorem xsok_13 : xsok 13 = true := by decide +kernel
theorem xsok_14 : xsok 14 = true := by decide +kernel
theorem xsok_15 : xsok 15 = true := by decide +kernel
theorem xsok_16 : xsok 16 = true := by decide +kernel
theorem xsok_17 : xsok 17 = true := by decide +kernel
theorem xsok_18 : xsok 18 = true := by decide +kernel
theorem xsok_19 : xsok 19 = true := by decide +kernel
theorem xsok_20 : xsok 20 = true := by decide +kernel
theorem xsok_21 : xsok 21 = true := by decide +kernel
theorem xsok_22 : xsok 22 = true := by decide +kernel
theorem xsok_23 : xsok 23 = true := by decide +kernel
theorem xsok_24 : xsok 24 = true := by decide +kernel
theorem xsok_25 : xsok 25 = true := by decide +kernel
theorem xsok_26 : xsok 26 = true := by decide +kernel
theorem xsok_27 : xsok 27 = true := by decide +kernel
theorem xsok_28 : xsok 28 = true := by decide +kernel
theorem xsok_all : ∀ i, i < 29 → xsok i = true := fun i hi => by
  have : i = 0 ∨ i = 1 ∨ i = 2 ∨ i = 3 ∨ i = 4 ∨ i = 5 ∨ i = 6 ∨ i = 7 ∨ i = 8 ∨ i = 9 ∨ i = 10 ∨ i = 11 ∨ i = 12 ∨ i = 13 ∨ i = 14 ∨ i = 15 ∨ i = 16 ∨ i = 17 ∨ i = 18 ∨ i = 19 ∨ i = 20 ∨ i = 21 ∨ i = 22 ∨ i = 23 ∨ i = 24 ∨ i = 25 ∨ i = 26 ∨ i = 27 ∨ i = 28 := by omega
  rcases this with rfl | rfl | rfl | rfl | rfl | rfl | rfl | rfl | rfl | rfl | rfl | rfl | rfl | rfl | rfl | rfl | rfl | rfl | rfl | rfl | rfl | rfl | rfl | rfl | rfl | rfl | rfl | rfl | rfl
  · exact xsok_0
  · exact xsok_1
  · exact xsok_2
  · exact xsok_3
  · exact xsok_4
  · exact xsok_5
  · exact xsok_6
  · exact xsok_7
  · exact xsok_8
  · exact xsok_9
  · exact xsok_10
  · exact xsok_11
  · exact xsok_12
  · exact xsok_13
  · exact xsok_14
  · exact xsok_15
  · exact xsok_16
  · exact xsok_17
  · exact xsok_18
  · exact xsok_19
  · exact xsok_20
  · exact xsok_21
  · exact xsok_22
  · exact xsok_23
  · exact xsok_24
  · exact xsok_25
  · exact xsok_26
  · exact xsok_27
  · exact xsok_28
