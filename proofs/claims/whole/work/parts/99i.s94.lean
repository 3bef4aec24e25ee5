/-! cells are made: beyond the heap all is nothing -/
theorem ZH.a {S : XS} {I : XI} {J : XJ} {r : XR} (z : ZH S I J r) (E : XS) : ZH (S ++ E) I J r := fun q hq k => z q (by rw [List.length_append] at hq; omega) k
theorem ZH.i {S : XS} {I : XI} {J : XJ} {r : XR} (z : ZH S I J r) {a i : Nat} {v : Int32} (h : a < S.length) : ZH S (up2 I a i v) J r := fun q hq k => by rw [up_o (by omega)]; exact z q hq k
theorem ZH.j {S : XS} {I : XI} {J : XJ} {r : XR} (z : ZH S I J r) {a i : Nat} {v : Int64} (h : a < S.length) : ZH S I (up2 J a i v) r := fun q hq k => by rw [up_o (by omega)]; exact z q hq k
theorem ZH.r {S : XS} {I : XI} {J : XJ} {r : XR} (z : ZH S I J r) {a i : Nat} {v : Option Nat} (h : a < S.length) : ZH S I J (up2 r a i v) := fun q hq k => by rw [up_o (by omega)]; exact z q hq k
theorem zh_n {S : XS} {I : XI} {J : XJ} {r : XR} (z : ZH S I J r) : (fun q k => if q = S.length then (0 : Int32) else I q k) = I ∧ (fun q k => if q = S.length then (0 : Int64) else J q k) = J ∧ (fun q k => if q = S.length then none else r q k) = r := by
  refine ⟨funext fun q => funext fun k => ?_, funext fun q => funext fun k => ?_, funext fun q => funext fun k => ?_⟩
  · split
    · exact (z q (by omega) k).1.symm
    · rfl
  · split
    · exact (z q (by omega) k).2.1.symm
    · rfl
  · split
    · exact (z q (by omega) k).2.2.symm
    · rfl
theorem a28 {sc : Nat × (Nat → Int32)} {cl : XC} {nx : XN} {Q : XQ} {mc ms : Nat} {l a b d h n e : Nat} {z : Int32} {w : Int64} {is : List XO} {L st : XV} {S : XS} {I : XI} {J : XJ} {r : XR} {cu su : Nat} (p : Nat) (hp : S.length = p) (zh : ZH S I J r) (hc : Nat.ble (cu + 1) mc = true) (hs : Nat.ble (su + nfc b) ms = true) (k : xwp sc cl nx Q mc ms is L (.ref p :: st) (S ++ [(b, 0)]) I J r (cu + 1) (su + nfc b)) : xwp sc cl nx Q mc ms ((28, l, a, b, d, h, n, e, z, w) :: is) L st S I J r cu su := by
  subst hp
  refine ⟨Nat.le_of_ble_eq_true hc, Nat.le_of_ble_eq_true hs, ?_⟩
  rw [(zh_n zh).1, (zh_n zh).2.1, (zh_n zh).2.2]
  exact k
theorem a29 {sc : Nat × (Nat → Int32)} {cl : XC} {nx : XN} {Q : XQ} {mc ms : Nat} {l a b d h n e : Nat} {z : Int32} {w : Int64} {is : List XO} {L st : XV} {S : XS} {I : XI} {J : XJ} {r : XR} {cu su : Nat} (p m : Nat) (hm : Nat.ble m 4000 = true) (hp : S.length = p) (zh : ZH S I J r) (hc : Nat.ble (cu + 1) mc = true) (hs : Nat.ble (su + m) ms = true) (k : xwp sc cl nx Q mc ms is L (.ref p :: st) (S ++ [(b, m)]) I J r (cu + 1) (su + m)) : xwp sc cl nx Q mc ms ((29, l, a, b, d, h, n, e, z, w) :: is) L (.int (nI m) :: st) S I J r cu su := by
  subst hp
  have h4 := Nat.le_of_ble_eq_true hm
  have e : (nI m).toNatClampNeg = m := nI_clamp (by omega)
  refine ⟨nI_pos' (by omega), by rw [e]; exact h4, Nat.le_of_ble_eq_true hc, by rw [e]; exact Nat.le_of_ble_eq_true hs, ?_⟩
  rw [(zh_n zh).1, (zh_n zh).2.1, (zh_n zh).2.2, e]
  exact k
theorem a30 {sc : Nat × (Nat → Int32)} {cl : XC} {nx : XN} {Q : XQ} {mc ms : Nat} {l a b d h n e : Nat} {z : Int32} {w : Int64} {is : List XO} {L st : XV} {S : XS} {I : XI} {J : XJ} {r : XR} {cu su : Nat} (p m : Nat) (hm : Nat.ble m 4000 = true) (hp : S.length = p) (zh : ZH S I J r) (hc : Nat.ble (cu + 1) mc = true) (hs : Nat.ble (su + m) ms = true) (k : xwp sc cl nx Q mc ms is L (.ref p :: st) (S ++ [(103, m)]) I J r (cu + 1) (su + m)) : xwp sc cl nx Q mc ms ((30, l, a, b, d, h, n, e, z, w) :: is) L (.int (nI m) :: st) S I J r cu su := by
  subst hp
  have h4 := Nat.le_of_ble_eq_true hm
  have e : (nI m).toNatClampNeg = m := nI_clamp (by omega)
  refine ⟨nI_pos' (by omega), by rw [e]; exact h4, Nat.le_of_ble_eq_true hc, by rw [e]; exact Nat.le_of_ble_eq_true hs, ?_⟩
  rw [(zh_n zh).1, (zh_n zh).2.1, (zh_n zh).2.2, e]
  exact k
theorem sA {S E : XS} {q : Nat} {x : Nat × Nat} (h : S[q]? = some x) : (S ++ E)[q]? = some x := by
  have hq : q < S.length := Decidable.byContradiction (fun g => by rw [List.getElem?_eq_none (by omega)] at h; cases h)
  rw [List.getElem?_append_left hq]
  exact h
theorem sN' {S E : XS} {p i q : Nat} (hp : S.length = p) (hq : p + i = q) : (S ++ E)[q]? = E[i]? := by
  rw [List.getElem?_append_right (by omega)]
  congr 1
  omega
theorem lA {S E : XS} {p n q : Nat} (hp : S.length = p) (hn : E.length = n) (hq : p + n = q) : (S ++ E).length = q := by rw [List.length_append]; omega
