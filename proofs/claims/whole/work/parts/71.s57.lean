theorem r233b165 {d : Nat} {Q : XQ} {S : XS} {I : XI} {J : XJ} {r : XR} {w1 w2 w5 : Value} {k x3 x4 y : Int32} {cu su : Nat} (hL : LAY S r) (g : BM I) (hQ : Q none S I J r) : xrun z0 (xcall d) Q 233 165 [.ref 65, .int k, w2, .int x3, .int x4, w5] [.int y] S I J r cu su := K233_165 hL (no g.nle hQ)
theorem r233b142 {d : Nat} {Q : XQ} {S : XS} {I : XI} {J : XJ} {r : XR} {w4 w5 : Value} {x2 x3 y k : Int32} {cu su n s : Nat} {F : Nat → Int32} (hL : LAY S r) (h : RM I J n F s) (g : BM I) (h2 : ¬ x2 = 0) (hQ : Q none S I J r) : xrun z0 (xcall (d + 4)) Q 233 142 [.ref 65, .int k, .int x2, .int x3, w4, w5] [.int y] S I J r cu su :=
  K233_142 hL (r238 (d := d + 1) hL h (K233_149 hL ⟨h2, r224b (d := d + 1) hL g (r233b165 (w1 := .int 0) hL g hQ)⟩))
theorem r233b127 {d : Nat} {Q : XQ} {S : XS} {I : XI} {J : XJ} {r : XR} {w3 w4 w5 : Value} {x2 y k : Int32} {cu su n s : Nat} {F : Nat → Int32} (hL : LAY S r) (h : RM I J n F s) (g : BM I) (h2 : ¬ x2 = 0) (hQ : Q none S I J r) : xrun z0 (xcall (d + 4)) Q 233 127 [.ref 65, .int k, .int x2, w3, w4, w5] [.int y] S I J r cu su :=
  K233_127 hL (r237 (d := d + 1) hL h (K233_133 hL ⟨h2, r224b (d := d + 1) hL g (r233b142 hL h g h2 hQ)⟩))
theorem nI_modv {a d : Nat} (ha : a < 2147483648) (hd : d < 2147483648) : nI a - nI a / nI d * nI d = nI (a % d) := by
  rw [pk_div ha hd, pk_mul, nI_rem]
theorem r233p {d : Nat} {Q : XQ} {S : XS} {I : XI} {J : XJ} {r : XR} {n s k : Nat} {w2 w3 w4 w5 : Value} {F B : Nat → Int32} {W : Nat → Int64} {t1 t2 : Bool} (hL : LAY S r) (hn : n ≤ 900) (hs : s ≤ n) (w : WF B) (hk : bn B 3 = k) (hk6 : k < 6) (h : SM I J n F s B W t1 t2) (W' : Nat → Int64) (hW : ∀ q, q < k + 1 → J 72 (24 + q) = W' q)
    (hQ : RQ Q S I J r n F t1 t2 (bnd (pPatch F n s B W') (fun s8 B8 W8 => pTan F n k s8 B8 W8))) : xrun z0 (xcall (d + 5)) Q 233 97 [.ref 65, .int (nI k), w2, w3, w4, w5] [] S I J r 0 0 := by
  have hce := ce_le w
  have hw0 := w.w
  have hh0 := w.h
  have n1 := nxt_le (F := F) hs
  have n2 := nxt_le (F := F) n1.2.1
  have n3 := nxt_le (F := F) n2.2.1
  have n4 := nxt_le (F := F) n3.2.1
  have n5 := nxt_le (F := F) n4.2.1
  have n6 := nxt_le (F := F) n5.2.1
  have hx2 : ¬ nI (bn B 0) = 0 := by rw [show (0 : Int32) = nI 0 from rfl, nI_eqI (by omega) (by omega)]; omega
  have g0 : ∀ {I' J' s'}, SM I' J' n F s' B W t1 t2 → I' 70 1380 = nI (bn B 0) ∧ I' 70 1381 = nI (bn B 1) := fun h => ⟨(h.2.2.1 0 (by decide)).trans w.w.1, (h.2.2.1 1 (by decide)).trans w.h.1⟩
  unfold pPatch at hQ
  refine K233_97 hL (r236 (d := d + 2) hL h.1 (K233_111 hL ?_))
  rw [(g0 h).1, (g0 h).2, pk_mul, pk_sub (by unfold ce at hce; omega), show bn B 0 * bn B 1 - 1 = ce B - 1 from rfl]
  cases e1 : isW F n s kAt
  · rw [pWrd_e e1] at hQ
    exact r224f (d := d) hL h.1 h.2.1 (r233b127 (d := d + 1) hL h.1.fmk (fm_b am_le.1 am_le.2) hx2 (hQ _ _ (kmf.r _).fm (kmj.r _) fm_d))
  rw [pWrd_o e1] at hQ
  refine r224t (d := d) hL hn hs h.1 h.2.1 (by decide) (by omega) (fun e2 I1 J1 f1 f2 f3 => ?_) (fun e2 I1 J1 f1 f2 => ?_)
  case refine_2 =>
    rw [pNum_e e2] at hQ
    sorry
  sorry
