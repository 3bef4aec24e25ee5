theorem r233b165 {d : Nat} {Q : XQ} {S : XS} {I : XI} {J : XJ} {r : XR} {w1 w2 w5 : Value} {k x3 x4 y : Int32} {cu su : Nat} (hL : LAY S r) (g : BM I) (hQ : Q none S I J r) : xrun z0 (xcall d) Q 233 165 [.ref 65, .int k, w2, .int x3, .int x4, w5] [.int y] S I J r cu su := K233_165 hL (no g.nle hQ)
theorem r233b142 {d : Nat} {Q : XQ} {S : XS} {I : XI} {J : XJ} {r : XR} {w4 w5 : Value} {x2 x3 y k : Int32} {cu su n s : Nat} {F : Nat → Int32} (hL : LAY S r) (h : RM I J n F s) (g : BM I) (h2 : ¬ x2 = 0) (hQ : Q none S I J r) : xrun z0 (xcall (d + 4)) Q 233 142 [.ref 65, .int k, .int x2, .int x3, w4, w5] [.int y] S I J r cu su :=
  K233_142 hL (r238 (d := d + 1) hL h (K233_149 hL ⟨h2, r224b (d := d + 1) hL g (r233b165 (w1 := .int 0) hL g hQ)⟩))
theorem r233b127 {d : Nat} {Q : XQ} {S : XS} {I : XI} {J : XJ} {r : XR} {w3 w4 w5 : Value} {x2 y k : Int32} {cu su n s : Nat} {F : Nat → Int32} (hL : LAY S r) (h : RM I J n F s) (g : BM I) (h2 : ¬ x2 = 0) (hQ : Q none S I J r) : xrun z0 (xcall (d + 4)) Q 233 127 [.ref 65, .int k, .int x2, w3, w4, w5] [.int y] S I J r cu su :=
  K233_127 hL (r237 (d := d + 1) hL h (K233_133 hL ⟨h2, r224b (d := d + 1) hL g (r233b142 hL h g h2 hQ)⟩))
theorem r233p {d : Nat} {Q : XQ} {S : XS} {I : XI} {J : XJ} {r : XR} {n s k : Nat} {w2 w3 w4 w5 : Value} {F B : Nat → Int32} {W : Nat → Int64} {t1 t2 : Bool} (hL : LAY S r) (hn : n ≤ 900) (hs : s ≤ n) (w : WF B) (hk : bn B 3 = k) (hk6 : k < 6) (h : SM I J n F s B W t1 t2) (W' : Nat → Int64) (hW : ∀ q, q < k + 1 → J 72 (24 + q) = W' q)
    (hQ : RQ Q S I J r n F t1 t2 (bnd (pPatch F n s B W') (fun s8 B8 W8 => pTan F n k s8 B8 W8))) : xrun z0 (xcall (d + 5)) Q 233 97 [.ref 65, .int (nI k), w2, w3, w4, w5] [] S I J r 0 0 := by
  have hce := ce_le w
  have hw0 := w.w
  have hh0 := w.h
  have n1 := nxt_le (F := F) hs
  have n2 := nxt_le (F := F) n1.2.1
  have n3 := nxt_le (F := F) n2.2.1
  have n4 := nxt_le (F := F) n3.2.1
  have n5 := nxt_le (F := F) n4.2.1
  have n6 := nxt_le (F := F) n5.2.1
  have hx2 : ¬ nI (bn B 0) = 0 := by rw [show (0 : Int32) = nI 0 from rfl, nI_eqI (by omega) (by omega)]; omega
  have g0 : ∀ {I' J' s'}, SM I' J' n F s' B W t1 t2 → I' 70 1380 = nI (bn B 0) ∧ I' 70 1381 = nI (bn B 1) := fun h => ⟨(h.2.2.1 0 (by decide)).trans w.w.1, (h.2.2.1 1 (by decide)).trans w.h.1⟩
  unfold pPatch at hQ
  refine K233_97 hL (r236 (d := d + 2) hL h.1 (K233_111 hL ?_))
  rw [(g0 h).1, (g0 h).2, pk_mul, pk_sub (by unfold ce at hce; omega), show bn B 0 * bn B 1 - 1 = ce B - 1 from rfl]
  cases e1 : isW F n s kAt
  · rw [pWrd_e e1] at hQ
    exact r224f (d := d) hL h.1 h.2.1 (r233b127 (d := d + 1) hL h.1.fmk (fm_b am_le.1 am_le.2) hx2 (hQ _ _ (kmf.r _).fm (kmj.r _) fm_d))
  rw [pWrd_o e1] at hQ
  refine r224t (d := d) hL hn hs h.1 h.2.1 (by decide) (by omega) (fun e2 I1 J1 f1 f2 f3 => ?_) (fun e2 I1 J1 f1 f2 f3 => ?_)
  case refine_2 =>
    rw [pNum_e e2] at hQ
    exact r233b127 (d := d + 1) hL f3.fmk (fm_b (sN_p e2) sN_le) hx2 (hQ _ _ f1.f.fm f2.mj fm_d)
  rw [pNum_o e2] at hQ
  have hc := (sN_0 e2).2.2
  have h1 := h.a f1 f2 f3
  have hQ := hQ.x f1.f f2.mj
  generalize hcc : nm F n (nxt F n s) = c at *
  have hm : c % bn B 0 < bn B 0 := Nat.mod_lt _ (by omega)
  have hd : c / bn B 0 < bn B 1 := by rw [Nat.div_lt_iff_lt_mul (by omega), Nat.mul_comm]; unfold ce at *; omega
  refine K233_127 hL (r237 (d := d + 2) hL f3 (K233_133 hL ⟨hx2, ?_⟩))
  rw [pk_rem (by omega) (by omega) (by omega), pk_sub (by omega)]
  cases e3 : isW F n (nxt F n (nxt F n s)) kWide
  · rw [pWrd_e e3] at hQ
    exact r224f (d := d) hL f3 h1.2.1 (r233b142 (d := d + 1) hL f3.fmk (fm_b am_le.1 am_le.2) hx2 (hQ _ _ (kmf.r _).fm (kmj.r _) fm_d))
  rw [pWrd_o e3] at hQ
  refine r224t (d := d) hL hn n2.2.1 f3 h1.2.1 (by decide) (by omega) (fun e4 I2 J2 g1 g2 g3 => ?_) (fun e4 I2 J2 g1 g2 g3 => ?_)
  case refine_2 =>
    rw [pNum_e e4] at hQ
    exact r233b142 (d := d + 1) hL g3.fmk (fm_b (sN_p e4) sN_le) hx2 (hQ _ _ g1.f.fm g2.mj fm_d)
  rw [pNum_o e4] at hQ
  have hp := sN_0 e4
  have h2 := h1.a g1 g2 g3
  have hQ := hQ.x g1.f g2.mj
  generalize hpp : nm F n (nxt F n (nxt F n (nxt F n s))) = p at *
  refine K233_142 hL (r238 (d := d + 2) hL g3 (K233_149 hL ⟨hx2, ?_⟩))
  have hle : bn B 1 - c / bn B 0 < 1000000 := Nat.lt_of_le_of_lt (Nat.sub_le _ _) (by omega)
  rw [pk_div (by omega) (by omega) (by omega), (g0 h2).2, pk_sub (by omega)]
  cases e5 : isW F n (nxt F n (nxt F n (nxt F n (nxt F n s)))) kHigh
  · rw [pWrd_e e5] at hQ
    exact r224f (d := d) hL g3 h2.2.1 (r233b165 (w1 := .int 0) hL (fm_b am_le.1 am_le.2) (hQ _ _ (kmf.r _).fm (kmj.r _) fm_d))
  rw [pWrd_o e5] at hQ
  refine r224t (d := d) hL hn n4.2.1 g3 h2.2.1 (by decide) hle (fun e6 I3 J3 f4 f5 f6 => ?_) (fun e6 I3 J3 f4 f5 f6 => ?_)
  case refine_2 =>
    rw [pNum_e e6] at hQ
    exact r233b165 (w1 := .int 0) hL (fm_b (sN_p e6) sN_le) (hQ _ _ f4.f.fm f5.mj fm_d)
  rw [pNum_o e6] at hQ
  have hq := sN_0 e6
  have h3 := h2.a f4 f5 f6
  have hQ := hQ.x f4.f f5.mj
  generalize hqq : nm F n (nxt F n (nxt F n (nxt F n (nxt F n (nxt F n s))))) = q at *
  refine K233_165 hL (yes h3.2.1.le (xcall_imp (by omega) (r246 (d := d) (b := 4) (B := B) hL (by decide) h3.2.2.1 ⟨w.c.1, by omega⟩ (fun I4 p1 p2 p3 => ?_)) (fun _ _ _ _ _ h => h)))
  have km : kmf I3 I4 := ⟨fun x i a b => congrFun (p1 x b) i, fun i a => p3 i (Or.inl (by omega)), fun i a b c => congrFun (p1 65 (by decide)) i⟩
  have hQ := hQ.x km (kmj.r _)
  have w' := w.nw (c := c) (p := p) (q := q) (by omega) (by omega) ⟨hp.2.1, by omega⟩ ⟨hq.2.1, by omega⟩
  refine (r233l (d := d + 1) hL hn n6.2.1 w' ?_ ?_ ⟨f6.i (fun i => congrFun (p1 69 (by decide)) i) (fun i _ => congrFun (p1 65 (by decide)) i) rfl, ?_, ?_, ?_, ?_, ?_⟩ hQ)
  · rw [bn_nw (by omega), hk]
  · unfold nwB nw0
    rw [hk, ub_o (by omega), ub_e]
  · unfold GM; rw [p1 65 (by decide)]; exact h3.2.1
  · intro i hi
    rw [p2 i hi]
    unfold nwB
    by_cases e : i = 3
    · subst e
      rw [ub_e, nw0_o (by omega), w.c.1, hk]
    · rw [ub_o e, ub_o e]
  · intro q hq
    have h72 := hW q hq
    rw [f5 72 _ (by omega), g2 72 _ (by omega), f2 72 _ (by omega)]
    exact h72
  · rw [p1 65 (by decide)]; exact h3.2.2.2.2.1
  · rw [p1 65 (by decide)]; exact h3.2.2.2.2.2
