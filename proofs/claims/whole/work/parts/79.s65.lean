theorem CR.ne {I : XI} {J : XJ} {a : Nat} {B : Nat → Int32} {W : Nat → Int64} (c : CR I J a B W) : I a 0 * I a 1 - nI 1 = nI (ce B - 1) := by
  have := ce_le c.wf
  unfold ce at *
  rw [c.n0, c.n1, pk_mul, pk_sub (by omega)]
theorem c89 {d : Nat} {Q : XQ} {S : XS} {I : XI} {J : XJ} {r : XR} {a L l : Nat} (h0 : LY7 S r a) (h2 : I a 2 = nI L) (hL : L ≤ 60) (hl : l < L) (hQ : Q (some (.int (nI 1))) S I J r) : xcall (d + 1) 89 [.ref a, .int (nI l)] S I J r Q := by
  refine E89 h0 (no (by rw [nI_nlt0 (by omega)]; exact id) (no ?_ (no ?_ hQ)))
  · rw [h2, nI_leI (by omega) (by omega)]; omega
  · rw [nI_leI (by decide) (by omega)]; omega
/-- a comparing sign -/
theorem c95 {d : Nat} {Q : XQ} {S : XS} {I : XI} {J : XJ} {r : XR} {Q' : XQ} {n s L T l q : Nat} {F B y : Nat → Int32} {Y : YY} {P : Nat → Nat} {W : Nat → Int64} {X : YO} (hL : LAY S r) (hn : n ≤ 900) (hs : s ≤ n) (hl : l < 60) (h : SY I J n F s L T (yPut Y l y) q P B W) (hQ : RY Q' S I J r n F L T Y l q P B W (if kd F n s = 3 ∧ F s ≠ nI 59 then X else .error (am F n s, s))) (he : ∀ I J, Q' (some (.int (nI 0))) S I J r → Q (some (.int (nI 0))) S I J r)
    (hT : ∀ I' J', yf I I' → yj J J' → SY I' J' n F (nxt F n s) L T (yPut Y l (ub y 3 (F s))) q P B W → RY Q' S I' J' r n F L T Y l q P B W X → Q (some (.int (nI 1))) S I' J' r) : xcall (d + 3) 95 [.ref 15, .ref 57, .int (nI l)] S I J r Q := by
  have h5 := lay5_16 hL
  have bad : ¬ (kd F n s = 3 ∧ F s ≠ nI 59) → xcall (d + 2) 55 [.ref 16] S I J r (fun v S1 I1 J1 r1 => xrun z0 (xcall (d + 2)) Q 95 30 [.ref 15, .ref 57, .int (nI l)] (v.toList ++ []) S1 I1 J1 r1 0 0) := fun q => by
    rw [if_neg q] at hQ
    exact c55 (d := d + 1) h5 h.1 (K95_30 ⟨Or.inl rfl, he _ _ (RY.e hQ)⟩)
  refine E95 hL (lay7_57 hL) ?_
  rw [h.1.2.2.2.1, nI_eqI (by have := kd_le (F := F) (n := n) (s := s); omega) (by decide)]
  by_cases q1 : kd F n s = 3
  case neg => exact yes q1 (bad (fun h => q1 h.1))
  refine nno q1 ?_
  rw [h.1.2.2.2.2.2.2 q1]
  by_cases q2 : F s = nI 59
  · exact nno q2 (bad (fun h => h.2 q2))
  · rw [if_pos ⟨q1, q2⟩] at hQ
    refine yes q2 ⟨vp_in_nI (by omega) (by decide), ?_⟩
    rw [nI_clamp (by omega)]
    have h1 := h.w (f := 3) (v := F s) (by decide)
    have k1 : yf I (up2 I 61 l (F s)) := (yf.r I).u (by omega)
    exact c36 h5 hn hs h1.1 (fun I2 J2 f1 f2 f3 => K95_51 (hT I2 J2 (k1.t f1.yf) f2.yj (h1.a f1 f2 f3) (hQ.x (k1.t f1.yf) f2.yj)))
theorem SY.kd' {I : XI} {J : XJ} {n s L T q l : Nat} {F B y : Nat → Int32} {Y : YY} {P : Nat → Nat} {W : Nat → Int64} (h : SY I J n F s L T (yPut Y l y) q P B W) (hl : l < L) (hL : l < 60) : I (57 + 1) (nI l).toNatClampNeg = y 0 := by
  have := h.2.1.2.2.2 l hl 0 (by decide)
  rw [yPut_e] at this
  rw [nI_clamp (by omega)]
  exact this
/-- a test -/
theorem c92 {d : Nat} {Q : XQ} {S : XS} {I : XI} {J : XJ} {r : XR} {n s L T l q : Nat} {F B y : Nat → Int32} {Y : YY} {P : Nat → Nat} {W : Nat → Int64} (hL : LAY S r) (hn : n ≤ 900) (hs : s ≤ n) (hl : l < L) (hL6 : L ≤ 60) (h : SY I J n F s L T (yPut Y l y) q P B W) (hQ : RY Q S I J r n F L T Y l q P B W (yTest F n s y (bn B 3) (ce B) W)) : xcall (d + 8) 92 [.ref 15, .ref 28, .ref 57, .int (nI l)] S I J r Q := by
  have h5 := lay5_16 hL
  have h0 := lay0_28 hL
  have h7 := lay7_57 hL
  have hce := ce_le h.2.2.2.2.2.2.wf
  have n1 := nxt_le (F := F) hs
  have n2 := nxt_le (F := F) n1.2.1
  have n3 := nxt_le (F := F) n2.2.1
  unfold yTest at hQ
  refine E92 h7 (c89 (d := d + 6) h7 h.2.1.2.2.1 hL6 hl (K92_5 hL (yes (by decide) (c40k (d := d + 2) h5 h.1 (k := 26) (K := kShows) (by decide) (by decide +kernel) (fun e => K92_25 hL h7 (no (by decide) ⟨vp_in_nI (by omega) (by decide), ?_⟩)) (fun e => K92_25 hL h7 (yes rfl ?_))))))
  · rw [if_pos e] at hQ
    rw [nI_clamp (by omega)]
    have h1 := h.w (f := 0) (v := nI 12) (by decide)
    have k1 : yf I (up2 I 58 l (nI 12)) := (yf.r I).u (by omega)
    refine c36 (d := d + 5) h5 hn hs h1.1 (fun I2 J2 f1 f2 f3 => K92_43 hL (c93 (d := d) hL hn n1.2.1 (by omega) (h1.a f1 f2 f3) (hQ.x (k1.t f1.yf) f2.yj) (fun I J q => K92_50 (cu := 0) (su := 0) hL h0 h7 (yes rfl q)) (fun k I3 J3 hk g1 g2 h3 hQ => K92_50 (cu := 0) (su := 0) hL h0 h7 (no (by decide) ?_))))
    rw [h3.2.2.2.2.2.2.ne]
    exact c94 (d := d + 4) (f := 2) hL hn n2.2.1 (by omega) (by decide) h3 (by decide) (by omega) hQ (fun I J q => K92_74 (cu := 0) (su := 0) (yes rfl q)) (fun I4 J4 _ _ p1 p2 h4 hQ => K92_74 (cu := 0) (su := 0) (no (by decide) (hQ I4 J4 (yf.r _) (yj.r _) h4)))
  rw [if_neg (by rw [e]; decide)] at hQ
  refine c40k (d := d + 2) h5 h.1 (k := 27) (K := kTan) (by decide) (by decide +kernel) (fun e => K92_92 hL h7 (no (by decide) ⟨vp_in_nI (by omega) (by decide), ?_⟩)) (fun e => K92_92 hL h7 (yes rfl ?_))
  · rw [if_pos e] at hQ
    rw [nI_clamp (by omega)]
    have h1 := h.w (f := 0) (v := nI 13) (by decide)
    have k1 : yf I (up2 I 58 l (nI 13)) := (yf.r I).u (by omega)
    refine c36 (d := d + 5) h5 hn hs h1.1 (fun I2 J2 f1 f2 f3 => K92_110 hL (c93 (d := d) hL hn n1.2.1 (by omega) (h1.a f1 f2 f3) (hQ.x (k1.t f1.yf) f2.yj) (fun I J q => K92_117 (cu := 0) (su := 0) hL (yes rfl q)) (fun k I3 J3 hk g1 g2 h3 hQ => K92_117 (cu := 0) (su := 0) hL (no (by decide) ?_))))
    refine c95 (d := d + 4) hL hn n2.2.1 (by omega) h3 hQ (fun I J q => K92_126 (cu := 0) (su := 0) hL h7 (yes rfl q)) (fun I4 J4 p1 p2 h4 hQ => K92_126 (cu := 0) (su := 0) hL h7 (no (by decide) ?_))
    exact c94 (d := d + 4) (f := 2) hL hn n3.2.1 (by omega) (by decide) h4 (by decide) (by decide) hQ (fun I J q => K92_141 (cu := 0) (su := 0) (yes rfl q)) (fun I5 J5 _ _ p1 p2 h5 hQ => K92_141 (cu := 0) (su := 0) (no (by decide) (hQ I5 J5 (yf.r _) (yj.r _) h5)))
  rw [if_neg (by rw [e]; decide)] at hQ
  refine c40k (d := d + 2) h5 h.1 (k := 28) (K := kVeiled) (by decide) (by decide +kernel) (fun e => K92_159 hL h7 (no (by decide) ⟨vp_in_nI (by omega) (by decide), ?_⟩)) (fun e => K92_159 hL h7 (yes rfl ?_))
  · rw [if_pos e] at hQ
    rw [nI_clamp (by omega)]
    have h1 := h.w (f := 0) (v := nI 14) (by decide)
    have k1 : yf I (up2 I 58 l (nI 14)) := (yf.r I).u (by omega)
    exact c36 (d := d + 5) h5 hn hs h1.1 (fun I2 J2 f1 f2 f3 => K92_177 hL (c93 (d := d) hL hn n1.2.1 (by omega) (h1.a f1 f2 f3) (hQ.x (k1.t f1.yf) f2.yj) (fun I J q => K92_184 (cu := 0) (su := 0) ⟨Or.inl rfl, q⟩) (fun k I3 J3 hk g1 g2 h3 hQ => K92_184 (cu := 0) (su := 0) ⟨Or.inr rfl, hQ I3 J3 (yf.r _) (yj.r _) h3⟩)))
  rw [if_neg (by rw [e]; decide)] at hQ
  exact c55 (d := d + 6) h5 h.1 (K92_192 ⟨Or.inl rfl, RY.e hQ⟩)
section
variable {F y : Nat → Int32} {n s N c : Nat} {W : Nat → Int64}
theorem yR0 : yRest F n s y 0 N c W = qCou F n s N W (fun q s1 => qNum F n s1 1 9 (fun m s2 => .ok (s2, ub (ub y 1 (nI q)) 2 (nI m)))) := by unfold yRest; rw [if_pos rfl]
theorem yR1 : yRest F n s y 1 N c W = qNum F n s 1 9 (fun m s1 => .ok (s1, ub y 2 (nI m))) := by unfold yRest; rw [if_neg (by decide), if_pos rfl]
theorem yR235 {k : Nat} (h : k = 2 ∨ k = 3 ∨ k = 5) : yRest F n s y k N c W = qCou F n s N W (fun q s1 => .ok (s1, ub y 1 (nI q))) := by unfold yRest; rw [if_neg (by omega), if_neg (by omega), if_pos h]
theorem yR4 : yRest F n s y 4 N c W = qCou F n s N W (fun q s1 => qNum F n s1 0 (c - 1) (fun m s2 => .ok (s2, ub (ub y 1 (nI q)) 2 (nI m)))) := by unfold yRest; rw [if_neg (by decide), if_neg (by decide), if_neg (by decide), if_pos rfl]
theorem yR6 : yRest F n s y 6 N c W = qCou F n s N W (fun q s1 => qNum F n s1 0 (c - 1) (fun m s2 => qNum F n s2 0 (c - 1) (fun m2 s3 => qNum F n s3 1 10 (fun m3 s4 => .ok (s4, ub (ub (ub (ub y 1 (nI q)) 2 (nI m)) 3 (nI m2)) 4 (nI m3)))))) := by unfold yRest; rw [if_neg (by decide), if_neg (by decide), if_neg (by decide), if_neg (by decide), if_pos rfl]
theorem yR8 : yRest F n s y 8 N c W = yTest F n s y N c W := by unfold yRest; rw [if_neg (by decide), if_neg (by decide), if_neg (by decide), if_neg (by decide), if_neg (by decide), if_pos rfl]
theorem yR9 : yRest F n s y 9 N c W = qNum F n s 1 99 (fun m s1 => .ok (s1, ub y 2 (nI m))) := by unfold yRest; rw [if_neg (by decide), if_neg (by decide), if_neg (by decide), if_neg (by decide), if_neg (by decide), if_neg (by decide), if_pos rfl]
theorem yR7 {k : Nat} (h : k = 7 ∨ k = 10) : yRest F n s y k N c W = .ok (s, y) := by unfold yRest; rw [if_neg (by omega), if_neg (by omega), if_neg (by omega), if_neg (by omega), if_neg (by omega), if_neg (by omega), if_neg (by omega)]
end
/-- what stands behind a step's word -/
theorem c96 {d : Nat} {Q : XQ} {S : XS} {I : XI} {J : XJ} {r : XR} {n s L T l q k : Nat} {F B y : Nat → Int32} {Y : YY} {P : Nat → Nat} {W : Nat → Int64} (hL : LAY S r) (hn : n ≤ 900) (hs : s ≤ n) (hl : l < L) (hL6 : L ≤ 60) (hk : k ≤ 10) (hk8 : k ≠ 8) (h : SY I J n F s L T (yPut Y l y) q P B W) (hy : y 0 = nI (clk k)) (hQ : RY Q S I J r n F L T Y l q P B W (yRest F n s y k (bn B 3) (ce B) W)) : xcall (d + 8) 96 [.ref 15, .ref 28, .ref 57, .int (nI l)] S I J r Q := by
  have h5 := lay5_16 hL
  have h0 := lay0_28 hL
  have h7 := lay7_57 hL
  have hce := ce_le h.2.2.2.2.2.2.wf
  have n1 := nxt_le (F := F) hs
  have n2 := nxt_le (F := F) n1.2.1
  have n3 := nxt_le (F := F) n2.2.1
  refine E96 h7 (c89 (d := d + 6) h7 h.2.1.2.2.1 hL6 hl (K96_5 hL h0 h7 (yes (by decide) ⟨vp_in_nI (by omega) (by decide), ?_⟩)))
  rw [h.kd' hl (by omega), hy, h.2.2.2.2.2.2.ne]
  rcases (by omega : k = 0 ∨ k = 1 ∨ k = 2 ∨ k = 3 ∨ k = 4 ∨ k = 5 ∨ k = 6 ∨ k = 7 ∨ k = 9 ∨ k = 10) with rfl | rfl | rfl | rfl | rfl | rfl | rfl | rfl | rfl | rfl
  · rw [yR0] at hQ
    refine yes (by decide) (c93 (d := d) hL hn hs (by omega) h hQ (fun I J q => K96_95 (cu := 0) (su := 0) hL h7 (yes rfl q)) (fun k I3 J3 hk g1 g2 h3 hQ => K96_95 (cu := 0) (su := 0) hL h7 (no (by decide) ?_)))
    exact c94 (d := d + 4) (f := 2) hL hn n1.2.1 (by omega) (by decide) h3 (by decide) (by decide) hQ (fun I J q => K96_110 (cu := 0) (su := 0) (yes rfl q)) (fun I4 J4 _ _ p1 p2 h4 hQ => K96_110 (cu := 0) (su := 0) (no (by decide) (hQ I4 J4 (yf.r _) (yj.r _) h4)))
  · rw [yR1] at hQ
    refine no (by decide) (yes (by decide) ?_)
    exact c94 (d := d + 4) (f := 2) hL hn hs (by omega) (by decide) h (by decide) (by decide) hQ (fun I J q => K96_131 (cu := 0) (su := 0) ⟨Or.inl rfl, q⟩) (fun I4 J4 _ _ p1 p2 h4 hQ => K96_131 (cu := 0) (su := 0) ⟨Or.inr rfl, hQ I4 J4 (yf.r _) (yj.r _) h4⟩)
  · rw [yR235 (by decide)] at hQ
    refine no (by decide) (no (by decide) (yes (by decide) ?_))
    exact c93 (d := d) hL hn hs (by omega) h hQ (fun I J q => K96_139 (cu := 0) (su := 0) ⟨Or.inl rfl, q⟩) (fun k I3 J3 hk g1 g2 h3 hQ => K96_139 (cu := 0) (su := 0) ⟨Or.inr rfl, hQ I3 J3 (yf.r _) (yj.r _) h3⟩)
  · rw [yR235 (by decide)] at hQ
    refine no (by decide) (no (by decide) (no (by decide) (yes (by decide) ?_)))
    exact c93 (d := d) hL hn hs (by omega) h hQ (fun I J q => K96_139 (cu := 0) (su := 0) ⟨Or.inl rfl, q⟩) (fun k I3 J3 hk g1 g2 h3 hQ => K96_139 (cu := 0) (su := 0) ⟨Or.inr rfl, hQ I3 J3 (yf.r _) (yj.r _) h3⟩)
  · rw [yR4] at hQ
    refine no (by decide) (no (by decide) (no (by decide) (no (by decide) (yes (by decide) ?_))))
    refine c93 (d := d) hL hn hs (by omega) h hQ (fun I J q => K96_147 (cu := 0) (su := 0) hL h7 (yes rfl q)) (fun k I3 J3 hk g1 g2 h3 hQ => K96_147 (cu := 0) (su := 0) hL h7 (no (by decide) ?_))
    exact c94 (d := d + 4) (f := 2) hL hn n1.2.1 (by omega) (by decide) h3 (by decide) (by omega) hQ (fun I J q => K96_162 (cu := 0) (su := 0) (yes rfl q)) (fun I4 J4 _ _ p1 p2 h4 hQ => K96_162 (cu := 0) (su := 0) (no (by decide) (hQ I4 J4 (yf.r _) (yj.r _) h4)))
  · rw [yR235 (by decide)] at hQ
    refine no (by decide) (no (by decide) (no (by decide) (no (by decide) (no (by decide) (yes (by decide) ?_)))))
    exact c93 (d := d) hL hn hs (by omega) h hQ (fun I J q => K96_139 (cu := 0) (su := 0) ⟨Or.inl rfl, q⟩) (fun k I3 J3 hk g1 g2 h3 hQ => K96_139 (cu := 0) (su := 0) ⟨Or.inr rfl, hQ I3 J3 (yf.r _) (yj.r _) h3⟩)
  · rw [yR6] at hQ
    refine no (by decide) (no (by decide) (no (by decide) (no (by decide) (no (by decide) (no (by decide) (yes (by decide) ?_))))))
    refine c93 (d := d) hL hn hs (by omega) h hQ (fun I J q => K96_178 (cu := 0) (su := 0) hL h7 (yes rfl q)) (fun k I3 J3 hk g1 g2 h3 hQ => K96_178 (cu := 0) (su := 0) hL h7 (no (by decide) ?_))
    refine c94 (d := d + 4) (f := 2) hL hn n1.2.1 (by omega) (by decide) h3 (by decide) (by omega) hQ (fun I J q => K96_193 (cu := 0) (su := 0) hL h7 (yes rfl q)) (fun I4 J4 _ _ p1 p2 h4 hQ => K96_193 (cu := 0) (su := 0) hL h7 (no (by decide) ?_))
    refine c94 (d := d + 4) (f := 3) hL hn n2.2.1 (by omega) (by decide) h4 (by decide) (by omega) hQ (fun I J q => K96_208 (cu := 0) (su := 0) hL h7 (yes rfl q)) (fun I5 J5 _ _ p1 p2 h5 hQ => K96_208 (cu := 0) (su := 0) hL h7 (no (by decide) ?_))
    exact c94 (d := d + 4) (f := 4) hL hn n3.2.1 (by omega) (by decide) h5 (by decide) (by decide) hQ (fun I J q => K96_223 (cu := 0) (su := 0) (yes rfl q)) (fun I6 J6 _ _ p1 p2 h6 hQ => K96_223 (cu := 0) (su := 0) (no (by decide) (hQ I6 J6 (yf.r _) (yj.r _) h6)))
  · rw [yR7 (by decide)] at hQ
    refine no (by decide) (no (by decide) (no (by decide) (no (by decide) (no (by decide) (no (by decide) (no (by decide) (yes (by decide) ?_)))))))
    exact hQ I J (yf.r _) (yj.r _) h
  · rw [yR9] at hQ
    refine no (by decide) (no (by decide) (no (by decide) (no (by decide) (no (by decide) (no (by decide) (no (by decide) (no (by decide) (no (by decide) (yes (by decide) ?_)))))))))
    exact c94 (d := d + 4) (f := 2) hL hn hs (by omega) (by decide) h (by decide) (by decide) hQ (fun I J q => K96_244 (cu := 0) (su := 0) ⟨Or.inl rfl, q⟩) (fun I4 J4 _ _ p1 p2 h4 hQ => K96_244 (cu := 0) (su := 0) ⟨Or.inr rfl, hQ I4 J4 (yf.r _) (yj.r _) h4⟩)
  · rw [yR7 (by decide)] at hQ
    refine no (by decide) (no (by decide) (no (by decide) (no (by decide) (no (by decide) (no (by decide) (no (by decide) (no (by decide) (yes (by decide) ?_))))))))
    exact hQ I J (yf.r _) (yj.r _) h
