theorem SN.end {I : XI} {J : XJ} {n s k : Nat} {F B : Nat → Int32} {W : Nat → Int64} {t1 t2 : Bool} (h : SN I J n F s k B W t1 t2) (hk : k < 6) (h3 : B 3 = nI (k + 1)) : SM (up2 I 70 1383 (nI (k + 1))) J n F s B W t1 t2 :=
  ⟨h.1.u, by unfold GM; rw [up_o (by decide)]; exact h.2.1, fun i hi => by
    by_cases e : i = 3
    · subst e; rw [up_e]; exact h3.symm
    · rw [up_i (by omega), h.2.2.1 i hi, ub_o e], fun q hq => h.2.2.2.1 q (by rw [bn_nI h3 (by omega)] at hq; exact hq), by rw [up_o (by decide)]; exact h.2.2.2.2.1, by rw [up_o (by decide)]; exact h.2.2.2.2.2⟩
theorem r233e {d : Nat} {Q : XQ} {S : XS} {I : XI} {J : XJ} {r : XR} {n s k cu su : Nat} {w2 w3 w4 w5 : Value} {F B : Nat → Int32} {W : Nat → Int64} {t1 t2 : Bool} (hL : LAY S r) (hk : k < 6) (h3 : B 3 = nI (k + 1)) (h : SN I J n F s k B W t1 t2) (hQ : RQ Q S I J r n F t1 t2 (.ok (s, B, W))) : xrun z0 (xcall d) Q 233 251 [.ref 65, .int (nI k), w2, w3, w4, w5] [] S I J r cu su := by
  refine K233_251 hL ?_
  rw [nI_add]
  exact hQ _ _ ((kmf.r I).u (by decide)) (kmj.r J) (h.end hk h3)
theorem r233eb {d : Nat} {Q : XQ} {S : XS} {I : XI} {J : XJ} {r : XR} {k cu su kk p : Nat} {w2 w3 w4 w5 : Value} (hL : LAY S r) (hb : bd I kk p) (hQ : ∀ I', kmf I I' → bd I' kk p → Q none S I' J r) : xrun z0 (xcall d) Q 233 251 [.ref 65, .int (nI k), w2, w3, w4, w5] [] S I J r cu su :=
  K233_251 hL (hQ _ ((kmf.r I).u (by decide)) hb.u)
theorem pInkL_w {F B' : Nat → Int32} {n k s' : Nat} {W W' : Nat → Int64} : ∀ j s (B : Nat → Int32), WF B → k < bn B 3 → pInkL F n k W j s B = .ok (s', B', W') → WF B' ∧ B' 3 = B 3
  | 0, s, B, w, hk, h => by rw [pInkL] at h; cases h; exact ⟨w, rfl⟩
  | j + 1, s, B, w, hk, h => by
    rw [pInkL] at h
    split at h
    · split at h
      · rename_i q1 q2
        split at h
        · cases h
        · rename_i q3
          split at h
          · cases h
          · rename_i q4
            have ik := w.ik1 hk q2.2 (Bool.eq_false_iff.mpr q3) q4
            have w' := w.ink hk ik.1 ik.2
            have hb := w.c.2
            have e3 : ub B (67 + k) (B (67 + k) ||| bi (nm F n s)) 3 = B 3 := ub_o (by omega)
            have := pInkL_w j _ _ w' (by unfold bn; rw [e3]; exact hk) h
            exact ⟨this.1, this.2.trans e3⟩
      · cases h
    · cases h; exact ⟨w, rfl⟩
/-- inked: from the word on -/
theorem r233i {d : Nat} {Q : XQ} {S : XS} {I : XI} {J : XJ} {r : XR} {n s k cu su : Nat} {w2 w3 w4 w5 : Value} {F B : Nat → Int32} {W : Nat → Int64} {t1 t2 : Bool} (hL : LAY S r) (hn : n ≤ 900) (hs : s ≤ n) (w : WF B) (hk : bn B 3 = k + 1) (h0 : B (67 + k) = 0) (h : SN I J n F s k B W t1 t2) (hQ : RQ Q S I J r n F t1 t2 (pInk F n k s B W)) : xrun z0 (xcall (d + 4)) Q 233 240 [.ref 65, .int (nI k), w2, w3, w4, w5] [.int (b01 (isW F n s kInked)), .ref 65] S I J r cu su := by
  have hb3 := w.c.2
  have h3 : B 3 = nI (k + 1) := by rw [← hk]; exact w.c.1
  unfold pInk at hQ
  refine K233_240 hL ?_
  cases e : isW F n s kInked
  · rw [if_neg (by rw [e]; decide)] at hQ
    exact r247f hL (K233_243 hL (yes rfl (r233e hL (by omega) h3 h hQ)))
  rw [if_pos e] at hQ
  refine r247t (d := d + 1) hL hn hs h.1 h.2.1 (fun I1 J1 f1 f2 f3 => K233_243 hL (no (by decide) (E248 ?_)))
  refine k248 (d := d) (B := B) hL hn w (by omega) 7 0 (nxt F n s) 0 0 0 I1 J1 _ rfl (by decide) ?_ (nxt_le hs).2.1 (h.a f1 f2 f3) ?_
  · exact ct_0 30
  · rw [ub_same h0]
    have hQ := hQ.x f1.f f2.mj
    cases ep : pInkL F n k W 7 (nxt F n s) B with
    | error er =>
      rw [ep] at hQ
      exact fun I' J' a1 a2 a3 => r233eb hL a3 (fun I2 b1 b2 => hQ I2 J' (a1.t b1) a2 b2)
    | ok o =>
      obtain ⟨s', B', W'⟩ := o
      rw [ep] at hQ
      refine fun I' J' a1 a2 a3 => r233e hL (by omega) ?_ a3 (hQ.x a1 a2)
      exact (pInkL_w 7 _ B w (by omega) ep).2.trans h3
/-- veiled: from the word on -/
theorem r233v {d : Nat} {Q : XQ} {S : XS} {I : XI} {J : XJ} {r : XR} {n s k cu su : Nat} {w2 w3 w4 w5 : Value} {F B : Nat → Int32} {W : Nat → Int64} {t1 t2 : Bool} (hL : LAY S r) (hn : n ≤ 900) (hs : s ≤ n) (w : WF B) (hk : bn B 3 = k + 1) (h0 : B (67 + k) = 0) (h : SN I J n F s k B W t1 t2) (hQ : RQ Q S I J r n F t1 t2 (pVeil F n k s B W)) : xrun z0 (xcall (d + 4)) Q 233 218 [.ref 65, .int (nI k), w2, w3, w4, w5] [.int (b01 (isW F n s kVeiled)), .ref 65] S I J r cu su := by
  have hb3 := w.c.2
  unfold pVeil at hQ
  refine K233_218 hL ?_
  cases e : isW F n s kVeiled
  · rw [if_neg (by rw [e]; decide)] at hQ
    exact r247f hL (K233_221 hL (yes rfl (r239 (d := d + 1) hL h.1 (r233i hL hn hs w hk h0 h hQ))))
  rw [if_pos e] at hQ
  refine r247t (d := d + 1) hL hn hs h.1 h.2.1 (fun I1 J1 f1 f2 f3 => K233_221 hL (no (by decide) ⟨by rw [nI_add]; exact vp_in_nI (by omega) (by decide), ?_⟩))
  rw [nI_add, nI_clamp (by omega)]
  have h1 := (h.a f1 f2 f3).w (i := 61 + k) (v := nI 1) (by omega) (by omega)
  rw [show 1380 + (61 + k) = 1441 + k by omega] at h1
  have hQ := hQ.x (f1.f.u (i := 1441 + k) (v := nI 1) (by omega)) f2.mj
  refine r239 (d := d + 1) hL h1.1 (r233i hL hn (nxt_le hs).2.1 (w.veil (by omega) (Or.inr rfl)) ?_ ?_ h1 hQ)
  · unfold bn; rw [ub_o (by omega)]; exact hk
  · rw [ub_o (by omega)]; exact h0
/-- the looks -/
theorem r233l {d : Nat} {Q : XQ} {S : XS} {I : XI} {J : XJ} {r : XR} {n s k cu su : Nat} {w2 w3 w4 w5 : Value} {F B : Nat → Int32} {W : Nat → Int64} {t1 t2 : Bool} (hL : LAY S r) (hn : n ≤ 900) (hs : s ≤ n) (w : WF B) (hk : bn B 3 = k + 1) (h0 : B (67 + k) = 0) (h : SN I J n F s k B W t1 t2) (hQ : RQ Q S I J r n F t1 t2 (pTan F n k s B W)) : xrun z0 (xcall (d + 4)) Q 233 185 [.ref 65, .int (nI k), w2, w3, w4, w5] [] S I J r cu su := by
  have hb3 := w.c.2
  have n1 := nxt_le (F := F) hs
  unfold pTan at hQ
  refine K233_185 hL (r242 (d := d + 1) hL h.1 (K233_190 hL ?_))
  cases e : isW F n s kTan
  · rw [if_neg (by rw [e]; decide)] at hQ
    exact r247f hL (K233_193 hL (yes rfl (r243 (d := d + 1) hL h.1 (r233v hL hn hs w hk h0 h hQ))))
  rw [if_pos e] at hQ
  refine r247t (d := d + 1) hL hn hs h.1 h.2.1 (fun I1 J1 f1 f2 f3 => K233_193 hL (no (by decide) ?_))
  have h1 := h.a f1 f2 f3
  have hQ := hQ.x f1.f f2.mj
  rw [nI_add]
  refine r218 (d := d) hL hn n1.2.1 f3 h1.2.1 (by decide) (by decide) (fun e2 I2 J2 g1 g2 g3 => K233_212 hL ⟨vp_in_nI (by omega) (by decide), ?_⟩) (fun e2 => K233_212 hL ⟨vp_in_nI (by omega) (by decide), ?_⟩)
  · rw [pNum_o e2] at hQ
    rw [nI_clamp (by omega)]
    have h2 := (h1.a g1 g2 g3).w (i := 55 + k) (v := nI (nm F n (nxt F n s))) (by omega) (by omega)
    rw [show 1380 + (55 + k) = 1435 + k by omega] at h2
    have hQ := hQ.x (g1.f.u (i := 1435 + k) (v := nI (nm F n (nxt F n s))) (by omega)) g2.mj
    refine r243 (d := d + 1) hL h2.1 (r233v hL hn (nxt_le n1.2.1).2.1 (w.tan (by omega) (sN_0 e2).2.2) ?_ ?_ h2 hQ)
    · unfold bn; rw [ub_o (by omega)]; exact hk
    · rw [ub_o (by omega)]; exact h0
  · rw [pNum_e e2] at hQ
    rw [nI_clamp (by omega)]
    have b := fm_b (I := I1) (s := nxt F n s) (sN_p e2) (sN_le (F := F) (n := n) (s := nxt F n s) (lo := 0) (hi := 9))
    have hbd : bd (up2 (fm I1 (sN F n (nxt F n s) 0 9) (nxt F n s)) 70 (1435 + k) (nI 0)) (sN F n (nxt F n s) 0 9) (nxt F n s) := fm_d.u
    have b2 := hbd.b (sN_p e2) sN_le
    refine r243 (d := d + 1) hL f3.fmk.u (K233_218 hL (r247b hL b2 (K233_221 hL (yes rfl (r239 (d := d + 1) hL f3.fmk.u (K233_240 hL (r247b hL b2 (K233_243 hL (yes rfl (r233eb hL hbd (fun I' a1 a2 => hQ I' J1 ((((kmf.r I1).fm).u (by omega)).t a1) (kmj.r _) a2)))))))))))
