def SN (I : XI) (J : XJ) (n : Nat) (F : Nat → Int32) (s k : Nat) (B : Nat → Int32) (W : Nat → Int64) (t1 t2 : Bool) : Prop := RM I J n F s ∧ GM I ∧ (∀ i, i < 345 → I 70 (1380 + i) = ub B 3 (nI k) i) ∧ (∀ q, q < k + 1 → J 72 (24 + q) = W q) ∧ I 65 24 = b01 t1 ∧ I 65 25 = b01 t2
theorem SN.a {I I' : XI} {J J' : XJ} {n s s' k : Nat} {F B : Nat → Int32} {W : Nat → Int64} {t1 t2 : Bool} (h : SN I J n F s k B W t1 t2) (m : mk I I') (j : jk 65 19 J J') (d : RM I' J' n F s') : SN I' J' n F s' k B W t1 t2 :=
  ⟨d, h.2.1.k m, fun i hi => (m 70 _ (by omega)).trans (h.2.2.1 i hi), fun q hq => (j 72 _ (by omega)).trans (h.2.2.2.1 q hq), (m 65 24 (by omega)).trans h.2.2.2.2.1, (m 65 25 (by omega)).trans h.2.2.2.2.2⟩
theorem SN.w {I : XI} {J : XJ} {n s i k : Nat} {v : Int32} {F B : Nat → Int32} {W : Nat → Int64} {t1 t2 : Bool} (h : SN I J n F s k B W t1 t2) (hi : i < 345) (h3 : i ≠ 3) : SN (up2 I 70 (1380 + i) v) J n F s k (ub B i v) W t1 t2 :=
  ⟨h.1.u, by unfold GM; rw [up_o (by decide)]; exact h.2.1, fun j hj => by
    by_cases e : j = i
    · subst e; rw [up_e, ub_o h3, ub_e]
    · rw [up_i (by omega), h.2.2.1 j hj]
      by_cases e3 : j = 3
      · subst e3; rw [ub_e, ub_e]
      · rw [ub_o e3, ub_o e3, ub_o e], h.2.2.2.1, by rw [up_o (by decide)]; exact h.2.2.2.2.1, by rw [up_o (by decide)]; exact h.2.2.2.2.2⟩
def RN (Q : XQ) (S : XS) (I : XI) (J : XJ) (r : XR) (n : Nat) (F : Nat → Int32) (k : Nat) (t1 t2 : Bool) : CO → Prop
  | .error e => ∀ I' J', kmf I I' → kmj J J' → bd I' e.1 e.2 → Q none S I' J' r
  | .ok o => ∀ I' J', kmf I I' → kmj J J' → SN I' J' n F o.1 k o.2.1 o.2.2 t1 t2 → Q none S I' J' r
theorem RN.x {Q : XQ} {S : XS} {I I1 : XI} {J J1 : XJ} {r : XR} {n k : Nat} {F : Nat → Int32} {t1 t2 : Bool} {o : CO} (h : RN Q S I J r n F k t1 t2 o) (m : kmf I I1) (j : kmj J J1) : RN Q S I1 J1 r n F k t1 t2 o := by
  cases o with
  | error e => exact fun I' J' f1 f2 => h I' J' (m.t f1) (j.t f2)
  | ok o => exact fun I' J' f1 f2 => h I' J' (m.t f1) (j.t f2)
theorem r248b {d : Nat} {Q : XQ} {S : XS} {I : XI} {J : XJ} {r : XR} {k c w3 : Nat} {x2 x4 : Int32} {cu su : Nat} (hL : LAY S r) (hk : k < 6) (g : BM I) (hQ : ∀ v, Q none S (up2 I 70 (1447 + k) v) J r) : xrun z0 (xcall (d + 1)) Q 248 120 [.ref 65, .int (nI k), .int x2, .int (nI w3), .int x4] [] S I J r cu su := by
  refine K248_120 hL (r222b hL g (K248_132 (K248_4 hL (yes g.ne ?_))))
  rw [nI_add, nI_clamp (by omega)]
  exact ⟨vp_in_nI (by omega) (by decide), hQ _⟩
theorem r250 {d : Nat} {Q : XQ} {S : XS} {I : XI} {J : XJ} {r : XR} {x : Int32} {c : Nat} (hc : c < 32) (hT : bt x c = true → Q (some (.int (nI 1))) S I J r) (hF : bt x c = false → Q (some (.int (nI 0))) S I J r) : xcall (d + 1) 250 [.int x, .int (nI c)] S I J r Q := by
  refine E250 ?_
  rw [bt_down hc]
  cases e : bt x c
  · exact yes (by decide) (hF e)
  · exact nno rfl (hT e)
theorem k248 {d : Nat} {Q : XQ} {S : XS} {r : XR} {n k : Nat} {F B : Nat → Int32} {W : Nat → Int64} {t1 t2 : Bool} (hL : LAY S r) (hn : n ≤ 900) (w : WF B) (hk : k < bn B 3) : ∀ (j i s cu su : Nat) (st : Int32) (I : XI) (J : XJ) (w4 : Value), i + j = 7 → i ≤ 6 → ctN st 30 = i → s ≤ n → SN I J n F s k B W t1 t2 → RN Q S I J r n F k t1 t2 (pInkL F n k W j s (ub B (67 + k) st)) → xrun z0 (xcall (d + 3)) Q 248 4 [.ref 65, .int (nI k), .int st, .int (nI i), w4] [] S I J r cu su := by
  intro j
  have hb3 := w.c.2
  have hce := ce_le w
  have ece1 : ∀ v, ce (ub B (67 + k) v) = ce B := fun v => ce_cg (fun j hj => ub_o (by omega))
  have ein : ∀ v c, inP (ub B (67 + k) v) k c = inP B k c := fun v c => inP_cg (ub_o (by omega)) (ub_o (by omega)) (ub_o (by omega)) (ub_o (by omega))
  induction j with
  | zero => intro i s cu su st I J w4 hi h6; omega
  | succ j ih =>
    intro i s cu su st I J w4 hi h6 hct hs h hQ
    rw [pInkL, ece1, ein, ub_e] at hQ
    refine K248_4 hL (nno h.2.1 ?_)
    rw [h.1.2.2.2.1, nI_eqI (by have := kd_le (F := F) (n := n) (s := s); omega) (by decide)]
    by_cases q1 : kd F n s = 2
    case neg =>
      rw [if_neg q1] at hQ
      refine yes q1 ?_
      rw [nI_add, nI_clamp (by omega)]
      refine ⟨vp_in_nI (by omega) (by decide), ?_⟩
      have h2 := h.w (i := 67 + k) (v := st) (by omega) (by omega)
      rw [show 1447 + k = 1380 + (67 + k) by omega]
      exact hQ _ _ ((kmf.r I).u (by omega)) (kmj.r J) h2
    rw [if_pos q1] at hQ
    have hnm := nm_lt q1
    have e0 : I 70 1380 = nI (bn B 0) := (h.2.2.1 0 (by decide)).trans w.w.1
    have e1 : I 70 1381 = nI (bn B 1) := (h.2.2.1 1 (by decide)).trans w.h.1
    have ene : (I 70 1380) * (I 70 1381) - nI 1 = nI (ce B - 1) := by
      unfold ce at *
      rw [e0, e1, pk_mul, pk_sub (by omega)]
    have badQ : ∀ kk, 0 < kk → kk < 100 → RN Q S I J r n F k t1 t2 (.error (kk, s)) → ∀ v, Q none S (up2 (fm I kk s) 70 (1447 + k) v) J r := fun kk _ _ hQ v => hQ _ _ ((kmf.r I).fm.u (by omega)) (kmj.r J) fm_d.u
    refine nno q1 ?_
    rw [ene]
    refine r219 (d := d) hL h.1 h.2.1 (by decide) (by omega) (fun e => K248_43 hL (nno h.2.1 ?_)) (fun e => ?_)
    case refine_2 =>
      have b := fm_b (I := I) (s := s) (sN_p e) sN_le
      refine K248_43 hL (yes b.ne (K248_72 hL (yes b.ne (K248_97 hL (yes b.ne (r248b (c := 0) (d := d + 2) hL (by omega) b (badQ _ (sN_p e) sN_le ?_)))))))
      have e4 : sN F n s 0 (ce B - 1) = 4 := by
        unfold sN at e ⊢
        rw [if_pos q1] at e ⊢
        split
        · rename_i h; rw [if_pos h] at e; exact absurd rfl e
        · rfl
      have hnc : ¬ (nm F n s < ce B ∧ inP B k (nm F n s) = true) := fun h => by
        apply e
        unfold sN
        rw [if_pos q1, if_pos ⟨Nat.zero_le _, by omega⟩]
      rw [if_neg hnc] at hQ
      rw [e4]
      exact hQ
    have hc := (sN_0 e).2.2
    generalize hcx : nm F n s = c at *
    have g37 := w.at' hk
    have g43 := w.br hk
    have g49 := w.tl hk
    have hw := w.w
    have hh := w.h
    have o3 : ∀ i, i ≠ 3 → ub B 3 (nI k) i = B i := fun i hi => ub_o hi
    have bo : ∀ i, i ≠ 3 → bn (ub B 3 (nI k)) i = bn B i := fun i hi => by unfold bn; rw [ub_o hi]
    have einp : inP (ub B 3 (nI k)) k c = inP B k c := inP_cg (ub_o (by omega)) (ub_o (by omega)) (ub_o (by omega)) (ub_o (by omega))
    refine r249 (d := d + 1) (b := 4) (B := ub B 3 (nI k)) hL (by decide) h.2.2.1 (by rw [bo 0 (by decide), o3 0 (by decide)]; exact ⟨hw.2.1, hw.2.2, hw.1⟩) (by omega) (by rw [bo _ (by omega), o3 _ (by omega)]; exact ⟨g37.1, by omega⟩) (by rw [bo _ (by omega), o3 _ (by omega)]; exact ⟨g43.1, by have := g43.2.2; omega⟩) (by rw [bo _ (by omega), o3 _ (by omega)]; exact ⟨g49.1, Nat.lt_of_le_of_lt (Nat.le_trans (w.pw hk).2.2.1.2.2 (Nat.sub_le _ _)) (by omega)⟩) (by omega) (fun ei => K248_60 hL (yes (by decide) ?_)) (fun ei => K248_60 hL (nno rfl ?_))
    case refine_2 =>
      rw [einp] at ei
      rw [if_neg (fun h => by rw [ei] at h; cases h.2)] at hQ
      have b := fm_b (I := I) (s := s) (k := 4) (by decide) (by decide)
      rw [h.1.2.1]
      exact r217 (d := d + 2) hL h.2.1 (K248_72 hL (yes b.ne (K248_97 hL (yes b.ne (r248b (c := 0) (d := d + 2) hL (by omega) b (badQ _ (by decide) (by decide) hQ))))))
    rw [einp] at ei
    rw [if_pos ⟨by omega, ei⟩] at hQ
    refine K248_72 hL (nno h.2.1 (r250 (by omega) (fun eb => K248_85 hL (no (by decide) ?_)) (fun eb => K248_85 hL (yes rfl (K248_97 hL (nno h.2.1 ?_))))))
    · rw [if_pos eb] at hQ
      have b := fm_b (I := I) (s := s) (k := 5) (by decide) (by decide)
      rw [h.1.2.1]
      exact r217 (d := d + 2) hL h.2.1 (K248_97 hL (yes b.ne (r248b (c := 0) (d := d + 2) hL (by omega) b (badQ _ (by decide) (by decide) hQ))))
    rw [if_neg (by rw [eb]; decide), hct] at hQ
    rw [nI_eqI (by omega) (by decide)]
    by_cases q6 : i = 6
    · rw [if_pos q6] at hQ
      have b := fm_b (I := I) (s := s) (k := 6) (by decide) (by decide)
      rw [h.1.2.1]
      exact nno q6 (r217 (d := d + 2) hL h.2.1 (r248b (c := 0) (d := d + 2) hL (by omega) b (badQ _ (by decide) (by decide) hQ)))
    rw [if_neg q6] at hQ
    refine yes q6 (K248_120 hL (r222t (d := d) hL hn hs h.1 h.2.1 (fun I1 J1 f1 f2 f3 => K248_132 ?_)))
    rw [nI_add]
    refine ih (i + 1) _ _ _ _ _ _ _ (by omega) (by omega) ?_ (nxt_le hs).2.1 (h.a f1 f2 f3) ?_
    · rw [ct_or1 eb (by omega) 30 (by decide), if_pos (by omega), hct]
    · have e2 : ub (ub B (67 + k) st) (67 + k) (st ||| bi c) = ub B (67 + k) (st ||| bi c) := funext fun x => by
        by_cases e : x = 67 + k
        · rw [e, ub_e, ub_e]
        · rw [ub_o e, ub_o e, ub_o e]
      rw [e2] at hQ
      exact hQ.x f1.f f2.mj
