/-! ways as queries -/
abbrev cl (x : Int32) : Nat := x.toNatClampNeg
theorem okx_cl {x : Int32} {n : Nat} (h : okx x n) : cl x < n ∧ x = nI (cl x) := by
  obtain ⟨k, h1, h2, h3⟩ := okx_is h
  unfold cl
  rw [h3]; exact ⟨h1, h2⟩
theorem c118 {d : Nat} {Q : XQ} {S : XS} {I : XI} {J : XJ} {r : XR} {s f t dr : Int32} {B : Nat → Int32} {W : Nat → Int64} (hL : LAY S r) (c : CR I J 28 B W) (h1 : vo B s f t dr ≠ 0 → Q (some (.int (nI (vo B s f t dr)))) S I J r)
    (h2 : vo B s f t dr = 0 → ∀ I', fr3 19 I I' → (WL B (ope B s) (cl f) (cl t) < 30 → I' 19 1 = nI (WL B (ope B s) (cl f) (cl t) + 1) ∧ ∀ i, i ≤ WL B (ope B s) (cl f) (cl t) → I' 20 i = nI (WY B (ope B s) (cl f) (cl t) i)) → Q (some (.int (nI (if WL B (ope B s) (cl f) (cl t) < 30 then 0 else 8)))) S I' J r) : xcall (d + 5) 118 [.ref 0, .int s, .int f, .int t, .int dr] S I J r Q := by
  have hv := vo_le (B := B) (s := s) (f := f) (t := t) (dr := dr)
  refine E118 hL (c119 hL c (K118_9 hL ?_))
  by_cases h : vo B s f t dr = 0
  · obtain ⟨q1, q2, q3, q4, q5⟩ := vo_0 h
    obtain ⟨p1, p2⟩ := okx_cl q1
    obtain ⟨p3, p4⟩ := okx_cl q2
    have h5 := h2 h
    rw [h]
    refine yes rfl (c122 (lay0_28 hL) c (K118_35 hL ?_))
    generalize cl f = f' at *
    generalize cl t = t' at *
    subst p2 p4
    refine c125 (J' := J) (lay4_19 hL) (lay0_28 hL) (by decide) c (ope_in c.wf) p1 p3 (fun I' g e => ?_)
    have h6 := h5 I' g e
    by_cases q : WL B (ope B s) f' t' < 30
    · rw [if_pos q]
      rw [if_pos q] at h6
      exact K118_40 (no (by decide) h6)
    · rw [if_neg q]
      rw [if_neg q] at h6
      exact K118_40 (yes rfl h6)
  · exact no (fun q => h ((nI_eq (by omega) (by decide)).mp q)) (h1 h)
theorem up_le0 {I : XI} {x : Nat} (hx : x < 100000) : (up2 I 65 0 (nI x) 65 0 ≤ 0) ↔ x = 0 := by
  rw [up_e, show (0 : Int32) = nI 0 from rfl, nI_leI (by omega) (by decide)]; omega
theorem WN_0 {B : Nat → Int32} {o : Int32} {f t : Nat} : (0 ≤ WN B o f t) ↔ WL B o f t < 30 := by
  unfold WN
  split
  · rename_i h
    exact ⟨fun _ => h, fun _ => nI_pos' (by omega)⟩
  · rename_i h
    exact ⟨fun q => absurd q (by decide), fun q => absurd q h⟩
def q138 (B : Nat → Int32) (s f t : Int32) : Nat × Int32 := if vo B s f t (nI 1) ≠ 0 then (vo B s f t (nI 1), -1) else if WL B (ope B s) (cl f) (cl t) < 30 then (0, nI (WL B (ope B s) (cl f) (cl t) + 1)) else (8, -1)
theorem c138 {d : Nat} {Q : XQ} {S : XS} {I : XI} {J : XJ} {r : XR} {s f t : Int32} {B : Nat → Int32} {W : Nat → Int64} (hL : LAY S r) (c : CR I J 28 B W) (hQ : QC Q S I J r (q138 B s f t).1 (q138 B s f t).2) : xcall (d + 6) 138 [.ref 0, .int s, .int f, .int t] S I J r Q := by
  have hv := vo_le (B := B) (s := s) (f := f) (t := t) (dr := nI 1)
  refine E138 hL (c118 hL c (fun h => ?_) (fun h I' g e => ?_))
  · rw [q138, if_pos h] at hQ
    exact K138_8 hL (yes (fun q => h ((nI_eq (by omega) (by decide)).mp q)) (E31 hL (K138_35 (hQ.e (ix.r I)))))
  · rw [q138, if_neg (by rw [h]; decide)] at hQ
    have hi := g.ix (Or.inl rfl)
    by_cases q : WL B (ope B s) (cl f) (cl t) < 30
    · rw [if_pos q] at hQ ⊢
      refine K138_8 hL (nno rfl (E83 hL (K138_26 (K138_35 ?_))))
      rw [(e q).1]
      exact hQ.e hi
    · rw [if_neg q] at hQ ⊢
      exact K138_8 hL (yes (by decide) (E31 hL (K138_35 (hQ.e hi))))
theorem r304 {d : Nat} {Q : XQ} {S : XS} {I : XI} {J : XJ} {r : XR} {s f t : Int32} (hL : LAY S r) (w : WF (I 70)) (hQ : QM Q S I J r (q138 (I 70) s f t).1 (q138 (I 70) s f t).2) : xcall (d + 7) 304 [.ref 65, .int s, .int f, .int t] S I J r Q := by
  have hv := vo_le (B := I 70) (s := s) (f := f) (t := t) (dr := nI 1)
  refine E304 hL (r290 hL w (K304_13 hL ?_))
  rw [show (up2 I 65 1 (nI 0)) 70 = I 70 from rfl]
  have i1 : ix I (up2 I 65 1 (nI 0)) := (ix.r I).u rfl
  by_cases h : vo (I 70) s f t (nI 1) = 0
  · obtain ⟨q1, q2, q3, q4, q5⟩ := vo_0 h
    obtain ⟨p1, p2⟩ := okx_cl q1
    obtain ⟨p3, p4⟩ := okx_cl q2
    rw [q138, if_neg (by rw [h]; decide)] at hQ
    refine yes ((up_le0 (by omega)).mpr h) ?_
    generalize cl f = f' at *
    generalize cl t = t' at *
    subst p2 p4
    rw [h]
    refine r294 hL w p1 p3 (fun I1 g e => K304_32 hL ?_)
    have i2 : ix I I1 := (i1.u rfl).t g.ix
    have g13 : I1 0 13 = I 0 13 := by rw [g 0 (by decide)]; rfl
    have g0 : I1 65 0 = nI 0 := by rw [g 65 (by decide)]; rfl
    by_cases q : WL (I 70) (ope (I 70) s) f' t' < 30
    · rw [if_pos q] at hQ
      refine yes (WN_0.mpr q) ?_
      have e1' : WN (I 70) (ope (I 70) s) f' t' = nI (WL (I 70) (ope (I 70) s) f' t' + 1) := by unfold WN; rw [if_pos q]
      show Q (some (.int (WN (I 70) (ope (I 70) s) f' t'))) S I1 J r
      rw [e1']
      exact hQ I1 i2 g13 g0
    · rw [if_neg q] at hQ
      exact no (fun q2 => q (WN_0.mp q2)) (E261 hL (K304_45 (hQ.e i2 g13)))
  · rw [q138, if_pos h] at hQ
    exact no (fun q => h ((up_le0 (by omega)).mp q)) (hQ.e i1 rfl)
def q139 (B : Nat → Int32) (s f t k : Int32) : Nat × Int32 := if vo B s f t (nI 1) ≠ 0 then (vo B s f t (nI 1), -1) else if WL B (ope B s) (cl f) (cl t) < 30 ∧ okx k (WL B (ope B s) (cl f) (cl t) + 1) then (0, nI (WY B (ope B s) (cl f) (cl t) (cl k))) else (8, -1)
theorem c139 {d : Nat} {Q : XQ} {S : XS} {I : XI} {J : XJ} {r : XR} {s f t k : Int32} {B : Nat → Int32} {W : Nat → Int64} (hL : LAY S r) (c : CR I J 28 B W) (hQ : QC Q S I J r (q139 B s f t k).1 (q139 B s f t k).2) : xcall (d + 6) 139 [.ref 0, .int s, .int f, .int t, .int k] S I J r Q := by
  have hv := vo_le (B := B) (s := s) (f := f) (t := t) (dr := nI 1)
  refine E139 hL (c118 hL c (fun h => ?_) (fun h I' g e => ?_))
  · rw [q139, if_pos h] at hQ
    exact K139_8 hL (no (fun q => h ((nI_eq (by omega) (by decide)).mp q)) (E31 hL (K139_21 (hQ.e (ix.r I)))))
  · rw [q139, if_neg (by rw [h]; decide)] at hQ
    have hi := g.ix (Or.inl rfl)
    by_cases q : WL B (ope B s) (cl f) (cl t) < 30
    · rw [if_pos q]
      refine K139_8 hL (yes rfl ?_)
      rw [(e q).1, pk_sub (by omega), Nat.add_sub_cancel]
      refine c101 (fun q1 q2 => ?_) (fun q1 => ?_)
      · rw [i_toI (by decide)] at q1
        rw [i_toI (by omega)] at q2
        have hk : okx k (WL B (ope B s) (cl f) (cl t) + 1) := ⟨by omega, by omega⟩
        rw [if_pos ⟨q, hk⟩] at hQ
        obtain ⟨p1, p2⟩ := okx_cl hk
        generalize cl k = k' at *
        subst p2
        refine K139_37 hL (no (by decide) ⟨vp_in_nI (by omega) (by decide), ?_⟩)
        rw [nI_clamp (by omega), (e q).2 k' (by omega)]
        exact E83 hL (K139_54 (K139_63 (hQ.e hi)))
      · rw [if_neg (fun q2 => q1 (by
          rw [i_toI (by decide), i_toI (by omega)]
          have := q2.2.1; have := q2.2.2; omega))] at hQ
        exact K139_37 hL (yes rfl (E31 hL (K139_63 (hQ.e hi))))
    · rw [if_neg (fun q2 => q q2.1)] at hQ
      rw [if_neg q]
      exact K139_8 hL (no (by decide) (E31 hL (K139_21 (hQ.e hi))))
theorem k305 {d : Nat} {Q : XQ} {S : XS} {I : XI} {J : XJ} {r : XR} {cu su f t k : Nat} {o : Int32} {w1 w3 : Value} (hL : LAY S r) (w : WF (I 70)) (ho : ∀ i, i < 32 → bt o i = true → i < ce (I 70)) (hf : f < ce (I 70)) (hW : WL (I 70) o f t < 30) (hk : k ≤ WL (I 70) o f t) (hF : FR I (FVB (I 70) o t (ce (I 70) - 1))) {x2 : Int32}
    (hQ : Q (some (.int (nI (WY (I 70) o f t k)))) S I J r) :
    ∀ j i, i + j = k → xrun z0 (xcall (d + 3)) Q 305 58 [.ref 65, w1, .int x2, w3, .int (nI k), .int (nI (WY (I 70) o f t i)), .int (nI i)] [] S I J r cu su := by
  intro j
  have hN := ce_le w
  have hlt := WL_lt w ho hf hW
  induction j with
  | zero =>
    intro i hi
    have : i = k := by omega
    subst this
    exact K305_58 hL (yes (Int32.le_refl _) hQ)
  | succ j ih =>
    intro i hi
    have hy := WY_ok w hf hW (i := i) (by omega)
    have e4 : WL (I 70) o f t - i = (WL (I 70) o f t - 1 - i) + 1 := by omega
    rw [e4] at hy
    refine K305_58 hL (no (by rw [nI_leI (by omega) (by omega)]; omega) (r301 (o := o) (t := t) (d' := WL (I 70) o f t - 1 - i) hL w hy.1 hF (by omega) hy.2 (K305_71 ?_)))
    rw [nI_add]
    exact ih (i + 1) (by omega)
theorem r305 {d : Nat} {Q : XQ} {S : XS} {I : XI} {J : XJ} {r : XR} {s f t k : Int32} (hL : LAY S r) (w : WF (I 70)) (hQ : QM Q S I J r (q139 (I 70) s f t k).1 (q139 (I 70) s f t k).2) : xcall (d + 7) 305 [.ref 65, .int s, .int f, .int t, .int k] S I J r Q := by
  have hv := vo_le (B := I 70) (s := s) (f := f) (t := t) (dr := nI 1)
  refine E305 hL (r290 hL w (K305_13 hL ?_))
  rw [show (up2 I 65 1 (nI 0)) 70 = I 70 from rfl]
  have i1 : ix I (up2 I 65 1 (nI 0)) := (ix.r I).u rfl
  by_cases h : vo (I 70) s f t (nI 1) = 0
  · obtain ⟨q1, q2, q3, q4, q5⟩ := vo_0 h
    obtain ⟨p1, p2⟩ := okx_cl q1
    obtain ⟨p3, p4⟩ := okx_cl q2
    rw [q139, if_neg (by rw [h]; decide)] at hQ
    refine yes ((up_le0 (by omega)).mpr h) ?_
    generalize cl f = f' at *
    generalize cl t = t' at *
    subst p2 p4
    rw [h]
    refine r294 hL w p1 p3 (fun I1 g e => K305_36 ?_)
    show xcall _ 221 [_, _, .long (WN (I 70) (ope (I 70) s) f' t' - nI 1).toInt64] _ _ _ _ _
    have i2 : ix I I1 := (i1.u rfl).t g.ix
    have g13 : I1 0 13 = I 0 13 := by rw [g 0 (by decide)]; rfl
    have g0 : I1 65 0 = nI 0 := by rw [g 65 (by decide)]; rfl
    have g70 : I1 70 = I 70 := g 70 (by decide)
    have hW : WL (I 70) (ope (I 70) s) f' t' < 30 → WN (I 70) (ope (I 70) s) f' t' - nI 1 = nI (WL (I 70) (ope (I 70) s) f' t') := fun q => by
      unfold WN; rw [if_pos q, pk_sub (by omega), Nat.add_sub_cancel]
    refine c221 (fun q1 q2 => ?_) (fun q1 => ?_)
    · rw [i_l, i_lN (by decide)] at q1
      rw [i_l, i_l] at q2
      have hq : WL (I 70) (ope (I 70) s) f' t' < 30 := by
        rcases Nat.lt_or_ge (WL (I 70) (ope (I 70) s) f' t') 30 with q | q
        · exact q
        · unfold WN at q2
          rw [if_neg (by omega)] at q2
          have : ((-1 : Int32) - nI 1).toInt = -2 := rfl
          omega
      rw [hW hq, i_toI (by omega)] at q2
      have hk : okx k (WL (I 70) (ope (I 70) s) f' t' + 1) := ⟨by omega, by omega⟩
      rw [if_pos ⟨hq, hk⟩] at hQ
      obtain ⟨p5, p6⟩ := okx_cl hk
      generalize cl k = k' at *
      subst p6
      refine K305_42 hL (yes (by decide) ?_)
      have := k305 (d := d + 3) (cu := 0) (su := 0) (w1 := .int s) (w3 := .int (nI t')) (x2 := nI f') (J := J) (Q := Q) (k := k') (f := f') (t := t') (o := ope (I1 70) s) (I := I1) hL (by rw [g70]; exact w) (ope_in (by rw [g70]; exact w)) (by rw [g70]; exact p1) (by rw [g70]; exact hq) (by rw [g70]; omega) (by rw [g70]; exact e hq) (by rw [g70]; exact hQ I1 i2 g13 g0) k' 0 (by omega)
      exact this
    · rw [if_neg (fun q2 => q1 (by
        rw [i_l, i_l, i_lN (by decide), hW q2.1, i_toI (by omega)]
        have := q2.2.1; have := q2.2.2; omega))] at hQ
      exact K305_42 hL (nno rfl (E261 hL (K305_51 (hQ.e i2 g13))))
  · rw [q139, if_pos h] at hQ
    exact no (fun q => h ((up_le0 (by omega)).mp q)) (hQ.e i1 rfl)
/-- where it strikes -/
abbrev ST1 (B : Nat → Int32) (s : Int32) (f t dr : Nat) : Int32 := STR B dr (WY B (ope B s) f t) (WL B (ope B s) f t)
def q140 (B : Nat → Int32) (s f t dr : Int32) : Nat × Int32 := if vo B s f t dr ≠ 0 then (vo B s f t dr, -1) else if WL B (ope B s) (cl f) (cl t) < 30 ∧ ST1 B s (cl f) (cl t) (cl dr) ≠ -1 then (0, ST1 B s (cl f) (cl t) (cl dr)) else (8, -1)
theorem dr_cl {dr : Int32} (h1 : 1 ≤ dr.toInt) (h2 : dr.toInt ≤ 10) : cl dr ≤ 10 ∧ 1 ≤ cl dr ∧ dr = nI (cl dr) := by
  have h : okx dr 11 := ⟨by omega, by omega⟩
  obtain ⟨p1, p2⟩ := okx_cl h
  refine ⟨by omega, ?_, p2⟩
  rcases Nat.eq_zero_or_pos (cl dr) with q | q
  · rw [q] at p2; rw [p2] at h1; exact absurd h1 (by decide)
  · exact q
theorem WY_32 {B : Nat → Int32} {o : Int32} {f t : Nat} (hB : WF B) (hf : f < ce B) (h : WL B o f t < 30) : ∀ i, i ≤ WL B o f t → WY B o f t i < 32 := fun i hi => by
  have := (WY_ok hB hf h hi).1
  have := ce_le hB
  omega
theorem c140 {d : Nat} {Q : XQ} {S : XS} {I : XI} {J : XJ} {r : XR} {s f t dr : Int32} {B : Nat → Int32} {W : Nat → Int64} (hL : LAY S r) (c : CR I J 28 B W) (hQ : QC Q S I J r (q140 B s f t dr).1 (q140 B s f t dr).2) : xcall (d + 6) 140 [.ref 0, .int s, .int f, .int t, .int dr] S I J r Q := by
  have hv := vo_le (B := B) (s := s) (f := f) (t := t) (dr := dr)
  refine E140 hL (c118 hL c (fun h => ?_) (fun h I' g e => ?_))
  · rw [q140, if_pos h] at hQ
    exact K140_9 hL (no (fun q => h ((nI_eq (by omega) (by decide)).mp q)) (E31 hL (K140_22 (hQ.e (ix.r I)))))
  · rw [q140, if_neg (by rw [h]; decide)] at hQ
    obtain ⟨q1, q2, q3, q4, q5⟩ := vo_0 h
    obtain ⟨p1, p2, p3⟩ := dr_cl q4 q5
    have hf := (okx_cl q1).1
    have hi := g.ix (Or.inl rfl)
    by_cases q : WL B (ope B s) (cl f) (cl t) < 30
    · rw [if_pos q]
      generalize cl dr = dr' at *
      subst p3
      refine K140_9 hL (yes rfl (c132 (lay4_19 hL) (lay0_28 hL) (hi.cr c) p1 q (WY_32 c.wf hf q) (e q).1 (e q).2 (K140_36 hL ?_)))
      by_cases q6 : ST1 B s (cl f) (cl t) dr' = -1
      · rw [if_neg (fun q7 => q7.2 q6)] at hQ
        exact nno q6 (E31 hL (K140_50 (K140_59 (hQ.e hi))))
      · rw [if_pos ⟨q, q6⟩] at hQ
        dsimp only at hQ
        exact yes q6 (E83 hL (K140_59 (hQ.e hi)))
    · rw [if_neg (fun q2 => q q2.1)] at hQ
      rw [if_neg q]
      exact K140_9 hL (no (by decide) (E31 hL (K140_22 (hQ.e hi))))
theorem STR_0 {B : Nat → Int32} {dr m : Nat} {g : Nat → Nat} (hg : ∀ i, i ≤ m → g i < 32) : (0 ≤ STR B dr g m) ↔ STR B dr g m ≠ -1 := by
  unfold STR
  split
  · rename_i h
    have := hg _ (by omega : lst (fun i => bt (shal B dr) (g i)) (m + 1) ≤ m)
    exact ⟨fun _ => nI_m1 (by omega), fun _ => nI_pos' (by omega)⟩
  · exact ⟨fun q => absurd q (by decide), fun q => absurd rfl q⟩
theorem r306 {d : Nat} {Q : XQ} {S : XS} {I : XI} {J : XJ} {r : XR} {s f t dr : Int32} (hL : LAY S r) (w : WF (I 70)) (hQ : QM Q S I J r (q140 (I 70) s f t dr).1 (q140 (I 70) s f t dr).2) : xcall (d + 7) 306 [.ref 65, .int s, .int f, .int t, .int dr] S I J r Q := by
  have hv := vo_le (B := I 70) (s := s) (f := f) (t := t) (dr := dr)
  refine E306 hL (r289 hL w (K306_15 hL ?_))
  rw [show (up2 I 65 1 (nI 0)) 70 = I 70 from rfl]
  have i1 : ix I (up2 I 65 1 (nI 0)) := (ix.r I).u rfl
  by_cases h : vo (I 70) s f t dr = 0
  · obtain ⟨q1, q2, q3, q4, q5⟩ := vo_0 h
    obtain ⟨p1, p2⟩ := okx_cl q1
    obtain ⟨p3, p4⟩ := okx_cl q2
    obtain ⟨p5, p6, p7⟩ := dr_cl q4 q5
    rw [q140, if_neg (by rw [h]; decide)] at hQ
    refine yes ((up_le0 (by omega)).mpr h) ?_
    generalize cl f = f' at *
    generalize cl t = t' at *
    generalize cl dr = dr' at *
    subst p2 p4 p7
    rw [h]
    refine r294 hL w p1 p3 (fun I1 g e => K306_34 hL ?_)
    have i2 : ix I I1 := (i1.u rfl).t g.ix
    have g13 : I1 0 13 = I 0 13 := by rw [g 0 (by decide)]; rfl
    have g0 : I1 65 0 = nI 0 := by rw [g 65 (by decide)]; rfl
    have g70 : I1 70 = I 70 := g 70 (by decide)
    by_cases q : WL (I 70) (ope (I 70) s) f' t' < 30
    · refine yes (WN_0.mpr q) ?_
      have h9 := STR_0 (B := I 70) (dr := dr') (WY_32 w p1 q)
      refine r299 (o := ope (I1 70) s) (t := t') hL (by rw [g70]; exact w) (ope_in (by rw [g70]; exact w)) (by rw [g70]; exact p1) (by rw [g70]; exact q) (by rw [g70]; exact e q) p5 ?_
      rw [g70]
      by_cases q6 : ST1 (I 70) s f' t' dr' = -1
      · rw [if_neg (fun q7 => q7.2 q6)] at hQ
        exact K306_48 hL (no (fun q8 => h9.mp q8 q6) (E261 hL (K306_61 (hQ.e i2 g13))))
      · rw [if_pos ⟨q, q6⟩] at hQ
        dsimp only at hQ
        exact K306_48 hL (yes (h9.mpr q6) (hQ I1 i2 g13 g0))
    · rw [if_neg (fun q7 => q q7.1)] at hQ
      exact no (fun q2 => q (WN_0.mp q2)) (K306_48 hL (no (by decide) (E261 hL (K306_61 (hQ.e i2 g13)))))
  · rw [q140, if_pos h] at hQ
    exact no (fun q => h ((up_le0 (by omega)).mp q)) (hQ.e i1 rfl)
