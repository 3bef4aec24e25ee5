/-! a rock more, a cousin more -/
theorem up_row {α : Type} {f g : Nat → Nat → α} {a i : Nat} {v : α} (h : f a = g a) : up2 f a i v a = up2 g a i v a := by
  funext x
  unfold up2
  rw [if_pos rfl, if_pos rfl, h]
def rkB (B : Nat → Int32) (c dp : Int32) : Nat → Int32 := ub (ub (ub B (7 + bn B 2) c) (22 + bn B 2) dp) 2 (nI (bn B 2 + 1))
theorem rkB_2 {B : Nat → Int32} {c dp : Int32} (h : bn B 2 ≤ 15) : bn (rkB B c dp) 2 = bn B 2 + 1 := by
  unfold rkB
  rw [bn_e]
  exact nI_clamp (by omega)
theorem rkB_o {B : Nat → Int32} {c dp : Int32} {j : Nat} (h2 : j ≠ 2) (h3 : j ≠ 7 + bn B 2) (h4 : j ≠ 22 + bn B 2) : rkB B c dp j = B j := by
  unfold rkB
  rw [ub_o h2, ub_o h4, ub_o h3]
theorem rkB_c {B : Nat → Int32} {c dp : Int32} (h : bn B 2 ≤ 15) : rkB B c dp (7 + bn B 2) = c := by
  unfold rkB
  rw [ub_o (by omega), ub_o (by omega), ub_e]
theorem rkB_d {B : Nat → Int32} {c dp : Int32} : rkB B c dp (22 + bn B 2) = dp := by
  unfold rkB
  rw [ub_o (by omega), ub_e]
theorem WF.rk {B : Nat → Int32} (h : WF B) {c dp : Nat} (h15 : bn B 2 < 15) (hc : c < ce B) (hd : dp ≤ 9) (hn : ∀ q, q < bn B 2 → bn B (7 + q) ≠ c) : WF (rkB B (nI c) (nI dp)) := by
  have hN := ce_le h
  have h3 := h.c.2
  have e2 := rkB_2 (B := B) (c := nI c) (dp := nI dp) (by omega)
  have o : ∀ j, j ≠ 2 → j ≠ 7 + bn B 2 → j ≠ 22 + bn B 2 → rkB B (nI c) (nI dp) j = B j := fun j => rkB_o
  have e0 := o 0 (by decide) (by omega) (by omega)
  have e1 := o 1 (by decide) (by omega) (by omega)
  have e3 := o 3 (by decide) (by omega) (by omega)
  have ec : ce (rkB B (nI c) (nI dp)) = ce B := by unfold ce; rw [bn_c e0, bn_c e1]
  have ew : bn (rkB B (nI c) (nI dp)) (7 + bn B 2) = c := by unfold bn; rw [show 7 + (B 2).toNatClampNeg = 7 + bn B 2 from rfl, rkB_c (by omega)]; exact nI_clamp (by omega)
  have eo : ∀ q, q < bn B 2 → rkB B (nI c) (nI dp) (7 + q) = B (7 + q) ∧ rkB B (nI c) (nI dp) (22 + q) = B (22 + q) := fun q hq => ⟨o _ (by omega) (by omega) (by omega), o _ (by omega) (by omega) (by omega)⟩
  obtain ⟨a0, a1, a2, a3, a4, a5, a6, a7⟩ := h
  refine ⟨by rw [e0]; exact a0, by rw [e1]; exact a1, ?_, by rw [e3]; exact a3, by rw [o 4 (by decide) (by omega) (by omega)]; exact a4, fun q hq => ?_, fun q s h1 h2 => ?_, fun k hk => ?_⟩
  · have : rkB B (nI c) (nI dp) 2 = nI (bn B 2 + 1) := by unfold rkB; rw [ub_e]
    rw [this]; exact rg_nI (by omega) (by omega) (by decide)
  · rw [e2] at hq
    rw [ec]
    rcases Nat.lt_or_ge q (bn B 2) with p | p
    · rw [(eo q p).1, (eo q p).2]; exact a5 q p
    · have : q = bn B 2 := by omega
      subst this
      rw [rkB_c (by omega), rkB_d]
      exact ⟨rg_nI (by omega) (by omega) (by omega), rg_nI (by omega) hd (by decide)⟩
  · rw [e2] at h2
    rcases Nat.lt_or_ge s (bn B 2) with p | p
    · rw [bn_c (eo q (by omega)).1, bn_c (eo s p).1]; exact a6 q s h1 p
    · have : s = bn B 2 := by omega
      subst this
      rw [ew, bn_c (eo q (by omega)).1]
      exact hn q (by omega)
  · rw [bn_c e3] at hk
    have f : ∀ j, 37 ≤ j → j < 73 → rkB B (nI c) (nI dp) j = B j := fun j q1 q2 => o j (by omega) (by omega) (by omega)
    obtain ⟨p1, p2, p3, p4, p5, p6, p7⟩ := a7 k hk
    have f1 := f (37 + k) (by omega) (by omega)
    have f2 := f (43 + k) (by omega) (by omega)
    have f3 := f (49 + k) (by omega) (by omega)
    refine ⟨by rw [f1, ec]; exact p1, by rw [f2, bn_c e0, bn_c f1]; exact p2, by rw [f3, bn_c e0, bn_c e1, bn_c f1]; exact p3, by rw [f _ (by omega) (by omega)]; exact p4, by rw [f _ (by omega) (by omega)]; exact p5, fun x hx hb => ?_, by rw [f _ (by omega) (by omega)]; exact p7⟩
    rw [f (67 + k) (by omega) (by omega)] at hb
    rw [inP_cg e0 f1 f2 f3]
    exact p6 x hx hb
theorem shal_rk {B : Nat → Int32} {c dp t : Nat} (h15 : bn B 2 < 15) (hc : c < 32) (hd : dp ≤ 9) : shal (rkB B (nI c) (nI dp)) t = shal B t ||| (if dp < t then bi c else 0) := by
  unfold shal
  rw [rkB_2 (by omega), orN]
  have e1 : bn (rkB B (nI c) (nI dp)) (22 + bn B 2) = dp := by unfold bn; rw [show 22 + (B 2).toNatClampNeg = 22 + bn B 2 from rfl, rkB_d]; exact nI_clamp (by omega)
  have e2 : bn (rkB B (nI c) (nI dp)) (7 + bn B 2) = c := by unfold bn; rw [show 7 + (B 2).toNatClampNeg = 7 + bn B 2 from rfl, rkB_c (by omega)]; exact nI_clamp (by omega)
  rw [e1, e2]
  congr 1
  exact orN_congr (fun q hq => by
    rw [bn_c (rkB_o (c := nI c) (dp := nI dp) (j := 22 + q) (by omega) (by omega) (by omega)), bn_c (rkB_o (c := nI c) (dp := nI dp) (j := 7 + q) (by omega) (by omega) (by omega))])
/-- the class's rows of shallow ones, filled to j -/
theorem k61 {d : Nat} {Q : XQ} {S : XS} {I : XI} {J : XJ} {r : XR} {cu su a c dp : Nat} {B : Nat → Int32} {w2 : Value} (h0 : LY0 S r a) (hc : c < 32)
    (hQ : ∀ I', (∀ q, q ≠ a + 3 → I' q = I q) → (∀ t, t < 11 → I' (a + 3) t = if dp < t then I (a + 3) t ||| bi c else I (a + 3) t) → Q none S I' J r) :
    ∀ j i I1 w2, i + j = 11 → dp < i → (∀ q, q ≠ a + 3 → I1 q = I q) → (∀ t, t < 11 → I1 (a + 3) t = if dp < t ∧ t < i then I (a + 3) t ||| bi c else I (a + 3) t) → xrun z0 (xcall d) Q 61 48 [.ref a, .int (nI c), w2, .int (nI i)] [] S I1 J r cu su
  | 0, i, I1, w2, hi, hd, g, e => by
    have e1 : i = 11 := by omega
    subst e1
    refine K61_48 h0 (yes (Int32.le_refl _) (hQ I1 g (fun t ht => ?_)))
    rw [e t ht]
    by_cases q : dp < t
    · rw [if_pos ⟨q, ht⟩, if_pos q]
    · rw [if_neg (fun h => q h.1), if_neg q]
  | j + 1, i, I1, w2, hi, hd, g, e => by
    refine K61_48 h0 (no (by rw [nI_leI (by omega) (by omega)]; omega) ⟨vp_in_nI (by omega) (by decide), vp_in_nI (by omega) (by decide), ?_⟩)
    rw [nI_clamp (by omega), nI_add]
    refine k61 (B := B) (w2 := w2) h0 hc hQ j (i + 1) _ _ (by omega) (by omega) (fun q hq => by rw [up_o hq]; exact g q hq) (fun t ht => ?_)
    by_cases q : t = i
    · subst q
      rw [up_e, e t ht, if_neg (fun h => by omega), if_pos ⟨hd, by omega⟩]
    · rw [up_i q, e t ht]
      by_cases q2 : dp < t ∧ t < i
      · rw [if_pos q2, if_pos ⟨q2.1, by omega⟩]
      · rw [if_neg q2, if_neg (fun h => q2 ⟨h.1, by omega⟩)]
theorem c61 {d : Nat} {Q : XQ} {S : XS} {I : XI} {J : XJ} {r : XR} {a c dp : Nat} {B : Nat → Int32} {W : Nat → Int64} (h0 : LY0 S r a) (cr : CR I J a B W) (h15 : bn B 2 < 15) (hc : c < ce B) (hd : dp ≤ 9) (hn : ∀ q, q < bn B 2 → bn B (7 + q) ≠ c) (hQ : ∀ I', frc a I I' → CR I' J a (rkB B (nI c) (nI dp)) W → Q none S I' J r) : xcall (d + 1) 61 [.ref a, .int (nI c), .int (nI dp)] S I J r Q := by
  have hN := ce_le cr.wf
  have h3 := cr.wf.c.2
  have w' := cr.wf.rk h15 hc hd hn
  obtain ⟨b0, b1, b4, b2, b3, bv, b5, b6⟩ := cr.2.1
  have o : ∀ j, j ≠ 2 → j ≠ 7 + bn B 2 → j ≠ 22 + bn B 2 → rkB B (nI c) (nI dp) j = B j := fun j => rkB_o
  refine E61 h0 ?_
  rw [cr.n3]
  refine no (by rw [nI_leI (by decide) (by omega)]; omega) (yes (nI_pos' (by omega)) ?_)
  rw [nI_clamp (by omega), up_o (by omega), cr.n3, nI_clamp (by omega), nI_add]
  refine ⟨vp_in_nI (by omega) (by decide), vp_in_nI (by omega) (by decide), ?_⟩
  rw [up_o (by omega), up_o (by omega), cr.n3, nI_add]
  refine k61 (B := B) (w2 := .null) h0 (dp := dp) (by omega) (fun I' g e => hQ I' (fun q hq => ?_) ?_) (11 - (dp + 1)) (dp + 1) _ _ (by omega) (by omega) (fun _ _ => rfl) (fun t ht => by rw [if_neg (fun h => by omega)])
  · rw [g q (by omega), up_o (by omega), up_o (by omega), up_o (by omega)]
  · have ga : I' a = up2 I a 3 (nI (bn B 2 + 1)) a := by
      rw [g a (by omega)]
      exact up_row (by rw [up_o (by omega), up_o (by omega)])
    have g1 : I' (a + 1) = up2 I (a + 1) (bn B 2) (nI c) (a + 1) := by rw [g _ (by omega), up_o (by omega), up_o (by omega)]
    have g2 : I' (a + 2) = up2 I (a + 2) (bn B 2) (nI dp) (a + 2) := by
      rw [g _ (by omega), up_o (by omega)]
      exact up_row (by rw [up_o (by omega)])
    have g3 : ∀ t, t < 11 → I' (a + 3) t = if dp < t then I (a + 3) t ||| bi c else I (a + 3) t := fun t ht => by
      rw [e t ht, up_o (by omega), up_o (by omega), up_o (by omega)]
    have gk : ∀ q, 5 ≤ q → q ≤ 10 → I' (a + q) = I (a + q) := fun q q1 q2 => by rw [g _ (by omega), up_o (by omega), up_o (by omega), up_o (by omega)]
    have ek := rkB_2 (B := B) (c := nI c) (dp := nI dp) (by omega)
    refine ⟨w', ⟨?_, ?_, ?_, ?_, ?_, ?_, ?_, ?_⟩, fun i hi => ?_, fun t ht => ?_, fun k hk => ?_⟩
    · rw [ga, up_i (by decide), o 0 (by decide) (by omega) (by omega)]; exact b0
    · rw [ga, up_i (by decide), o 1 (by decide) (by omega) (by omega)]; exact b1
    · rw [ga, up_i (by decide), o 4 (by decide) (by omega) (by omega)]; exact b4
    · rw [ga, up_e]; unfold rkB; rw [ub_e]
    · rw [ga, up_i (by decide), o 3 (by decide) (by omega) (by omega)]; exact b3
    · rw [ga, up_i (by decide), bv]
      exact (vset_cg (o 3 (by decide) (by omega) (by omega)) (fun k hk => o _ (by omega) (by omega) (by omega))).symm
    · rw [ga, up_i (by decide), o 5 (by decide) (by omega) (by omega)]; exact b5
    · rw [ga, up_i (by decide), o 6 (by decide) (by omega) (by omega)]; exact b6
    · rw [ek] at hi
      rw [g1, g2]
      by_cases q : i = bn B 2
      · subst q
        rw [up_e, up_e, rkB_c (by omega), rkB_d]; exact ⟨rfl, rfl⟩
      · rw [up_i q, up_i q, o (7 + i) (by omega) (by omega) (by omega), o (22 + i) (by omega) (by omega) (by omega)]
        exact cr.2.2.1 i (by omega)
    · rw [g3 t ht, cr.sh ht, shal_rk h15 (by omega) hd]
      by_cases q : dp < t
      · rw [if_pos q, if_pos q]
      · rw [if_neg q, if_neg q, Int32.or_zero]
    · rw [bn_c (o 3 (by decide) (by omega) (by omega))] at hk
      obtain ⟨p4, p5, p6, p7, p8, p9, p10⟩ := cr.2.2.2.2 k hk
      have f : ∀ j, 37 ≤ j → j < 73 → rkB B (nI c) (nI dp) j = B j := fun j q1 q2 => o j (by omega) (by omega) (by omega)
      have f1 := f (37 + k) (by omega) (by omega)
      have f2 := f (43 + k) (by omega) (by omega)
      have f3 := f (49 + k) (by omega) (by omega)
      refine ⟨p4, by rw [gk 5 (by decide) (by decide), f1]; exact p5, by rw [gk 6 (by decide) (by decide), f2]; exact p6, by rw [gk 7 (by decide) (by decide), f3]; exact p7, ?_, by rw [gk 9 (by decide) (by decide), f _ (by omega) (by omega)]; exact p9, by rw [gk 10 (by decide) (by decide), f _ (by omega) (by omega)]; exact p10⟩
      rw [gk 8 (by decide) (by decide), p8]
      refine (pat_cg (fun j hj => ?_) f1 f2 f3).symm
      exact o j (by omega) (by omega) (by omega)
/-- the reference's rock, in the block b -/
theorem r231 {d : Nat} {Q : XQ} {S : XS} {I : XI} {J : XJ} {r : XR} {b c dp : Nat} {B : Nat → Int32} (hL : LAY S r) (hb4 : b ≤ 4) (hB : ∀ i, i < 345 → I 70 (345 * b + i) = B i) (h2 : B 2 = nI (bn B 2) ∧ bn B 2 < 15) (hQ : ∀ I', f70 I I' → (∀ i, i < 345 → I' 70 (345 * b + i) = rkB B (nI c) (nI dp) i) → (∀ i, (i < 345 * b ∨ 345 * b + 345 ≤ i) → I' 70 i = I 70 i) → Q none S I' J r) : xcall (d + 1) 231 [.ref 65, .int (nI b), .int (nI c), .int (nI dp)] S I J r Q := by
  refine E231 hL ?_
  simp only [pk_mul, nI_add]
  rw [nI_clamp (n := 345 * b + 2) (by omega), hB 2 (by decide), h2.1, nI_add, nI_clamp (by omega), up_i (by omega), hB 2 (by decide), h2.1, nI_add, nI_clamp (by omega), up_i (by omega), up_i (by omega), hB 2 (by decide), h2.1, nI_add]
  refine ⟨vp_in_nI (by omega) (by decide), vp_in_nI (by omega) (by decide), vp_in_nI (by omega) (by decide), vp_in_nI (by omega) (by decide), vp_in_nI (by omega) (by decide), vp_in_nI (by omega) (by decide), hQ _ (((f70.r I).u).u).u (fun i hi => ?_) (fun i hi => ?_)⟩
  · unfold rkB
    by_cases e1 : i = 2
    · subst e1; rw [up_e, ub_e]
    · rw [up_i (by omega), ub_o e1]
      by_cases e2 : i = 22 + bn B 2
      · subst e2
        rw [show 345 * b + 22 + bn B 2 = 345 * b + (22 + bn B 2) by omega, up_e, ub_e]
      · rw [up_i (by omega), ub_o e2]
        by_cases e3 : i = 7 + bn B 2
        · subst e3
          rw [show 345 * b + 7 + bn B 2 = 345 * b + (7 + bn B 2) by omega, up_e, ub_e]
        · rw [up_i (by omega), ub_o e3]; exact hB i hi
  · rw [up_i (by omega), up_i (by omega), up_i (by omega)]
def a116 (B : Nat → Int32) (x y : Int32) : Nat × Int32 × (Nat → Int32) := if okx x (ce B) then (if okr y 0 9 then (if bn B 2 = 15 then (7, -1, B) else if rkn B (cl x) < bn B 2 then (9, -1, B) else (0, nI (bn B 2), rkB B x y)) else (5, -1, B)) else (2, -1, B)
theorem c116 {d : Nat} {Q : XQ} {S : XS} {I : XI} {J : XJ} {r : XR} {x y : Int32} {B : Nat → Int32} {W : Nat → Int64} (hL : LAY S r) (c : CR I J 28 B W) (hQ : AC Q S I J r W (a116 B x y).1 (a116 B x y).2.1 (a116 B x y).2.2) : xcall (d + 3) 116 [.ref 0, .int x, .int y] S I J r Q := by
  have hN := ce_le c.wf
  have hb := c.wf.r.2
  unfold a116 at hQ
  refine E116 hL (c76 (lay0_28 hL) c (fun k h1 h2 => ?_) (fun h => ?_))
  · rw [if_pos (by rw [h2]; exact okx_nI h1 (by omega))] at hQ
    refine K116_8 hL (yes (by decide) (c101 (fun h3 h4 => ?_) (fun h => ?_)))
    · have hy : okr y 0 9 := ⟨h3, h4⟩
      rw [if_pos hy] at hQ
      obtain ⟨p1, p2, p3⟩ := okr_cl (lo := 0) (hi := 9) hy (by decide)
      generalize cl y = m at *
      subst h2 p3
      rw [cl_nI (by omega)] at hQ
      refine K116_24 hL (yes (by decide) ?_)
      rw [c.n3]
      by_cases q : bn B 2 = 15
      · rw [if_pos q] at hQ
        exact no (by rw [nI_ltI (by omega) (by decide)]; omega) (E31 hL (K116_51 (hQ.e c (ix.r I).c)))
      · rw [if_neg q] at hQ
        refine yes (by rw [nI_ltI (by omega) (by decide)]; omega) (c60 (lay0_28 hL) c (by omega) (fun q hq he => ?_) (fun hn => ?_))
        · rw [rkn_y c.wf hq he, if_pos hq] at hQ
          have := (c.wf.dp hq).2
          exact K116_60 hL (no (nI_m1 (by omega)) (E31 hL (K116_70 (hQ.e c (ix.r I).c))))
        · rw [rkn_n hn, if_neg (Nat.lt_irrefl _)] at hQ
          refine K116_60 hL (yes rfl (c61 (lay0_28 hL) c (by omega) h1 p2 hn (fun I' g c' => K116_80 hL ?_)))
          rw [c'.n3, rkB_2 (by omega), pk_sub (by omega), Nat.add_sub_cancel]
          exact E83 hL (K116_93 (hQ.e c' g.c))
    · rw [if_neg (by exact h)] at hQ
      exact K116_24 hL (nno rfl (E31 hL (K116_32 (hQ.e c (ix.r I).c))))
  · rw [if_neg h] at hQ
    exact K116_8 hL (nno rfl (E31 hL (K116_16 (hQ.e c (ix.r I).c))))
theorem r285 {d : Nat} {Q : XQ} {S : XS} {I : XI} {J : XJ} {r : XR} {x y : Int32} (hL : LAY S r) (w : WF (I 70)) (hQ : AM Q S I J r (a116 (I 70) x y).1 (a116 (I 70) x y).2.1 (a116 (I 70) x y).2.2) : xcall (d + 3) 285 [.ref 65, .int x, .int y] S I J r Q := by
  have hN := ce_le w
  have hb := w.r.2
  unfold a116 at hQ
  refine E285 hL (r267 hL w (fun h1 h2 => K285_15 hL (yes (by decide) (c221 (fun h3 h4 => ?_) (fun h => ?_)))) (fun h => ?_))
  · have hx : okx x (ce (I 70)) := ⟨h1, h2⟩
    rw [i_l] at h3 h4
    have hy : okr y 0 9 := ⟨h3, h4⟩
    rw [if_pos hx, if_pos hy] at hQ
    obtain ⟨k1, k2⟩ := okx_cl hx
    obtain ⟨p1, p2, p3⟩ := okr_cl (lo := 0) (hi := 9) hy (by decide)
    generalize cl x = k at *
    generalize cl y = m at *
    subst k2 p3
    refine K285_33 hL (yes (by decide) ?_)
    show (¬ I 70 2 = nI 15 → xcall _ 229 [.ref 65, .int (nI 0), .int (nI k)] S (m2 I) J r _) ∧ (¬ ¬ I 70 2 = nI 15 → xcall _ 261 [.ref 65, .int (nI 7)] S (m2 I) J r _)
    rw [w.r.1, nI_eqI (by omega) (by decide)]
    by_cases q : bn (I 70) 2 = 15
    · rw [if_pos q] at hQ
      exact nno q (E261 hL (K285_61 hQ.r))
    · rw [if_neg q] at hQ
      refine yes q (r229 (b := 0) (B := I 70) hL (by decide) (hB0 _) w (by omega) (fun q hq he => ?_) (fun hn => ?_))
      · rw [rkn_y w hq he, if_pos hq] at hQ
        exact K285_68 hL (no (nI_pos (by omega)) (E261 hL (K285_77 hQ.r)))
      · rw [rkn_n hn, if_neg (Nat.lt_irrefl _)] at hQ
        dsimp only at hQ
        refine K285_68 hL (yes (by decide) (r231 (b := 0) (B := I 70) hL (by decide) (hB0 _) ⟨w.r.1, by omega⟩ (fun I' g e e2 => K285_85 ?_)))
        show Q (some (.int (I 70 2))) S I' J r
        rw [w.r.1]
        refine hQ.g ?_ g
        funext i
        rcases Nat.lt_or_ge i 345 with q1 | q1
        · have := e i q1
          rw [Nat.mul_zero, Nat.zero_add] at this
          exact this
        · rw [e2 i (Or.inr (by omega)), rkB_o (by omega) (by omega) (by omega)]; rfl
  · rw [i_l] at h
    rw [if_pos ⟨h1, h2⟩, if_neg (by exact h)] at hQ
    exact K285_33 hL (nno rfl (E261 hL (K285_41 hQ.r)))
  · rw [if_neg (by exact h)] at hQ
    exact K285_15 hL (nno rfl (E261 hL (K285_23 hQ.r)))
