/-! a step done: the reference -/
def mfd (I I' : XI) : Prop := (∀ q, q ≠ 65 → q ≠ 70 → q ≠ 73 → I' q = I q) ∧ ∀ i, i ≠ 34 → i ≠ 39 → I' 65 i = I 65 i
theorem mfd.r (I : XI) : mfd I I := ⟨fun _ _ _ _ => rfl, fun _ _ _ => rfl⟩
theorem mfd.t {I I' I2 : XI} (h : mfd I I') (h2 : mfd I' I2) : mfd I I2 := ⟨fun q a b c => (h2.1 q a b c).trans (h.1 q a b c), fun i a b => (h2.2 i a b).trans (h.2 i a b)⟩
theorem f70.d {I I' : XI} (h : f70 I I') : mfd I I' := ⟨fun q _ b _ => h q b, fun i _ _ => by rw [h 65 (by decide)]⟩
theorem f73.d {I I' : XI} (h : f73 I I') : mfd I I' := ⟨fun q _ _ c => h q c, fun i _ _ => by rw [h 65 (by decide)]⟩
theorem mfd.u {I I' : XI} {i : Nat} {v : Int32} (h : mfd I I') (hi : i = 34 ∨ i = 39) : mfd I (up2 I' 65 i v) := ⟨fun q a b c => by rw [up_o a]; exact h.1 q a b c, fun j a b => by rw [up_i (by omega)]; exact h.2 j a b⟩
theorem mfd.v {I I' : XI} {i : Nat} {v : Int32} (h : mfd I I') : mfd I (up2 I' 70 i v) := ⟨fun q a b c => by rw [up_o b]; exact h.1 q a b c, fun j a b => by rw [up_o (by decide)]; exact h.2 j a b⟩
def MCS (I : XI) (st : YL) : Prop := I 70 = st.1 ∧ I 65 34 = nI st.2.1 ∧ I 65 39 = st.2.2.1 ∧ st.2.1 < 65536 ∧ WF st.1
theorem MCS.f {I I' : XI} {B : Nat → Int32} {st : YL} (h : MCS I st) (k : ∀ q, q ≠ 73 → q ≠ 70 → I' q = I q) (e : I' 70 = B) (w : WF B) : MCS I' (B, st.2) := by
  have e65 : I' 65 = I 65 := k 65 (by decide) (by decide)
  refine ⟨e, ?_, ?_, h.2.2.2.1, w⟩
  · rw [e65]; exact h.2.1
  · rw [e65]; exact h.2.2.1
theorem r345 {d : Nat} {Q : XQ} {S : XS} {I : XI} {J : XJ} {r : XR} {rn n : Nat} (hL : LAY S r) (hn : 0 < n) (hn2 : n < 1000) (h2 : I 65 34 = nI rn) (hr : rn < 65536) (hQ : Q (some (.int (nI (nx rn / 8 % n)))) S (up2 I 65 34 (nI (nx rn))) J r) : xcall (d + 1) 345 [.ref 65, .int (nI n)] S I J r Q := by
  have hx := nx_lt (rn := rn)
  refine E345 hL ⟨by rw [show (0 : Int32) = nI 0 from rfl, nI_eqI (by omega) (by decide)]; omega, ?_⟩
  have e1 : (((I 65 34) * nI 2971) + nI 10883) - (((I 65 34) * nI 2971) + nI 10883) / nI 65536 * nI 65536 = nI (nx rn) := by
    rw [h2]
    unfold nx
    simp (disch := omega) only [nI_add, nI_1, pk_mul, nI_rem, nI_remm, pk_sub, pk_div, nI_clamp, nI_leI, nI_ltI, nI_eqI, nI_l, nI_0le, nI_nlt0]
    omega
  rw [e1, up_e]
  have e2 : nI (nx rn) / nI 8 - nI (nx rn) / nI 8 / nI n * nI n = nI (nx rn / 8 % n) := by simp (disch := omega) only [nI_add, nI_1, pk_mul, nI_rem, nI_remm, pk_sub, pk_div, nI_clamp, nI_leI, nI_ltI, nI_eqI, nI_l, nI_0le, nI_nlt0]
  rw [e2]
  exact hQ
theorem r343 {d : Nat} {Q : XQ} {S : XS} {I : XI} {J : XJ} {r : XR} {k m : Nat} {st : YL} (hL : LAY S r) (h : MCS I st) (hk : k < bn st.1 3) (hm : m ≤ 9) (hQ : ∀ I', mfd I I' → MCS I' (dDk k m st).2 → Q (some (.int (dDk k m st).1)) S I' J r) : xcall (d + 3) 343 [.ref 65, .int (nI k), .int (nI m)] S I J r Q := by
  have e70 := h.1
  have w := h.2.2.2.2
  refine E343 hL (r276 (d := d) hL (by rw [e70]; exact w) (by rw [e70]; exact hk) hm (fun I' f e => K343_6 hL ?_))
  rw [e70] at e ⊢
  have h1 := h.f (fun q a b => f q b) e (sm_dk w hk).1
  unfold dDk at hQ
  rcases dk_01 (B := st.1) (k := k) (m := m) with e0 | e0
  · rw [e0] at hQ
    rw [if_pos rfl] at hQ
    exact no (by rw [e0]; decide) (hQ I' f.d h1)
  · rw [e0] at hQ
    rw [if_neg (by decide)] at hQ
    refine yes (by rw [e0]; decide) ?_
    have e7 : I' 65 39 = st.2.2.1 := h1.2.2.1
    rw [e7]
    refine hQ _ (f.d.u (Or.inr rfl)) ⟨?_, ?_, up_e, h.2.2.2.1, h1.2.2.2.2⟩
    · rw [up_o (by decide)]; exact e
    · rw [up_i (by decide)]; exact h1.2.1
theorem MCS.rn {I : XI} {rn : Nat} {st : YL} (h : MCS I st) (hr : rn < 65536) : MCS (up2 I 65 34 (nI rn)) (st.1, rn, st.2.2) :=
  ⟨by rw [up_o (by decide)]; exact h.1, up_e, by rw [up_i (by decide)]; exact h.2.2.1, hr, h.2.2.2.2⟩
theorem r344 {d : Nat} {Q : XQ} {S : XS} {I : XI} {J : XJ} {r : XR} {st : YL} (hL : LAY S r) (h : MCS I st) (hQ : ∀ I', mfd I I' → MCS I' (dAn st).2 → Q (some (.int (dAn st).1)) S I' J r) : xcall (d + 4) 344 [.ref 65] S I J r Q := by
  have e70 := h.1
  have w := h.2.2.2.2
  have hc := w.c.2
  have ho := w.o.2
  unfold dAn at hQ
  refine E344 hL ?_
  have e3 : I 70 3 = nI (bn st.1 3) := by rw [e70]; exact w.c.1
  rw [e3, show (0 : Int32) = nI 0 from rfl, nI_eqI (by omega) (by decide)]
  by_cases q0 : bn st.1 3 = 0
  · rw [if_pos q0] at hQ
    exact nno q0 (hQ I (mfd.r I) h)
  rw [if_neg q0] at hQ
  refine yes q0 (r345 (d := d + 2) hL (by omega) (by omega) h.2.1 h.2.2.2.1 (K344_21 hL ?_))
  have h1 := h.rn (nx_lt (rn := st.2.1))
  have k1 : mfd I (up2 I 65 34 (nI (nx st.2.1))) := (mfd.r I).u (Or.inl rfl)
  have hk : nx st.2.1 / 8 % bn st.1 3 < bn st.1 3 := Nat.mod_lt _ (by omega)
  have h1r : up2 I 65 34 (nI (nx st.2.1)) 65 34 = nI (nx st.2.1) := up_e
  refine r345 (d := d + 2) (rn := nx st.2.1) hL (by decide) (by decide) h1r nx_lt (K344_28 hL ?_)
  have h2 := h1.rn (nx_lt (rn := nx st.2.1))
  have k2 := k1.u (i := 34) (v := nI (nx (nx st.2.1))) (Or.inl rfl)
  generalize nx st.2.1 / 8 % bn st.1 3 = k at *
  have h2' : MCS (up2 (up2 I 65 34 (nI (nx st.2.1))) 65 34 (nI (nx (nx st.2.1)))) (st.1, nx (nx st.2.1), st.2.2) := h2
  have e70' : up2 (up2 I 65 34 (nI (nx st.2.1))) 65 34 (nI (nx (nx st.2.1))) 70 = st.1 := h2'.1
  have n2 : up2 (up2 I 65 34 (nI (nx st.2.1))) 65 34 (nI (nx (nx st.2.1))) 70 4 = nI (bn st.1 4) := by rw [e70']; exact w.o.1
  rw [n2, nI_leI (by omega) (by have := Nat.mod_lt (nx (nx st.2.1) / 8) (by decide : 0 < 16); omega)]
  by_cases q1 : nx (nx st.2.1) / 8 % 16 < bn st.1 4
  · rw [if_pos q1] at hQ
    exact no (by omega) (r343 (d := d) hL h2' hk (by decide) (fun I3 f3 h3 => K344_43 ⟨dk_01, hQ I3 (k2.t f3) h3⟩))
  · rw [if_neg q1] at hQ
    refine yes (by omega) ?_
    rw [nI_add, nI_clamp (by omega)]
    refine ⟨vp_in_nI (by omega) (by decide), vp_in_nI (by omega) (by decide), hQ _ k2.v ⟨?_, ?_, ?_, nx_lt, w.veil hk (tog_01 (w.ve hk))⟩⟩
    · show up2 (up2 (up2 I 65 34 (nI (nx st.2.1))) 65 34 (nI (nx (nx st.2.1)))) 70 (61 + k) (nI 1 - up2 (up2 I 65 34 (nI (nx st.2.1))) 65 34 (nI (nx (nx st.2.1))) 70 (61 + k)) 70 = ub st.1 (61 + k) (nI 1 - st.1 (61 + k))
      rw [upr, e70']
    · rw [up_o (by decide)]; exact h2'.2.1
    · rw [up_o (by decide)]; exact h2'.2.2.1
theorem r342 {d : Nat} {Q : XQ} {S : XS} {I : XI} {J : XJ} {r : XR} {wd k : Nat} {y : Nat → Int32} {st : YL} (hL : LAY S r) (h : MCS I st) (hm : 75 ≤ wd) (hm2 : wd + 8 < 345) (rz : RZ (I 70) wd k y) (hy : y 0 = nI k) (h1 : 1 ≤ k) (h2 : k ≤ 8) (v : VL (bn st.1 3) (ce st.1) k y) (hQ : ∀ I', mfd I I' → MCS I' (dO y st).2 → Q (some (.int (dO y st).1)) S I' J r) : xcall (d + 8) 342 [.ref 65, .int (nI wd)] S I J r Q := by
  have e70 := h.1
  have w := h.2.2.2.2
  have hc := w.c.2
  have hce := ce_le w
  have w70 : WF (I 70) := by rw [e70]; exact w
  have er : rk9 k = k - 1 := by unfold rk9; rw [if_pos h2]
  have g0 : I 70 wd = nI (k - 1) := by rw [← er]; exact rz.1
  refine E342 hL ?_
  simp only [nI_add]
  rw [nI_clamp (by omega), nI_clamp (by omega), nI_clamp (by omega), g0]
  refine ⟨vp_in_nI (by omega) (by decide), vp_in_nI (by omega) (by decide), ?_⟩
  rcases (by omega : k = 1 ∨ k = 2 ∨ k = 3 ∨ k = 4 ∨ k = 5 ∨ k = 6 ∨ k = 7 ∨ k = 8) with rfl | rfl | rfl | rfl | rfl | rfl | rfl | rfl
  · obtain ⟨q, q1, q2⟩ := v.1 (by omega)
    obtain ⟨m, m1, m2, m3⟩ := v.2.1 (by omega)
    rw [dO1 hy, bn_of q2 (by omega), bn_of m3 (by omega)] at hQ
    have g1 : I 70 (wd + 1) = nI q := (rz.2.1 (by omega)).trans q2
    have g2 : I 70 (wd + 2) = nI m := (rz.2.2.2.1 (by omega)).trans m3
    rw [g1, g2]
    exact nno rfl ⟨vp_in_nI (by omega) (by decide), r343 (d := d + 4) hL h q1 m2 (fun I1 f1 hh => K342_33 ⟨dk_01, hQ I1 f1 hh⟩)⟩
  · obtain ⟨m, m1, m2, m3⟩ := v.2.1 (by omega)
    rw [dO2 hy, bn_of m3 (by omega)] at hQ
    have g1 : I 70 (wd + 1) = nI m := (rz.2.2.1 (by omega)).trans m3
    rw [g1]
    refine yes (by decide) (nno rfl (r278 (d := d + 5) hL w70 m2 (fun I1 f1 e => K342_44 ?_)))
    rw [e70] at e ⊢
    have hh := hQ I1 f1.d (h.f (fun q a b => f1 q b) e (w.rn _ (Nat.le_refl _)))
    have hr := rnB_3 (B := st.1) (m := m) (bn st.1 3) hc
    rw [show (0 : Int32) = nI 0 from rfl, nI_leI (by omega) (by decide)]
    by_cases e : (rnB st.1 m (bn st.1 3)).1 = 0
    · rw [if_pos e] at hh; exact yes (by omega) hh
    · rw [if_neg e] at hh; exact no (by omega) hh
  · obtain ⟨q, q1, q2⟩ := v.1 (by omega)
    rw [dO3 hy, bn_of q2 (by omega)] at hQ
    have g1 : I 70 (wd + 1) = nI q := (rz.2.1 (by omega)).trans q2
    rw [g1]
    refine yes (by decide) (yes (by decide) (yes rfl (nno rfl (K342_78 hL ?_))))
    simp only [nI_add]
    refine r280 (d := d + 6) hL (by omega) (fun I1 f1 e => K342_81 ?_)
    rw [e70] at e ⊢
    have ev : (if st.1 (61 + q) = nI 1 then (0 : Int32) else 1) = (vlB st.1 q 1).1 ∧ ub st.1 (61 + q) (nI 1) = (vlB st.1 q 1).2 := by
      unfold vlB
      by_cases x : st.1 (61 + q) = 1
      · rw [if_pos (show st.1 (61 + q) = nI 1 from x), if_pos x]; exact ⟨rfl, ub_same x⟩
      · rw [if_neg (show ¬ st.1 (61 + q) = nI 1 from x), if_neg x]; exact ⟨rfl, rfl⟩
    rw [ev.1]
    rw [ev.2] at e
    exact ⟨vl_01, hQ I1 f1.d (h.f (fun q a b => f1 q b) e (sm_vl w q1 (Or.inr rfl)).1)⟩
  · obtain ⟨q, q1, q2⟩ := v.1 (by omega)
    rw [dO4 hy, bn_of q2 (by omega)] at hQ
    have g1 : I 70 (wd + 1) = nI q := (rz.2.1 (by omega)).trans q2
    rw [g1]
    refine yes (by decide) (yes (by decide) (no (by decide) (nno rfl (yes (by decide) (K342_78 hL ?_)))))
    simp only [nI_add]
    refine r280 (d := d + 6) hL (by omega) (fun I1 f1 e => K342_81 ?_)
    rw [e70] at e ⊢
    have ev : (if st.1 (61 + q) = nI 0 then (0 : Int32) else 1) = (vlB st.1 q 0).1 ∧ ub st.1 (61 + q) (nI 0) = (vlB st.1 q 0).2 := by
      unfold vlB
      by_cases x : st.1 (61 + q) = 0
      · rw [if_pos (show st.1 (61 + q) = nI 0 from x), if_pos x]; exact ⟨rfl, ub_same x⟩
      · rw [if_neg (show ¬ st.1 (61 + q) = nI 0 from x), if_neg x]; exact ⟨rfl, rfl⟩
    rw [ev.1]
    rw [ev.2] at e
    exact ⟨vl_01, hQ I1 f1.d (h.f (fun q a b => f1 q b) e (sm_vl w q1 (Or.inl rfl)).1)⟩
  · obtain ⟨q, q1, q2⟩ := v.1 (by omega)
    obtain ⟨m, m1, m2⟩ := v.2.2.1 (by omega)
    rw [dO5 hy, bn_of q2 (by omega), bn_of m2 (by omega)] at hQ
    have g1 : I 70 (wd + 1) = nI q := (rz.2.1 (by omega)).trans q2
    have g2 : I 70 (wd + 2) = nI m := (rz.2.2.2.1 (by omega)).trans m2
    rw [g1, g2]
    refine yes (by decide) (yes (by decide) (no (by decide) (yes (by decide) (nno rfl ⟨vp_in_nI (by omega) (by decide), r283 (d := d + 4) hL w70 (by rw [e70]; exact q1) (by rw [e70]; exact m1) (fun I1 f1 e => K342_100 ?_)⟩))))
    rw [e70] at e ⊢
    refine ⟨?_, hQ I1 f1.d (h.f (fun q a b => f1 q b) e (sm_ik w q1).1)⟩
    split
    · exact Or.inr rfl
    · exact Or.inl rfl
  · obtain ⟨q, q1, q2⟩ := v.1 (by omega)
    rw [dO6 hy, bn_of q2 (by omega)] at hQ
    have g1 : I 70 (wd + 1) = nI q := (rz.2.1 (by omega)).trans q2
    rw [g1]
    rw [show nI 67 + nI q = nI (67 + q) from nI_add _ _]
    refine yes (by decide) (yes (by decide) (no (by decide) (yes (by decide) (yes (by decide) (nno rfl ?_)))))
    refine r280 (d := d + 6) (i := 67 + q) hL (by omega) (fun I1 f1 e => K342_115 ?_)
    rw [e70] at e ⊢
    refine ⟨?_, hQ I1 f1.d (h.f (fun q a b => f1 q b) e (w.ink q1 (fun i _ h => by rw [b_0] at h; cases h) (by rw [ct_0]; decide)))⟩
    split
    · exact Or.inl rfl
    · exact Or.inr rfl
  · obtain ⟨q, q1, q2⟩ := v.1 (by omega)
    obtain ⟨m, m1, m2⟩ := v.2.2.1 (by omega)
    obtain ⟨⟨t, t1, t2⟩, ⟨dr, d1, d2, d3⟩⟩ := v.2.2.2.1 rfl
    rw [dO7 hy, bn_of q2 (by omega), bn_of m2 (by omega), bn_of t2 (by omega), bn_of d3 (by omega)] at hQ
    have g1 : I 70 (wd + 1) = nI q := (rz.2.1 (by omega)).trans q2
    have g2 : I 70 (wd + 2) = nI m := (rz.2.2.2.1 (by omega)).trans m2
    have g3 : I 70 (wd + 3) = nI t := (rz.2.2.2.2.1 rfl).1.trans t2
    have g4 : I 70 (wd + 4) = nI dr := (rz.2.2.2.2.1 rfl).2.trans d3
    have n3 : (nI (wd + 3)).toNatClampNeg = wd + 3 := nI_clamp (by omega)
    have n4 : (nI (wd + 4)).toNatClampNeg = wd + 4 := nI_clamp (by omega)
    rw [n3, n4, g1, g2, g3, g4]
    refine yes (by decide) (yes (by decide) (no (by decide) (yes (by decide) (yes (by decide) (yes (by decide) (nno rfl ⟨vp_in_nI (by omega) (by decide), vp_in_nI (by omega) (by decide), vp_in_nI (by omega) (by decide), ?_⟩))))))
    refine r293 (d := d) (x := bi q) hL w70 (by rw [e70]; exact m1) (by rw [e70]; exact t1) d2 (fun hw I1 f1 e => K342_153 ?_) (fun hw I1 f1 => K342_153 (yes (by decide) (K342_168 ⟨Or.inl rfl, ?_⟩)))
    · rw [e70] at hw e ⊢
      rw [dSl_y hw] at hQ
      generalize hx : ST1 st.1 (bi q) m t dr = x at *
      have hh := h.f f1 e (sm_sh w).1
      have hq := hQ I1 ⟨fun p a b c => f1 p c b, fun i _ _ => by rw [f1 65 (by decide) (by decide)]⟩ hh
      rcases sh_01 (B := st.1) (s := x) with e0 | e0
      · rw [e0]; exact no (by decide) (K342_168 ⟨Or.inr rfl, hq⟩)
      · rw [e0]; exact no (by decide) (K342_168 ⟨Or.inr rfl, hq⟩)
    · rw [e70] at hw
      rw [dSl_n hw] at hQ
      exact hQ I1 f1.d (h.f (fun q a _ => f1 q a) (by rw [f1 70 (by decide)]; exact e70) w)
  · rw [dO8 hy] at hQ
    refine yes (by decide) (yes (by decide) (no (by decide) (yes (by decide) (yes (by decide) (yes (by decide) (yes (by decide) ?_))))))
    refine r344 (d := d + 3) hL h (fun I1 f1 hh => K342_168 ⟨?_, hQ I1 f1 hh⟩)
    unfold dAn
    split
    · exact Or.inl rfl
    · split
      · exact dk_01
      · exact Or.inr rfl
theorem r346 {d : Nat} {Q : XQ} {S : XS} {I : XI} {J : XJ} {r : XR} {wd k : Nat} {B y : Nat → Int32} (hL : LAY S r) (e70 : I 70 = B) (w : WF B) (hm : 75 ≤ wd) (hm2 : wd + 8 < 345) (rz : RZ B wd k y) (hy : y 0 = nI k) (h1 : 12 ≤ k) (h2 : k ≤ 14) (v : VL (bn B 3) (ce B) k y) (hQ : Q (some (.int (b01 (hO B y)))) S I J r) : xcall (d + 4) 346 [.ref 65, .int (nI wd)] S I J r Q := by
  have hc := w.c.2
  have hce := ce_le w
  obtain ⟨q, q1, q2⟩ := v.1 (by omega)
  have g1 : B (wd + 1) = nI q := (rz.2.1 (by omega)).trans q2
  have g5 : B (wd + 5) = nI (k - 12) := rz.2.2.2.2.2.1 h1
  have c1 : (nI (wd + 1)).toNatClampNeg = wd + 1 := nI_clamp (by omega)
  have c2 : (nI (wd + 2)).toNatClampNeg = wd + 2 := nI_clamp (by omega)
  have c5 : (nI (wd + 5)).toNatClampNeg = wd + 5 := nI_clamp (by omega)
  have c6 : (nI (wd + 6)).toNatClampNeg = wd + 6 := nI_clamp (by omega)
  have c7 : (nI (wd + 7)).toNatClampNeg = wd + 7 := nI_clamp (by omega)
  have c55 : (nI (55 + q)).toNatClampNeg = 55 + q := nI_clamp (by omega)
  have c61 : (nI (61 + q)).toNatClampNeg = 61 + q := nI_clamp (by omega)
  unfold hO at hQ
  rw [hy, bn_of q2 (by omega)] at hQ
  refine E346 hL ?_
  rw [e70]
  simp only [nI_add]
  rw [c5, c1, g5, g1]
  simp only [nI_add]
  refine ⟨vp_in_nI (by omega) (by decide), vp_in_nI (by omega) (by decide), ?_⟩
  rcases (by omega : k = 12 ∨ k = 13 ∨ k = 14) with rfl | rfl | rfl
  · obtain ⟨m, m1, m2⟩ := v.2.2.1 (by omega)
    have g2 : B (wd + 2) = nI m := (rz.2.2.2.1 (by omega)).trans m2
    rw [if_pos rfl, bn_of m2 (by omega)] at hQ
    refine nno rfl (r272 (d := d) hL (by rw [e70]; exact w) (by rw [e70]; exact q1) (K346_27 hL ?_))
    rw [e70, nI_add, c2, g2]
    refine ⟨vp_in_nI (by omega) (by decide), r250 (d := d + 2) (by omega) (fun e => K346_38 ⟨Or.inr rfl, ?_⟩) (fun e => K346_38 ⟨Or.inl rfl, ?_⟩)⟩
    · rw [e] at hQ; exact hQ
    · rw [e] at hQ; exact hQ
  · have g67 := rz.2.2.2.2.2.2 rfl
    rw [if_neg (by decide), if_pos rfl] at hQ
    rw [c7, c6, c55, g67.1, g67.2]
    have v7 : vp_in (nI (wd + 7)) 1725 := vp_in_nI (by omega) (by decide)
    have v6 : vp_in (nI (wd + 6)) 1725 := vp_in_nI (by omega) (by decide)
    refine yes (by decide) (yes (by decide) ⟨vp_in_nI (by omega) (by decide), v7, ?_⟩)
    by_cases e60 : y 3 = nI 60
    · rw [if_pos e60] at hQ
      refine nno e60 ⟨v6, ?_⟩
      by_cases e : B (55 + q) < y 2
      · rw [decide_eq_true e] at hQ
        exact no (Int32.not_le.mpr e) (K346_165 ⟨Or.inr rfl, hQ⟩)
      · rw [decide_eq_false e] at hQ
        exact yes (Int32.not_lt.mp e) (K346_165 ⟨Or.inl rfl, hQ⟩)
    rw [if_neg e60] at hQ
    refine yes e60 ⟨v7, ?_⟩
    by_cases e62 : y 3 = nI 62
    · rw [if_pos e62] at hQ
      refine nno e62 ⟨v6, ?_⟩
      by_cases e : y 2 < B (55 + q)
      · rw [decide_eq_true e] at hQ
        exact no (Int32.not_le.mpr e) (K346_165 ⟨Or.inr rfl, hQ⟩)
      · rw [decide_eq_false e] at hQ
        exact yes (Int32.not_lt.mp e) (K346_165 ⟨Or.inl rfl, hQ⟩)
    rw [if_neg e62] at hQ
    refine yes e62 ⟨v6, ?_⟩
    by_cases e : B (55 + q) = y 2
    · rw [decide_eq_true e] at hQ
      exact nno e (K346_165 ⟨Or.inr rfl, hQ⟩)
    · rw [decide_eq_false e] at hQ
      exact yes e (K346_165 ⟨Or.inl rfl, hQ⟩)
  · rw [if_neg (by decide), if_neg (by decide)] at hQ
    rw [c61]
    refine yes (by decide) (nno rfl ⟨vp_in_nI (by omega) (by decide), ?_⟩)
    by_cases e : B (61 + q) = 1
    · rw [decide_eq_true e] at hQ
      exact nno e (K346_62 ⟨Or.inr rfl, hQ⟩)
    · rw [decide_eq_false e] at hQ
      exact yes e (K346_62 ⟨Or.inl rfl, hQ⟩)
