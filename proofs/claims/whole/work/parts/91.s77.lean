theorem c176 {d : Nat} {Q : XQ} {S : XS} {I : XI} {J : XJ} {r : XR} {a l L k : Nat} {Y : YY} {W : Nat → Int64} {st : YL} (hL : LAY S r) (h0 : LY0 S r a) (ha : a = 28 ∨ a = 46) (h : LCS I J a W st) (y : LY I a L Y) (hl : l < L) (hL6 : L ≤ 60) (hk : Y l 0 = nI k) (h1 : 1 ≤ k) (h2 : k ≤ 14) (v : VL (bn st.1 3) (ce st.1) k (Y l)) (hQ : ∀ I', lf a I I' → LCS I' J a W (dO (Y l) st).2 → Q (some (.int (dO (Y l) st).1)) S I' J r) : xcall (d + 6) 176 [.ref 22, .ref a, .int (nI l)] S I J r Q := by
  have w := h.1.wf
  have hc := w.c.2
  have hce := ce_le w
  have ha6 : 26 < a := by omega
  have v60 : vp_in (nI l) 60 := vp_in_nI (by omega) (by omega)
  have g0 : I (a + 11 + 1) (nI l).toNatClampNeg = nI k := by rw [nI_clamp (by omega)]; exact (y.2 l hl 0 (by decide)).trans hk
  have g1 : I (a + 11 + 2) (nI l).toNatClampNeg = Y l 1 := by rw [nI_clamp (by omega)]; exact y.2 l hl 1 (by decide)
  have g2 : I (a + 11 + 3) (nI l).toNatClampNeg = Y l 2 := by rw [nI_clamp (by omega)]; exact y.2 l hl 2 (by decide)
  refine E176 hL h0 ⟨v60, v60, v60, ?_⟩
  rw [g0, g1, g2]
  have ne : ∀ j, j < 15 → k ≠ j → ¬ nI k = nI j := fun j hj hn => by rw [nI_eqI (by omega) (by omega)]; exact hn
  rcases (by omega : k = 1 ∨ k = 2 ∨ k = 3 ∨ k = 4 ∨ k = 5 ∨ k = 6 ∨ k = 7 ∨ k = 8 ∨ 9 ≤ k) with rfl | rfl | rfl | rfl | rfl | rfl | rfl | rfl | h9
  · obtain ⟨q, q1, q2⟩ := v.1 (by omega)
    obtain ⟨m, m1, m2, m3⟩ := v.2.1 (by omega)
    rw [dO1 hk, bn_of q2 (by omega), bn_of m3 (by omega)] at hQ
    rw [q2, m3]
    refine yes rfl (c177 (d := d + 2) hL h0 ha6 h q1 m2 (fun I1 f1 hh => K176_81 ⟨dk_01, hQ I1 f1 hh⟩))
  · obtain ⟨m, m1, m2, m3⟩ := v.2.1 (by omega)
    rw [dO2 hk, bn_of m3 (by omega)] at hQ
    rw [m3]
    refine no (by decide) (yes rfl (c111 (d := d + 3) h0 h.1 m2 (fun I1 f1 c1 => K176_88 ?_)))
    have hh := hQ I1 (f1.l ha6) (h.f ha6 f1 c1)
    have hr := rnB_3 (B := st.1) (m := m) (bn st.1 3) hc
    rw [show (0 : Int32) = nI 0 from rfl, nI_leI (by omega) (by decide)]
    by_cases e : (rnB st.1 m (bn st.1 3)).1 = 0
    · rw [if_pos e] at hh; exact yes (by omega) hh
    · rw [if_neg e] at hh; exact no (by omega) hh
  · obtain ⟨q, q1, q2⟩ := v.1 (by omega)
    rw [dO3 hk, bn_of q2 (by omega)] at hQ
    rw [q2]
    exact no (by decide) (no (by decide) (yes rfl (c73 (d := d + 3) h0 h.1 q1 (Or.inr rfl) (fun I1 f1 c1 => K176_104 ⟨vl_01, hQ I1 (f1.l ha6) (h.f ha6 f1 c1)⟩))))
  · obtain ⟨q, q1, q2⟩ := v.1 (by omega)
    rw [dO4 hk, bn_of q2 (by omega)] at hQ
    rw [q2]
    exact no (by decide) (no (by decide) (no (by decide) (yes rfl (c73 (d := d + 3) h0 h.1 q1 (Or.inl rfl) (fun I1 f1 c1 => K176_112 ⟨vl_01, hQ I1 (f1.l ha6) (h.f ha6 f1 c1)⟩)))))
  · obtain ⟨q, q1, q2⟩ := v.1 (by omega)
    obtain ⟨m, m1, m2⟩ := v.2.2.1 (by omega)
    rw [dO5 hk, bn_of q2 (by omega), bn_of m2 (by omega)] at hQ
    rw [q2, m2]
    refine no (by decide) (no (by decide) (no (by decide) (no (by decide) (yes rfl (c77 (d := d + 3) h0 h.1 q1 m1 (fun I1 f1 c1 => K176_121 ?_))))))
    have hh := hQ I1 (f1.l ha6) (h.f ha6 f1 c1)
    have e100 : (ikB st.1 q m).1 < 100 := by
      unfold ikB
      split
      · show 7 < 100
        decide
      · split
        · show 0 < 100
          decide
        · show 9 < 100
          decide
    rw [show (0 : Int32) = nI 0 from rfl, nI_eqI (by omega) (by decide)]
    by_cases e : (ikB st.1 q m).1 = 0
    · rw [if_pos e] at hh; exact nno e hh
    · rw [if_neg e] at hh; exact yes e hh
  · obtain ⟨q, q1, q2⟩ := v.1 (by omega)
    rw [dO6 hk, bn_of q2 (by omega)] at hQ
    rw [q2]
    refine no (by decide) (no (by decide) (no (by decide) (no (by decide) (no (by decide) (yes rfl (c115 (d := d + 3) h0 h.1 q1 (fun I1 f1 c1 => K176_136 ?_)))))))
    have hh := hQ I1 (f1.l ha6) (h.f ha6 f1 c1)
    have h6 := (w.ik q1).2
    have hz : ctN (st.1 (67 + q)) 30 = 0 ↔ st.1 (67 + q) = 0 := ct_zero (fun i i1 i2 => by
      cases hb : bt (st.1 (67 + q)) i
      · rfl
      · have := ik_in w q1 i i2 hb; omega)
    rw [show (0 : Int32) = nI 0 from rfl, nI_leI (by omega) (by decide)]
    by_cases e : st.1 (67 + q) = 0
    · rw [if_pos e] at hh; exact yes (by have := hz.mpr e; omega) hh
    · rw [if_neg e] at hh; exact no (fun x => e (hz.mp (by omega))) hh
  · obtain ⟨q, q1, q2⟩ := v.1 (by omega)
    obtain ⟨m, m1, m2⟩ := v.2.2.1 (by omega)
    obtain ⟨⟨t, t1, t2⟩, ⟨dr, d1, d2, d3⟩⟩ := v.2.2.2.1 rfl
    rw [dO7 hk, bn_of q2 (by omega), bn_of m2 (by omega), bn_of t2 (by omega), bn_of d3 (by omega)] at hQ
    refine no (by decide) (no (by decide) (no (by decide) (no (by decide) (no (by decide) (no (by decide) (yes rfl ?_))))))
    refine c178 (d := d) hL h0 ha h y hl hL6 q2 m2 t2 d3 q1 m1 t1 d2 (fun I1 f1 hh => K176_151 ⟨?_, hQ I1 f1 hh⟩)
    unfold dSl
    split
    · exact Or.inr rfl
    · exact Or.inl rfl
  · rw [dO8 hk] at hQ
    refine no (by decide) (no (by decide) (no (by decide) (no (by decide) (no (by decide) (no (by decide) (no (by decide) (yes rfl ?_)))))))
    refine c179 (d := d + 1) hL h0 ha6 h (fun I1 f1 hh => K176_157 ⟨?_, hQ I1 f1 hh⟩)
    unfold dAn
    split
    · exact Or.inl rfl
    · split
      · exact dk_01
      · exact Or.inr rfl
  · rw [dO9 hk h9 (by omega)] at hQ
    exact no (ne 1 (by decide) (by omega)) (no (ne 2 (by decide) (by omega)) (no (ne 3 (by decide) (by omega)) (no (ne 4 (by decide) (by omega)) (no (ne 5 (by decide) (by omega)) (no (ne 6 (by decide) (by omega)) (no (ne 7 (by decide) (by omega)) (no (ne 8 (by decide) (by omega)) (hQ I (lf.r a I) h))))))))
theorem c182 {d : Nat} {Q : XQ} {S : XS} {I : XI} {J : XJ} {r : XR} {a l L k : Nat} {B : Nat → Int32} {Y : YY} {W : Nat → Int64} (h0 : LY0 S r a) (c : CR I J a B W) (y : LY I a L Y) (hl : l < L) (hL6 : L ≤ 60) (hk : Y l 0 = nI k) (h1 : 12 ≤ k) (h2 : k ≤ 14) (v : VL (bn B 3) (ce B) k (Y l)) (hQ : Q (some (.int (b01 (hO B (Y l))))) S I J r) : xcall (d + 4) 182 [.ref a, .int (nI l)] S I J r Q := by
  have w := c.wf
  have hc := w.c.2
  have hce := ce_le w
  have v60 : vp_in (nI l) 60 := vp_in_nI (by omega) (by omega)
  have g0 : I (a + 11 + 1) (nI l).toNatClampNeg = nI k := by rw [nI_clamp (by omega)]; exact (y.2 l hl 0 (by decide)).trans hk
  obtain ⟨q, q1, q2⟩ := v.1 (by omega)
  have g1 : I (a + 11 + 2) (nI l).toNatClampNeg = nI q := by rw [nI_clamp (by omega)]; exact (y.2 l hl 1 (by decide)).trans q2
  have g2 : I (a + 11 + 3) (nI l).toNatClampNeg = Y l 2 := by rw [nI_clamp (by omega)]; exact y.2 l hl 2 (by decide)
  have g3 : I (a + 11 + 4) (nI l).toNatClampNeg = Y l 3 := by rw [nI_clamp (by omega)]; exact y.2 l hl 3 (by decide)
  unfold hO at hQ
  rw [hk, bn_of q2 (by omega)] at hQ
  refine E182 h0 ⟨v60, ?_⟩
  rw [g1]
  refine c72y (d := d + 2) h0 c.n7 (by omega) q1 (K182_17 h0 (yes (by decide) ⟨v60, v60, ?_⟩))
  rw [g0, g2]
  rcases (by omega : k = 12 ∨ k = 13 ∨ k = 14) with rfl | rfl | rfl
  · obtain ⟨m, m1, m2⟩ := v.2.2.1 (by omega)
    rw [if_pos rfl, bn_of m2 (by omega)] at hQ
    rw [m2]
    refine yes rfl (c105 (d := d) h0 c q1 (K182_69 ?_))
    rw [bt_down (by omega)]
    cases e : bt (shown B q) m
    · rw [e] at hQ; exact yes rfl hQ
    · rw [e] at hQ; exact no (by decide) hQ
  · obtain ⟨m, m1, m2⟩ := v.2.2.2.2.2 rfl
    rw [if_neg (by decide), if_pos rfl] at hQ
    refine no (by decide) (yes rfl ⟨vp_in_nI (by omega) (by omega), v60, ?_⟩)
    rw [g3, nI_clamp (by omega), (c.2.2.2.2 q q1).2.2.2.2.2.1]
    refine E183 ?_
    by_cases e60 : Y l 3 = nI 60
    · rw [if_pos e60] at hQ
      refine nno e60 ?_
      by_cases e : B (55 + q) < Y l 2
      · rw [decide_eq_true e] at hQ
        exact no (Int32.not_le.mpr e) (K182_100 ⟨Or.inr rfl, hQ⟩)
      · rw [decide_eq_false e] at hQ
        exact yes (Int32.not_lt.mp e) (K182_100 ⟨Or.inl rfl, hQ⟩)
    rw [if_neg e60] at hQ
    refine yes e60 ?_
    by_cases e62 : Y l 3 = nI 62
    · rw [if_pos e62] at hQ
      refine nno e62 ?_
      by_cases e : Y l 2 < B (55 + q)
      · rw [decide_eq_true e] at hQ
        exact no (Int32.not_le.mpr e) (K182_100 ⟨Or.inr rfl, hQ⟩)
      · rw [decide_eq_false e] at hQ
        exact yes (Int32.not_lt.mp e) (K182_100 ⟨Or.inl rfl, hQ⟩)
    rw [if_neg e62] at hQ
    refine yes e62 ?_
    by_cases e : B (55 + q) = Y l 2
    · rw [decide_eq_true e] at hQ
      exact nno e (K182_100 ⟨Or.inr rfl, hQ⟩)
    · rw [decide_eq_false e] at hQ
      exact yes e (K182_100 ⟨Or.inl rfl, hQ⟩)
  · rw [if_neg (by decide), if_neg (by decide)] at hQ
    refine no (by decide) (no (by decide) (c74 (d := d + 2) h0 c q1 (fun e => K182_106 (nno rfl ?_)) (fun e => K182_106 (yes (by decide) ?_))))
    · rw [decide_eq_true e] at hQ; exact hQ
    · rw [decide_eq_false (by rw [e]; decide)] at hQ; exact hQ
/-- the line behind a step -/
def nl (Y : YY) (L l : Nat) (B : Nat → Int32) : Nat := if Y l 0 = nI 9 then L else if Y l 0 = nI 12 ∨ Y l 0 = nI 13 ∨ Y l 0 = nI 14 then (if hO B (Y l) = true then l + 1 else bn (Y l) 5 + 1) else l + 1
theorem nl9 {Y : YY} {L l : Nat} {B : Nat → Int32} (h : Y l 0 = nI 9) : nl Y L l B = L := if_pos h
theorem nlw {Y : YY} {L l k : Nat} {B : Nat → Int32} (h : Y l 0 = nI k) (h1 : 12 ≤ k) (h2 : k ≤ 14) : nl Y L l B = if hO B (Y l) = true then l + 1 else bn (Y l) 5 + 1 := by
  unfold nl
  rw [if_neg (by rw [h, nI_eqI (by omega) (by decide)]; omega), if_pos (by rw [h, nI_eqI (by omega) (by decide), nI_eqI (by omega) (by decide), nI_eqI (by omega) (by decide)]; omega)]
theorem nlo {Y : YY} {L l k : Nat} {B : Nat → Int32} (h : Y l 0 = nI k) (h1 : k < 12) (h2 : k ≠ 9) : nl Y L l B = l + 1 := by
  unfold nl
  rw [if_neg (by rw [h, nI_eqI (by omega) (by decide)]; omega), if_neg (by rw [h, nI_eqI (by omega) (by decide), nI_eqI (by omega) (by decide), nI_eqI (by omega) (by decide)]; omega)]
theorem upr {I : XI} {q i : Nat} {v : Int32} : (up2 I q i v) q = ub (I q) i v := by
  funext j
  unfold up2 ub
  rw [if_pos rfl]
theorem c181 {d : Nat} {Q : XQ} {S : XS} {I : XI} {J : XJ} {r : XR} {a l L k : Nat} {B : Nat → Int32} {Y : YY} {W : Nat → Int64} (hL : LAY S r) (h0 : LY0 S r a) (c : CR I J a B W) (y : LY I a L Y) (hl : l < L) (hL6 : L ≤ 60) (hk : Y l 0 = nI k) (h1 : 1 ≤ k) (h2 : k ≤ 14) (h11 : k ≠ 11) (v : VL (bn B 3) (ce B) k (Y l)) (hp : 12 ≤ k → ∃ p, p < L ∧ Y l 5 = nI p) (hQ : Q (some (.int (nI (nl Y L l B)))) S (if k = 10 then up2 I 26 l (Y l 2) else I) J r) : xcall (d + 5) 181 [.ref 22, .ref a, .int (nI l)] S I J r Q := by
  have v60 : vp_in (nI l) 60 := vp_in_nI (by omega) (by omega)
  have g0 : I (a + 11 + 1) (nI l).toNatClampNeg = nI k := by rw [nI_clamp (by omega)]; exact (y.2 l hl 0 (by decide)).trans hk
  have g2 : I (a + 11 + 3) (nI l).toNatClampNeg = Y l 2 := by rw [nI_clamp (by omega)]; exact y.2 l hl 2 (by decide)
  refine E181 hL h0 ⟨v60, ?_⟩
  rw [g0, nI_eqI (by omega) (by decide), nI_eqI (by omega) (by decide), nI_eqI (by omega) (by decide), nI_eqI (by omega) (by decide), nI_eqI (by omega) (by decide), nI_eqI (by omega) (by decide)]
  by_cases k9 : k = 9
  · rw [nl9 (by rw [hk, k9]), if_neg (by omega)] at hQ
    refine yes k9 ?_
    rw [y.1]; exact hQ
  refine no k9 ?_
  by_cases k10 : k = 10
  · rw [nlo hk (by omega) k9, if_pos k10] at hQ
    refine yes k10 ⟨v60, v60, ?_⟩
    rw [g2, nI_clamp (by omega), nI_add]; exact hQ
  rw [if_neg k10] at hQ
  refine no k10 (no h11 ?_)
  have ho : 12 ≤ k → xcall (d + 4) 182 [.ref a, .int (nI l)] S I J r (fun v S1 I1 J1 r1 => xrun z0 (xcall (d + 4)) Q 181 74 [.ref 22, .ref a, .int (nI l), .ref (a + 11)] (v.toList ++ []) S1 I1 J1 r1 0 0) := fun h12 => by
    obtain ⟨p, p1, p2⟩ := hp h12
    rw [nlw hk h12 h2, bn_of p2 (by omega)] at hQ
    refine c182 (d := d) h0 c y hl hL6 hk h12 h2 v (K181_74 h0 ?_)
    cases e : hO B (Y l)
    · rw [e, if_neg (by decide)] at hQ
      refine yes rfl ⟨v60, ?_⟩
      have g5 : I (a + 11 + 6) (nI l).toNatClampNeg = nI p := by rw [nI_clamp (by omega)]; exact (y.2 l hl 5 (by decide)).trans p2
      rw [g5, nI_add]; exact hQ
    · rw [e, if_pos rfl] at hQ
      refine no (by decide) ?_
      rw [nI_add]; exact hQ
  by_cases k12 : k = 12
  · exact yes k12 (ho (by omega))
  refine no k12 ?_
  by_cases k13 : k = 13
  · exact yes k13 (ho (by omega))
  refine no k13 ?_
  by_cases k14 : k = 14
  · exact yes k14 (ho (by omega))
  refine no k14 ?_
  rw [nlo hk (by omega) k9] at hQ
  rw [nI_add]; exact hQ
