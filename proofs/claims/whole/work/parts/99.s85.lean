theorem r348b {d : Nat} {Q : XQ} {S : XS} {I : XI} {J : XJ} {r : XR} {x y : Int32} (hL : LAY S r) (hx : ¬ (1 ≤ y.toInt ∧ y.toInt ≤ 20 ∧ 0 ≤ x.toInt ∧ x.toInt + y.toInt ≤ 10000)) (hQ : Q (some (.int 0)) S (up2 (m2 I) 65 0 (nI 5)) J r) : xcall (d + 2) 348 [.ref 65, .int x, .int y] S I J r Q := by
  have z20 : (lN 20).toInt = 20 := rfl
  have z1 : (lN 1).toInt = 1 := rfl
  have z0' : (lN 0).toInt = 0 := rfl
  have bad : ∀ w3 w4 w5 w6 : Value, xcall (d + 1) 195 [.ref 65, .int (nI 5)] S (m2 I) J r (fun v S1 I1 J1 r1 => xrun z0 (xcall (d + 1)) Q 348 42 [.ref 65, .int x, .int y, w3, w4, w5, w6] (v.toList ++ []) S1 I1 J1 r1 0 0) := fun w3 w4 w5 w6 => E195 (d := d) hL (K348_42 ⟨Or.inl rfl, hQ⟩)
  refine E348 hL (c221 (d := d) (fun h1 h2 => ?_) (fun _ => K348_19 hL (yes rfl (bad _ _ _ _))))
  rw [z20, i_l] at h2
  rw [z1, i_l] at h1
  obtain ⟨n, n1, n2, n3⟩ := i_in (x := y) (n := 21) (by omega) (by omega)
  refine K348_19 hL (no (by decide) (c221 (d := d) (fun h3 h4 => ?_) (fun _ => K348_34 hL (nno rfl (bad _ _ _ _)))))
  rw [z0', i_l] at h3
  rw [i_l, i_l, n2, pk_sub (by omega), i_toI (by omega)] at h4
  exact absurd ⟨h1, h2, h3, by omega⟩ hx
theorem r348i {d : Nat} {Q : XQ} {S : XS} {I : XI} {J : XJ} {r : XR} {sd n : Nat} (hL : LAY S r) (h1 : 1 ≤ n) (h2 : n ≤ 20) (h3 : sd + n ≤ 10000) (hy : ¬ I 70 73 = 0 → ∀ w4 w5 w6, xrun z0 (xcall (d + 1)) Q 348 62 [.ref 65, .int (nI sd), .int (nI n), .int (nI 0), w4, w5, w6] [] S (m2 I) J r 0 0) (hn : I 70 73 = 0 → Q (some (.int 0)) S (up2 (m2 I) 65 0 (nI 8)) J r) : xcall (d + 2) 348 [.ref 65, .int (nI sd), .int (nI n)] S I J r Q := by
  have z20 : (lN 20).toInt = 20 := rfl
  have z1 : (lN 1).toInt = 1 := rfl
  have z0' : (lN 0).toInt = 0 := rfl
  refine E348 hL (c221 (d := d) (fun _ _ => K348_19 hL (no (by decide) (c221 (d := d) (fun _ _ => K348_34 hL (yes (by decide) ⟨fun e => hy e _ _ _, fun e => E195 (d := d) hL (K348_59 ⟨Or.inl rfl, hn (Classical.not_not.mp e)⟩)⟩)) (fun h => absurd ⟨?_, ?_⟩ h)))) (fun h => absurd ⟨?_, ?_⟩ h))
  · rw [z0', i_l, i_toI (by omega)]; omega
  · rw [i_l, i_l, pk_sub (by omega), i_toI (by omega), i_toI (by omega)]; omega
  · rw [z1, i_l, i_toI (by omega)]; omega
  · rw [z20, i_l, i_toI (by omega)]; omega
theorem r348n {d : Nat} {Q : XQ} {S : XS} {I : XI} {J : XJ} {r : XR} {sd n : Nat} (hL : LAY S r) (h1 : 1 ≤ n) (h2 : n ≤ 20) (h3 : sd + n ≤ 10000) (hy : I 70 73 = 0) (hQ : Q (some (.int 0)) S (up2 (m2 I) 65 0 (nI 8)) J r) : xcall (d + 2) 348 [.ref 65, .int (nI sd), .int (nI n)] S I J r Q :=
  r348i hL h1 h2 h3 (fun e => absurd hy e) (fun _ => hQ)
/-- the words kept -/
theorem k348a {d : Nat} {Q : XQ} {S : XS} {J : XJ} {r : XR} {sd n : Nat} (hL : LAY S r) : ∀ (j i cu su : Nat) (I : XI) (w4 w5 w6 : Value), i + j = 73 → (∀ I', (∀ q, q ≠ 71 → I' q = I q) → (∀ k, k < i → I' 71 k = I 71 k) → (∀ k, i ≤ k → k < 73 → I' 71 k = I 70 k) → ∀ cu su, xrun z0 (xcall d) Q 348 91 [.ref 65, .int (nI sd), .int (nI n), .long (lN 0), .float 0, .int (nI 0), w6] [] S I' J r cu su) → xrun z0 (xcall d) Q 348 62 [.ref 65, .int (nI sd), .int (nI n), .int (nI i), w4, w5, w6] [] S I J r cu su
  | 0, i, cu, su, I, w4, w5, w6, hi, hQ => by
    have : i = 73 := by omega
    subst this
    exact K348_62 hL (yes (by decide) (hQ I (fun _ _ => rfl) (fun _ _ => rfl) (fun k h1 h2 => by omega) _ _))
  | j + 1, i, cu, su, I, w4, w5, w6, hi, hQ => by
    refine K348_62 hL (no (by rw [nI_leI (by decide) (by omega)]; omega) ?_)
    rw [nI_clamp (by omega), nI_add]
    refine ⟨vp_in_nI (by omega) (by decide), vp_in_nI (by omega) (by decide), k348a hL j (i + 1) cu su _ _ _ _ (by omega) (fun I' f1 f2 f3 => hQ I' (fun q hq => (f1 q hq).trans (up_o hq)) (fun k hk => (f2 k (by omega)).trans (up_i (by omega))) (fun k k1 k2 => ?_))⟩
    rcases Nat.lt_or_ge i k with q | q
    · rw [f3 k q k2, up_o (by decide)]
    · have : k = i := by omega
      subst this
      rw [f2 k (by omega), up_e]
/-- the words taken back -/
theorem k348c {d : Nat} {Q : XQ} {S : XS} {J : XJ} {r : XR} {sd n i : Nat} {j3 : Int64} (hL : LAY S r) : ∀ (j x cu su : Nat) (I : XI) (w4 : Value), x + j = 73 → (∀ I' w4 w6, (∀ q, q ≠ 70 → I' q = I q) → (∀ k, k < x ∨ 73 ≤ k → I' 70 k = I 70 k) → (∀ k, x ≤ k → k < 73 → I' 70 k = I 71 k) → ∀ cu su, xrun z0 (xcall d) Q 348 91 [.ref 65, .int (nI sd), .int (nI n), .long j3, w4, .int (nI (i + 1)), w6] [] S I' J r cu su) → xrun z0 (xcall d) Q 348 142 [.ref 65, .int (nI sd), .int (nI n), .long j3, w4, .int (nI i), .int (nI x)] [] S I J r cu su
  | 0, x, cu, su, I, w4, hx, hQ => by
    have : x = 73 := by omega
    subst this
    refine K348_142 hL (yes (by decide) ?_)
    rw [nI_add]
    exact hQ I _ _ (fun _ _ => rfl) (fun _ _ => rfl) (fun k h1 h2 => by omega) _ _
  | j + 1, x, cu, su, I, w4, hx, hQ => by
    refine K348_142 hL (no (by rw [nI_leI (by decide) (by omega)]; omega) ?_)
    rw [nI_clamp (by omega), nI_add]
    refine ⟨vp_in_nI (by omega) (by decide), vp_in_nI (by omega) (by decide), k348c hL j (x + 1) cu su _ _ (by omega) (fun I' w4 w6 f1 f2 f3 => hQ I' w4 w6 (fun q hq => (f1 q hq).trans (up_o hq)) (fun k hk => (f2 k (by omega)).trans (up_i (by omega))) (fun k k1 k2 => ?_))⟩
    rcases Nat.lt_or_ge x k with q | q
    · rw [f3 k q k2, up_o (by decide)]
    · have : k = x := by omega
      subst this
      rw [f2 k (by omega), up_e]
/-- TAN added up -/
theorem k348b {d : Nat} {Q : XQ} {S : XS} {I : XI} {J : XJ} {r : XR} {sd n i s0 : Nat} {B : Nat → Int32} (hL : LAY S r) (e70 : I 70 = B) (w : WF B) (hs : s0 < 100000) (hQ : ∀ cu su w4, xrun z0 (xcall d) Q 348 142 [.ref 65, .int (nI sd), .int (nI n), .long (lN (s0 + tog B (bn B 3))), w4, .int (nI i), .int (nI 0)] [] S I J r cu su) : ∀ (j x cu su : Nat) (w4 : Value), x + j = bn B 3 → xrun z0 (xcall d) Q 348 108 [.ref 65, .int (nI sd), .int (nI n), .long (lN (s0 + tog B x)), w4, .int (nI i), .int (nI x)] [] S I J r cu su
  | 0, x, cu, su, w4, hx => by
    have hc := w.c.2
    have : x = bn B 3 := by omega
    subst this
    refine K348_108 hL (yes ?_ (hQ _ _ _))
    rw [e70, w.c.1]; exact Int32.le_refl _
  | j + 1, x, cu, su, w4, hx => by
    have hc := w.c.2
    have t := w.tn (k := x) (by omega)
    have tl := tog_le w x (by omega)
    refine K348_108 hL (no ?_ ?_)
    · rw [e70, w.c.1, nI_leI (by omega) (by omega)]; omega
    · rw [nI_add, nI_add, nI_clamp (by omega), e70, t.1, nI_l (by omega), lN_add]
      refine ⟨vp_in_nI (by omega) (by decide), ?_⟩
      have e : s0 + tog B x + bn B (55 + x) = s0 + tog B (x + 1) := by rw [tog]; omega
      rw [e]
      exact k348b hL e70 w hs hQ j (x + 1) cu su _ (by omega)
theorem k348 {d : Nat} {Q : XQ} {S : XS} {I0 : XI} {J0 : XJ} {r : XR} {sd n L T : Nat} {Y : YY} {B : Nat → Int32} {Gs : Nat → Nat → Int32} (hL : LAY S r) (h1 : 1 ≤ n) (h2 : n ≤ 20) (h3 : sd + n ≤ 10000) (w : WF B) (e74 : B 74 = nI T) (ym : YM B 75 L Y) (pg : PG (bn B 3) (ce B) L T Y) (hI0 : I0 70 = B)
    (hQ : FM' Q S I0 J0 r 0 1 (frT (mS Y L B sd Gs n) n).1 (frT (mS Y L B sd Gs n) n).2) : ∀ (j i : Nat) (I : XI) (w4 w6 : Value) (cu su : Nat), i + j = n → I 70 = B → (∀ k, k < 73 → I 71 k = B k) → ix I0 I → I 0 13 = I0 0 13 → I 65 0 = nI 0 → xrun z0 (xcall (d + 17)) Q 348 91 [.ref 65, .int (nI sd), .int (nI n), .long (lN (mS Y L B sd Gs i)), w4, .int (nI i), w6] [] S I J0 r cu su := by
  intro j
  induction j with
  | zero =>
    intro i I w4 w6 cu su hi e70 e71 k e0 e65
    have : i = n := by omega
    subst this
    have hm := mS_le (sd := sd) (Gs := Gs) w pg.wp pg.2.2.2.2 i
    refine K348_91 hL (yes (Int32.le_refl _) ?_)
    rw [nI_l (by omega)]
    refine r334 (d := d + 15) hL (by omega) (by omega) (by omega) (K348_182 ⟨Or.inr rfl, hQ I _ k e0 e65 (fun q q1 q2 => ?_) ?_ up_e⟩)
    · rw [up_o q2, up_o q2]
    · rw [up_i (by decide), up_e]; rfl
  | succ j ih =>
    intro i I w4 w6 cu su hi e70 e71 k e0 e65
    have hm := mS_le (sd := sd) (Gs := Gs) w pg.wp pg.2.2.2.2 i
    refine K348_91 hL (no (by rw [nI_leI (by omega) (by omega)]; omega) ?_)
    rw [nI_add]
    have s := yrun_s pg.wp 1000000 0 (Gs i) 0 0 (B, sd + i, 0, 0, 0) (Nat.zero_le _) w pg.2.2.2.2
    refine r339 (d := d) (B := B) (G := Gs i) hL e70 w pg e74 ym (by omega) ?_
    have hS : mS Y L B sd Gs (i + 1) = mS Y L B sd Gs i + tog (yrun Y L 1000000 0 (Gs i) 0 0 (B, sd + i, 0, 0, 0)).2.2.2.1 (bn B 3) := rfl
    have ih' := fun I w4 w6 cu su => ih (i + 1) I w4 w6 cu su (by omega)
    rw [hS] at ih'
    generalize yrun Y L 1000000 0 (Gs i) 0 0 (B, sd + i, 0, 0, 0) = R at *
    intro I1 f1 hc _ _ _ _ _
    have sn : bn R.2.2.2.1 3 = bn B 3 := s.n
    have k0 := k348b (d := d + 17) (Q := Q) (J := J0) (sd := sd) (n := n) (i := i) (s0 := mS Y L B sd Gs i) hL hc.1 s.1 (by omega) (fun cu su w4 => ?_) (bn R.2.2.2.1 3) 0 cu su w4 (Nat.zero_add _)
    · exact K348_105 k0
    rw [sn]
    refine k348c hL 73 0 _ _ I1 _ rfl (fun I2 w4 w6 g1 g2 g3 cu su => ?_)
    have r71 : ∀ k, k < 73 → I1 71 k = B k := fun k hk => by rw [f1.1 71 (by decide) (by decide) (by decide)]; exact e71 k hk
    have b70 : I2 70 = B := funext fun k => by
      by_cases hk : k < 73
      · rw [g3 k (Nat.zero_le _) hk, r71 k hk]
      · rw [g2 k (Or.inr (by omega)), hc.1]; exact s.2.2 k (by omega)
    refine ih' I2 w4 w6 cu su b70 (fun k hk => by rw [g1 71 (by decide)]; exact r71 k hk) (k.t (fun q p hs => ?_)) ?_ ?_
    · by_cases q70 : q = 70
      · subst q70; rw [b70, e70]
      · rw [g1 q q70]
        by_cases q65 : q = 65
        · subst q65
          refine f1.2 p (fun hp => ?_)
          have : p = 33 ∨ p = 34 ∨ p = 35 ∨ p = 36 ∨ p = 37 ∨ p = 38 ∨ p = 39 ∨ p = 40 := by omega
          rcases this with rfl | rfl | rfl | rfl | rfl | rfl | rfl | rfl <;> cases hs
        · have h73 : q ≠ 73 := fun e => by subst e; cases hs
          rw [f1.1 q q65 q70 h73]
    · rw [g1 0 (by decide), f1.1 0 (by decide) (by decide) (by decide)]; exact e0
    · rw [g1 65 (by decide), f1.2 0 (by decide)]; exact e65
theorem r348 {d : Nat} {Q : XQ} {S : XS} {I : XI} {J : XJ} {r : XR} {sd n L T : Nat} {Y : YY} {Gs : Nat → Nat → Int32} (hL : LAY S r) (h1 : 1 ≤ n) (h2 : n ≤ 20) (h3 : sd + n ≤ 10000) (w : WF (I 70)) (e73 : I 70 73 = 1) (e74 : I 70 74 = nI T) (ym : YM (I 70) 75 L Y) (pg : PG (bn (I 70) 3) (ce (I 70)) L T Y) (hQ : FM' Q S I J r 0 1 (frT (mS Y L (I 70) sd Gs n) n).1 (frT (mS Y L (I 70) sd Gs n) n).2) : xcall (d + 18) 348 [.ref 65, .int (nI sd), .int (nI n)] S I J r Q := by
  refine r348i (d := d + 16) hL h1 h2 h3 (fun _ w4 w5 w6 => k348a hL 73 0 0 0 (m2 I) _ _ _ rfl (fun I1 f1 f2 f3 cu su => ?_)) (fun e => by rw [e73] at e; cases e)
  have g70 : I1 70 = I 70 := f1 70 (by decide)
  have k0 : ix (m2 I) I1 := ix.of (P := fun q => q = 71) (fun q hq => f1 q hq) (fun q hq i => by subst hq; rfl)
  exact k348 (d := d) (Gs := Gs) hL h1 h2 h3 w e74 ym pg rfl hQ n 0 I1 _ _ cu su (by omega) g70 (fun k hk => f3 k (Nat.zero_le _) hk) ((m2.ix I).t k0) (by rw [f1 0 (by decide)]; rfl) (by rw [f1 65 (by decide)]; rfl)
