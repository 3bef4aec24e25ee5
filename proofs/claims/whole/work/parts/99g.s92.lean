/-! the law's cases: texts, Living, back -/
theorem inr {x : Int32} {n N : Nat} (e : x = nI n) (h : n ≤ N) (hN : N ≤ 900) : 0 ≤ x.toInt ∧ x.toInt ≤ N := by
  subst e
  rw [i_toI (by omega)]
  omega
theorem inu {x : Int32} {n n' : Nat} (e : x = nI n) (e2 : x = nI n') (h : n ≤ 900) (h2 : n' ≤ 900) : n' = n := by
  have : nI n' = nI n := e2.symm.trans e
  exact (nI_eqI (by omega) (by omega)).mp this
theorem ke.tp {I I1 : XI} {n : Nat} {F : Nat → Int32} (h : TPS I n F) (k : ∀ q i, scr q i = false → q = 65 ∨ q = 69 → I1 q i = I q i) : TP I1 65 8 69 n F := h.2.1.cg (k 65 8 rfl (Or.inl rfl)) (fun i => k 69 i rfl (Or.inr rfl))
theorem LC30 {sc : Nat × (Nat → Int32)} {Q : XQ} {x3 : Int32} {cu su : Nat} {S : XS} {I : XI} {J : XJ} {r : XR} {n : Nat} {F : Nat → Int32} {m c : Nat} (h : INV S I J r n F m c) (v : ∀ i, i ≤ 5 → vp_in (x3 + nI i) sc.1) (K : KL sc Q x3 cu su) : xcall 100 30 [.ref 0, .int (sc.2 ((x3 + (nI 1))).toNatClampNeg)] S I J r (fun v S1 I1 J1 r1 => xrun sc (xcall 100) Q 351 582 [.retAddr 3000, .ref 0, .ref 65, .int x3] (v.toList ++ []) S1 I1 J1 r1 cu su) :=by
  have hN := h.tp.2.2.1
  refine c30 h.lay h.tp.1 hN (fun hx => K351_582 h.lay ⟨v 1 (by decide), r205 h.lay (h.tp.2.1.cg rfl (fun _ => rfl)) hN h.tp.2.2.2 (fun _ => K351_591 ⟨fun _ => K _ _ _ _ _ _ _ _ (h.e), fun g => absurd rfl g⟩) (fun n' e a b => absurd (inr a b hN) hx) (fun n' B W a b => absurd (inr a b hN) hx)⟩) (fun n1 e1 a1 b1 p1 I1 J1 k1 j1 f1 => K351_582 h.lay ⟨v 1 (by decide), ?_⟩) (fun n1 B W a1 b1 p1 I1 J1 k1 j1 f1 c1 y1 => K351_582 h.lay ⟨v 1 (by decide), ?_⟩)
  · refine r205 h.lay (ke.tp h.tp (fun q i a b => k1 q i a (by omega))) hN h.tp.2.2.2 (fun hx => absurd (inr a1 b1 hN) hx) (fun n2 e2 a2 b2 p2 I2 J2 k2 j2 g2 => ?_) (fun n2 B W a2 b2 p2 I2 J2 k2 j2 g2 hb hw w => ?_)
    · have e := inu a1 a2 (by omega) (by omega)
      subst e
      rw [p1] at p2
      obtain rfl := Except.error.inj p2
      exact K351_591 ⟨fun _ => K _ _ _ _ _ _ _ _ (h.er k1 (fun q a b _ => j1 q a b) f1 k2 j2 g2), fun g => absurd rfl g⟩
    · have e := inu a1 a2 (by omega) (by omega)
      subst e
      rw [p1] at p2
      cases p2
  · refine r205 h.lay (ke.tp h.tp (fun q i a b => k1 q i a (by omega) (by omega))) hN h.tp.2.2.2 (fun hx => absurd (inr a1 b1 hN) hx) (fun n2 e2 a2 b2 p2 I2 J2 k2 j2 g2 => ?_) (fun n2 B2 W2 a2 b2 p2 I2 J2 k2 j2 g2 hb hw w => ?_)
    · have e := inu a1 a2 (by omega) (by omega)
      subst e
      rw [p1] at p2
      cases p2
    · have e := inu a1 a2 (by omega) (by omega)
      subst e
      rw [p1] at p2
      obtain ⟨rfl, rfl⟩ := Prod.mk.inj (Except.ok.inj p2)
      exact K351_591 ⟨fun _ => K _ _ _ _ _ _ _ _ (h.co p1 k1 j1 f1 c1 y1.1 k2 j2 g2 hb hw), fun g => absurd rfl g⟩
theorem LC84 {sc : Nat × (Nat → Int32)} {Q : XQ} {x3 : Int32} {cu su : Nat} {S : XS} {I : XI} {J : XJ} {r : XR} {n : Nat} {F : Nat → Int32} {m c : Nat} (h : INV S I J r n F m c) (v : ∀ i, i ≤ 5 → vp_in (x3 + nI i) sc.1) (K : KL sc Q x3 cu su) : xcall 100 84 [.ref 0, .int (sc.2 ((x3 + (nI 1))).toNatClampNeg)] S I J r (fun v S1 I1 J1 r1 => xrun sc (xcall 100) Q 351 605 [.retAddr 3000, .ref 0, .ref 65, .int x3] (v.toList ++ []) S1 I1 J1 r1 cu su) :=by
  have hN := h.tp.2.2.1
  have iy : ∀ {x : Int32} {n1 : Nat}, x = nI n1 → n1 ≤ n → n1 ≤ 300 → 0 ≤ x.toInt ∧ x.toInt ≤ n ∧ x.toInt ≤ 300 := fun e a b => ⟨(inr e a hN).1, (inr e a hN).2, (inr e b (by decide)).2⟩
  refine c84 h.lay h.tp.1 hN h.cr (fun hx => K351_605 h.lay ⟨v 1 (by decide), r254 (B := I 70) (W := J 72) h.lay (h.tp.2.1.cg rfl (fun _ => rfl)) hN h.tp.2.2.2 h.wf (fun _ _ => rfl) (fun _ _ => rfl) (fun _ => K351_614 ⟨fun _ => K _ _ _ _ _ _ _ _ (h.e), fun g => absurd rfl g⟩) (fun n' e a b c => absurd (iy a b c) hx) (fun n' L T Y P a b c => absurd (iy a b c) hx)⟩) (fun n1 e1 a1 b1 c1 p1 I1 J1 k1 j1 f1 => K351_605 h.lay ⟨v 1 (by decide), ?_⟩) (fun n1 L T Y a1 b1 c1 p1 I1 J1 k1 j1 f1 ya hl => K351_605 h.lay ⟨v 1 (by decide), ?_⟩)
  · refine r254 (B := I 70) (W := J 72) h.lay (ke.tp h.tp (fun q i a b => k1 q i a (by omega))) hN h.tp.2.2.2 h.wf (fun i _ => k1 70 i rfl (by omega)) (fun k _ => by rw [j1 72 (by decide)]) (fun hx => absurd (iy a1 b1 c1) hx) (fun n2 e2 a2 b2 c2 p2 I2 J2 k2 j2 g2 => ?_) (fun n2 L T Y P a2 b2 c2 p2 I2 J2 k2 j2 g2 e73 e74 ym iv => ?_)
    · have e := inu a1 a2 (by omega) (by omega)
      subst e
      rw [p1] at p2
      obtain rfl := Except.error.inj p2
      exact K351_614 ⟨fun _ => K _ _ _ _ _ _ _ _ (h.er k1 (fun q _ _ c => j1 q c) f1 k2 (fun x i a _ => j2 x i a) g2), fun g => absurd rfl g⟩
    · have e := inu a1 a2 (by omega) (by omega)
      subst e
      rw [p1] at p2
      cases p2
  · refine r254 (B := I 70) (W := J 72) h.lay (ke.tp h.tp (fun q i a b => k1 q i a (by omega) (by omega))) hN h.tp.2.2.2 h.wf (fun i _ => k1 70 i rfl (by omega) (by omega)) (fun k _ => by rw [j1 72 (by decide)]) (fun hx => absurd (iy a1 b1 c1) hx) (fun n2 e2 a2 b2 c2 p2 I2 J2 k2 j2 g2 => ?_) (fun n2 L2 T2 Y2 P a2 b2 c2 p2 I2 J2 k2 j2 g2 e73 e74 ym iv => ?_)
    · have e := inu a1 a2 (by omega) (by omega)
      subst e
      rw [p1] at p2
      cases p2
    · have e := inu a1 a2 (by omega) (by omega)
      subst e
      rw [p1] at p2
      have q := Except.ok.inj p2
      obtain ⟨rfl, q2⟩ := Prod.mk.inj q
      obtain ⟨rfl, rfl⟩ := Prod.mk.inj q2
      exact K351_614 ⟨fun _ => K _ _ _ _ _ _ _ _ (h.ye p1 k1 j1 f1 ya k2 j2 g2 e73 e74 ym), fun g => absurd rfl g⟩
theorem kl.b {I I' : XI} (h : kl I I') : I' 70 = I 70 := funext fun i => h 70 i rfl (by omega) (by decide) (by omega)
/-- a life lived on both sides -/
theorem INV.li {S : XS} {I I1 I2 : XI} {J : XJ} {r : XR} {n : Nat} {F : Nat → Int32} {m c : Nat} {R : YT} (h : INV S I J r n F m c) (k1 : kl I I1) (c1 : CR I1 J 28 R.2.2.2.1 (J 72)) (l1 : kL5 I1 27 R) (a1 : I1 0 16 = 1) (b1 : I1 0 13 = nI 0) (k2 : km I1 I2) (e70 : I2 70 = R.2.2.2.1) (l2 : kL5 I2 75 R) (a2 : I2 65 32 = 1) (b2 : I2 65 0 = nI 0) (sm : smc (I 70) (I2 70)) (e13 : I2 0 13 = I1 0 13) : INV S I2 J r n F m c := by
  have f : ∀ q i, scr q i = false → ¬ (28 ≤ q ∧ q ≤ 38) → q ≠ 27 → ¬ (q = 0 ∧ i = 16) → q ≠ 70 → q ≠ 75 → ¬ (q = 65 ∧ i = 32) → I2 q i = I q i := fun q i a b d e x y z => (k2 q i a x y z).trans (k1 q i a b d e)
  rw [← e70] at c1
  refine h.go ⟨c1.frJ (fun q a b => funext fun i => k2 q i (scr_c (by omega) (by omega)) (by omega) (by omega) (by omega)) rfl, (h.2.1.2.kp3 (fun j a _ => sm.2.2 j a) (sm.2.1 0 (by decide) (by decide) (by decide)) (sm.2.1 1 (by decide) (by decide) (by decide)) (Nat.le_of_eq sm.n.symm)).fr (fun q a b => funext fun i => f q i (scr_c (by omega) (by omega)) (by omega) (by omega) (by omega) (by omega) (by omega) (by omega))⟩ (h.tr.cg (fun q i hq => f q i (by rcases hq with rfl | rfl | rfl | rfl <;> rfl) (by omega) (by omega) (by omega) (by omega) (by omega) (by omega)) (fun _ _ _ => rfl)) (h.tp.cg (f 0 12 rfl (by omega) (by decide) (by omega) (by decide) (by decide) (by omega)) (fun i => f 11 i rfl (by omega) (by decide) (by omega) (by decide) (by decide) (by omega)) (f 65 8 rfl (by omega) (by decide) (by omega) (by decide) (by decide) (by omega)) (fun i => f 69 i rfl (by omega) (by decide) (by omega) (by decide) (by decide) (by omega))) ⟨(e13.trans b1).trans b2.symm, ?_, ?_, h.sf.2.2.2.1, h.sf.2.2.2.2⟩ ⟨?_, ?_⟩ ⟨f 0 11 rfl (by omega) (by decide) (by omega) (by decide) (by decide) (by omega), f 65 23 rfl (by omega) (by decide) (by omega) (by decide) (by decide) (by omega), fun q hq => ⟨funext fun i => f q i (scr_hi hq) (by omega) (by omega) (by omega) (by omega) (by omega) (by omega), rfl⟩, fun k a b => sm.2.2 k (by omega), fun _ _ _ => rfl⟩
  · rw [f 0 14 rfl (by omega) (by decide) (by omega) (by decide) (by decide) (by omega), f 65 10 rfl (by omega) (by decide) (by omega) (by decide) (by decide) (by omega)]; exact h.sf.2.1
  · rw [f 0 15 rfl (by omega) (by decide) (by omega) (by decide) (by decide) (by omega), f 65 11 rfl (by omega) (by decide) (by omega) (by decide) (by decide) (by omega)]; exact h.sf.2.2.1
  · rw [k2 0 16 rfl (by decide) (by decide) (by omega), a1, a2]
  · intro i hi
    rw [k2 27 i rfl (by decide) (by decide) (by omega)]
    obtain ⟨x0, x1, x2, x3, x4⟩ := l1
    obtain ⟨z0, z1, z2, z3, z4⟩ := l2
    have : i = 0 ∨ i = 1 ∨ i = 2 ∨ i = 3 ∨ i = 4 := by omega
    rcases this with rfl | rfl | rfl | rfl | rfl
    · rw [x0, z0]
    · rw [x1, z1]
    · rw [x2, z2]
    · rw [x3, z3]
    · rw [x4, z4]
theorem LC173 {sc : Nat × (Nat → Int32)} {Q : XQ} {x3 : Int32} {cu su : Nat} {S : XS} {I : XI} {J : XJ} {r : XR} {n : Nat} {F : Nat → Int32} {m c : Nat} (h : INV S I J r n F m c) (v : ∀ i, i ≤ 5 → vp_in (x3 + nI i) sc.1) (K : KL sc Q x3 cu su) : xcall 100 173 [.ref 0, .int (sc.2 ((x3 + (nI 1))).toNatClampNeg)] S I J r (fun v S1 I1 J1 r1 => xrun sc (xcall 100) Q 351 1845 [.retAddr 3000, .ref 0, .ref 65, .int x3] (v.toList ++ []) S1 I1 J1 r1 cu su) :=by
  by_cases hx : 0 ≤ (sc.2 (x3 + nI 1).toNatClampNeg).toInt ∧ (sc.2 (x3 + nI 1).toNatClampNeg).toInt ≤ 9999
  · obtain ⟨sd, s1, s2, _⟩ := i_in (x := sc.2 (x3 + nI 1).toNatClampNeg) (n := 10000) hx.1 (by omega)
    rw [s2]
    rcases h.2.1.2 with ⟨y0, b73⟩ | ⟨L, T, Y, ya, e73, e74, ym, pg⟩
    · refine c173n h.lay (by omega) y0 (K351_1845 h.lay ⟨v 1 (by decide), ?_⟩)
      rw [s2]
      exact r338n h.lay (by omega) b73 (K351_1854 ⟨fun _ => K _ _ _ _ _ _ _ _ (h.e), fun g => absurd rfl g⟩)
    · refine c173 h.lay (by omega) h.cr ya pg (fun I1 k1 c1 l1 a1 b1 => K351_1845 h.lay ⟨v 1 (by decide), ?_⟩)
      rw [s2]
      have sm := yrun_s (L := L) (Y := Y) pg.wp 1000000 0 (I 26) 0 0 (I 70, sd, 0, 0, 0) (Nat.zero_le _) h.wf pg.2.2.2.2
      refine r338 (G := I 26) h.lay (by omega) (by rw [k1.b]; exact h.wf) (by rw [k1.b]; exact e73) (by rw [k1.b]; exact e74) (by rw [k1.b]; exact ym) (by rw [k1.b]; exact pg) (fun I2 k2 z1 z2 z3 z4 z5 z6 => ?_) (by rw [k1.b]; exact sm)
      rw [k1.b] at z1 z2 z5 ⊢
      exact K351_1854 ⟨fun _ => K _ _ _ _ _ _ _ _ (h.li k1 c1 l1 a1 b1 k2 z1 z2 z3 z4 z5 z6), fun g => absurd rfl g⟩
  · exact c173b h.lay hx (K351_1845 h.lay ⟨v 1 (by decide), r338b h.lay hx (K351_1854 ⟨fun _ => K _ _ _ _ _ _ _ _ (h.e), fun g => absurd rfl g⟩)⟩)
theorem LC185 {sc : Nat × (Nat → Int32)} {Q : XQ} {x3 : Int32} {cu su : Nat} {S : XS} {I : XI} {J : XJ} {r : XR} {n : Nat} {F : Nat → Int32} {m c : Nat} (h : INV S I J r n F m c) (v : ∀ i, i ≤ 5 → vp_in (x3 + nI i) sc.1) (K : KL sc Q x3 cu su) : xcall 100 185 [.ref 0, .int (sc.2 ((x3 + (nI 1))).toNatClampNeg), .int (sc.2 ((x3 + (nI 2))).toNatClampNeg)] S I J r (fun v S1 I1 J1 r1 => xrun sc (xcall 100) Q 351 1896 [.retAddr 3000, .ref 0, .ref 65, .int x3] (v.toList ++ []) S1 I1 J1 r1 cu su) :=by
  by_cases hx : 1 ≤ (sc.2 (x3 + nI 2).toNatClampNeg).toInt ∧ (sc.2 (x3 + nI 2).toNatClampNeg).toInt ≤ 20 ∧ 0 ≤ (sc.2 (x3 + nI 1).toNatClampNeg).toInt ∧ (sc.2 (x3 + nI 1).toNatClampNeg).toInt + (sc.2 (x3 + nI 2).toNatClampNeg).toInt ≤ 10000
  · obtain ⟨sd, n1, s1, s2, n2, n3, n4⟩ := okm hx
    rw [s1, s2]
    rcases h.2.1.2 with ⟨y0, b73⟩ | ⟨L, T, Y, ya, e73, e74, ym, pg⟩
    · refine c185n h.lay n2 n3 n4 y0 (K351_1896 h.lay ⟨v 1 (by decide), v 2 (by decide), ?_⟩)
      rw [s1, s2]
      exact r348n h.lay n2 n3 n4 b73 (K351_1910 ⟨fun _ => K _ _ _ _ _ _ _ _ (h.e), fun g => absurd rfl g⟩)
    · refine c185 h.lay n2 n3 n4 h.cr ya pg (fun Gs I1 J1 h1 e1 j1 a1 b1 => K351_1896 h.lay ⟨v 1 (by decide), v 2 (by decide), ?_⟩)
      rw [s1, s2]
      refine r348 (Gs := Gs) h.lay n2 n3 n4 (by rw [h1.b]; exact h.wf) (by rw [h1.b]; exact e73) (by rw [h1.b]; exact e74) (by rw [h1.b]; exact ym) (by rw [h1.b]; exact pg) ?_
      rw [h1.b]
      exact fun I2 J2 h2 e2 e3 j2 a2 b2 => K351_1910 ⟨fun _ => K _ _ _ _ _ _ _ _ (h.qj h1 e1 h2 e2 e3 (fun q i hq => by rw [j2 q (by omega) (by omega), j1 q (by omega) (by omega)]) ⟨by rw [j2 1 (by decide) (by decide)]; exact a1.trans a2.symm, by rw [j2 1 (by decide) (by decide)]; exact b1.trans b2.symm⟩), fun g => absurd rfl g⟩
  · exact c185b h.lay hx (K351_1896 h.lay ⟨v 1 (by decide), v 2 (by decide), r348b h.lay hx (K351_1910 ⟨fun _ => K _ _ _ _ _ _ _ _ (h.e), fun g => absurd rfl g⟩)⟩)
