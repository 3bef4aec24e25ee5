/-! the mean -/
def mS (Y : YY) (L : Nat) (B : Nat → Int32) (sd : Nat) (Gs : Nat → Nat → Int32) : Nat → Nat
  | 0 => 0
  | i + 1 => mS Y L B sd Gs i + tog (yrun Y L 1000000 0 (Gs i) 0 0 (B, sd + i, 0, 0, 0)).2.2.2.1 (bn B 3)
theorem mS_cg {Y : YY} {L : Nat} {B : Nat → Int32} {sd : Nat} {Gs Gs' : Nat → Nat → Int32} : ∀ i, (∀ q, q < i → Gs' q = Gs q) → mS Y L B sd Gs' i = mS Y L B sd Gs i
  | 0, _ => rfl
  | i + 1, h => by rw [mS, mS, mS_cg i (fun q hq => h q (by omega)), h i (by omega)]
def FC' (Q : XQ) (S : XS) (I : XI) (J : XJ) (r : XR) (s : Nat) (v : Int32) (A D : Int64) : Prop := ∀ I' J', ix I I' → I' 0 13 = nI s → (∀ q, q ≠ 50 → q ≠ 1 → J' q = J q) → J' 1 0 = A → J' 1 1 = D → Q (some (.int v)) S I' J' r
theorem tog_le {B : Nat → Int32} (w : WF B) : ∀ n, n ≤ bn B 3 → tog B n ≤ 9 * n
  | 0, _ => Nat.le_refl _
  | n + 1, h => by
    have ih := tog_le w n (by omega)
    have := (w.tn (k := n) (by omega)).2
    rw [tog]; omega
theorem mS_le {Y : YY} {L sd : Nat} {B : Nat → Int32} {Gs : Nat → Nat → Int32} (w : WF B) (wp : WPr L Y) (va : VA (bn B 3) (ce B) L Y) : ∀ i, mS Y L B sd Gs i ≤ 54 * i
  | 0 => Nat.le_refl _
  | i + 1 => by
    have ih := mS_le (sd := sd) (Gs := Gs) w wp va i
    have s := yrun_s wp 1000000 0 (Gs i) 0 0 (B, sd + i, 0, 0, 0) (Nat.zero_le _) w va
    have hc := w.c.2
    have t := tog_le s.1 (bn B 3) (by rw [s.n]; exact Nat.le_refl _)
    rw [mS]
    omega
theorem okm {x y : Int32} (h : 1 ≤ y.toInt ∧ y.toInt ≤ 20 ∧ 0 ≤ x.toInt ∧ x.toInt + y.toInt ≤ 10000) : ∃ sd n : Nat, x = nI sd ∧ y = nI n ∧ 1 ≤ n ∧ n ≤ 20 ∧ sd + n ≤ 10000 := by
  rcases nI_cases x with q | ⟨sd, a1, a2, a3⟩
  · omega
  · rcases nI_cases y with q | ⟨n, b1, b2, b3⟩
    · omega
    · exact ⟨sd, n, a2, b2, by omega, by omega, by omega⟩
theorem c185b {d : Nat} {Q : XQ} {S : XS} {I : XI} {J : XJ} {r : XR} {x y : Int32} (hL : LAY S r) (hx : ¬ (1 ≤ y.toInt ∧ y.toInt ≤ 20 ∧ 0 ≤ x.toInt ∧ x.toInt + y.toInt ≤ 10000)) (hQ : Q (some (.int 0)) S (up2 I 0 13 (nI 5)) J r) : xcall (d + 2) 185 [.ref 0, .int x, .int y] S I J r Q := by
  have z20 : (nI 20).toInt = 20 := rfl
  have z1 : (nI 1).toInt = 1 := rfl
  have z0' : (nI 0).toInt = 0 := rfl
  have bad : ∀ w4 w5 : Value, xcall (d + 1) 19 [.ref 0, .int (nI 5)] S I J r (fun v S1 I1 J1 r1 => xrun z0 (xcall (d + 1)) Q 185 40 [.ref 0, .int x, .int y, .int (nI 0), w4, w5] (v.toList ++ []) S1 I1 J1 r1 0 0) := fun w4 w5 => E19 (d := d) hL (yes (by decide) (K185_40 ⟨Or.inl rfl, hQ⟩))
  refine E185 (c101 (d := d) (fun h1 h2 => ?_) (fun _ => K185_7 hL (yes rfl (nno rfl (bad _ _)))))
  rw [z20] at h2
  rw [z1] at h1
  obtain ⟨n, n1, n2, n3⟩ := i_in (x := y) (n := 21) (by omega) (by omega)
  refine K185_7 hL (no (by decide) (c101 (d := d) (fun h3 h4 => ?_) (fun _ => K185_22 hL (yes rfl (nno rfl (bad _ _))))))
  rw [z0'] at h3
  rw [n2, pk_sub (by omega), nI_add, i_toI (by omega)] at h4
  exact absurd ⟨h1, h2, h3, by omega⟩ hx
theorem c185i {d : Nat} {Q : XQ} {S : XS} {I : XI} {J : XJ} {r : XR} {sd n : Nat} (hL : LAY S r) (h1 : 1 ≤ n) (h2 : n ≤ 20) (h3 : sd + n ≤ 10000) (hy : (¬ I (28 + 11) 0 = 0 → ∀ w3, xrun z0 (xcall (d + 1)) Q 185 67 [.ref 0, .int (nI sd), .int (nI n), w3, .int (nI 0), .int (nI 0)] [] S I J r 0 0)) (hn : I (28 + 11) 0 = 0 → Q (some (.int 0)) S (up2 I 0 13 (nI 8)) J r) : xcall (d + 2) 185 [.ref 0, .int (nI sd), .int (nI n)] S I J r Q := by
  have z20 : (nI 20).toInt = 20 := rfl
  have z1 : (nI 1).toInt = 1 := rfl
  have z0' : (nI 0).toInt = 0 := rfl
  refine E185 (c101 (d := d) (fun _ _ => K185_7 hL (no (by decide) (c101 (d := d) (fun _ _ => K185_22 hL (no (by decide) (yes (by decide) ⟨fun e => hy e _, fun e => E19 (d := d) hL (yes (by decide) (K185_60 ⟨Or.inl rfl, hn (Classical.not_not.mp e)⟩))⟩))) (fun h => absurd ⟨?_, ?_⟩ h)))) (fun h => absurd ⟨?_, ?_⟩ h))
  · rw [z0', i_toI (by omega)]; omega
  · rw [pk_sub (by omega), nI_add, i_toI (by omega), i_toI (by omega)]; omega
  · rw [z1, i_toI (by omega)]; omega
  · rw [z20, i_toI (by omega)]; omega
theorem c185n {d : Nat} {Q : XQ} {S : XS} {I : XI} {J : XJ} {r : XR} {sd n : Nat} (hL : LAY S r) (h1 : 1 ≤ n) (h2 : n ≤ 20) (h3 : sd + n ≤ 10000) (hy : I 39 0 = 0) (hQ : Q (some (.int 0)) S (up2 I 0 13 (nI 8)) J r) : xcall (d + 2) 185 [.ref 0, .int (nI sd), .int (nI n)] S I J r Q :=
  c185i hL h1 h2 h3 (fun e => absurd hy e) (fun _ => hQ)
theorem k185 {d : Nat} {Q : XQ} {S : XS} {I0 : XI} {J0 : XJ} {r : XR} {sd n L T : Nat} {Y : YY} {B : Nat → Int32} {W : Nat → Int64} (hL : LAY S r) (h1 : 1 ≤ n) (h2 : n ≤ 20) (h3 : sd + n ≤ 10000) (c : CR I0 J0 28 B W) (y : YA I0 39 L T Y) (pg : PG (bn B 3) (ce B) L T Y)
    (hQ : ∀ Gs, FC' Q S I0 J0 r 0 1 (frT (mS Y L B sd Gs n) n).1 (frT (mS Y L B sd Gs n) n).2) : ∀ (j i : Nat) (Gs : Nat → Nat → Int32) (I : XI) (J : XJ) (w3 : Value) (cu su : Nat), i + j = n → ix I0 I → (∀ q, q ≠ 50 → J q = J0 q) → xrun z0 (xcall (d + 8)) Q 185 67 [.ref 0, .int (nI sd), .int (nI n), w3, .int (nI (mS Y L B sd Gs i)), .int (nI i)] [] S I J r cu su := by
  have w := c.wf
  intro j
  induction j with
  | zero =>
    intro i Gs I J w3 cu su hi k kj
    have : i = n := by omega
    subst this
    have hm := mS_le (sd := sd) (Gs := Gs) w pg.wp pg.2.2.2.2 i
    refine K185_67 hL (yes (Int32.le_refl _) ?_)
    rw [nI_l (by omega), nI_l (by omega)]
    refine c169 (d := d + 6) hL (by omega) (by omega) (by omega) (K185_129 hL (E19 (d := d + 7) hL (nno rfl (K185_134 ⟨Or.inr rfl, hQ Gs _ _ (k.u rfl) up_e (fun q q1 q2 => ?_) ?_ up_e⟩))))
    · rw [up_o q2, up_o q2]; exact kj q q1
    · rw [up_i (by decide), up_e]; rfl
  | succ j ih =>
    intro i Gs I J w3 cu su hi k kj
    have hm := mS_le (sd := sd) (Gs := Gs) w pg.wp pg.2.2.2.2 i
    have row : ∀ q, 27 < q → q < 46 → I q = I0 q := fun q q1 q2 => k.q q (fun i => by
      have : q = 28 ∨ q = 29 ∨ q = 30 ∨ q = 31 ∨ q = 32 ∨ q = 33 ∨ q = 34 ∨ q = 35 ∨ q = 36 ∨ q = 37 ∨ q = 38 ∨ q = 39 ∨ q = 40 ∨ q = 41 ∨ q = 42 ∨ q = 43 ∨ q = 44 ∨ q = 45 := by omega
      rcases this with rfl | rfl | rfl | rfl | rfl | rfl | rfl | rfl | rfl | rfl | rfl | rfl | rfl | rfl | rfl | rfl | rfl | rfl <;> rfl)
    have c1 : CR I J 28 B W := (c.fr (fun q q1 q2 => row q (by omega) (by omega))).j (by rw [kj 32 (by decide)])
    have y1 : YA I 39 L T Y := y.k (fun q q1 q2 => row q (by omega) (by omega))
    refine K185_67 hL (no (by rw [nI_leI (by omega) (by omega)]; omega) ?_)
    refine c80 (d := d + 5) (lay0_46 hL) (lay0_28 hL) (by decide) (Or.inr y1.1) (fun I1 J1 h => K185_84 hL ?_)
    rw [nI_add]
    have cr := h.cr c1
    have ly : LY I1 46 L Y := ⟨h.2.2.2.2.2.2.1.2.2.trans y1.2.2.1, fun q hq f hf => by
      have hh := h.2.2.2.2.2.2.2 q (by have := pg.2.1; omega)
      have yy := y1.2.2.2 q hq f hf
      rcases (by omega : f = 0 ∨ f = 1 ∨ f = 2 ∨ f = 3 ∨ f = 4 ∨ f = 5) with rfl | rfl | rfl | rfl | rfl | rfl
      · exact hh.1.trans yy
      · exact hh.2.1.trans yy
      · exact hh.2.2.1.trans yy
      · exact hh.2.2.2.1.trans yy
      · exact hh.2.2.2.2.1.trans yy
      · exact hh.2.2.2.2.2.trans yy⟩
    refine c174 (d := d) hL (lay0_46 hL) (Or.inr rfl) pg.2.1 pg.wp (by omega) cr ly pg.2.2.2.2 (fun I2 f2 h2' _ _ _ => K185_99 hL ?_)
    refine c186 (d := d + 7) (lay0_46 hL) h2'.1 (K185_108 ?_)
    have s := yrun_s pg.wp 1000000 0 (I1 26) 0 0 (B, sd + i, 0, 0, 0) (Nat.zero_le _) w pg.2.2.2.2
    have hn3 : bn (yrun Y L 1000000 0 (I1 26) 0 0 (B, sd + i, 0, 0, 0)).2.2.2.1 3 = bn B 3 := s.n
    rw [hn3, nI_add, nI_add]
    have hg := mS_cg (Y := Y) (L := L) (B := B) (sd := sd) (Gs := Gs) (Gs' := fun q => if q = i then I1 26 else Gs q) i (fun q hq => if_neg (by omega))
    have hg2 : mS Y L B sd (fun q => if q = i then I1 26 else Gs q) (i + 1) = mS Y L B sd Gs i + tog (yrun Y L 1000000 0 (I1 26) 0 0 (B, sd + i, 0, 0, 0)).2.2.2.1 (bn B 3) := by
      rw [mS, hg, if_pos rfl]
    rw [← hg2]
    refine ih (i + 1) (fun q => if q = i then I1 26 else Gs q) I2 J1 _ _ _ (by omega) (k.t (fun q p hs => ?_)) (fun q hq => (h.2.1 q hq).trans (kj q hq))
    have hrow : (q < 22 ∨ (26 < q ∧ q < 46) ∨ 46 + 10 < q) ∧ (q < 46 ∨ 46 + 17 < q) := by
      rcases (by omega : (q < 22 ∨ (26 < q ∧ q < 46) ∨ 63 < q) ∨ (22 ≤ q ∧ q ≤ 26) ∨ (46 ≤ q ∧ q ≤ 63)) with x | x | x
      · omega
      · have : q = 22 ∨ q = 23 ∨ q = 24 ∨ q = 25 ∨ q = 26 := by omega
        rcases this with rfl | rfl | rfl | rfl | rfl <;> cases hs
      · have : q = 46 ∨ q = 47 ∨ q = 48 ∨ q = 49 ∨ q = 50 ∨ q = 51 ∨ q = 52 ∨ q = 53 ∨ q = 54 ∨ q = 55 ∨ q = 56 ∨ q = 57 ∨ q = 58 ∨ q = 59 ∨ q = 60 ∨ q = 61 ∨ q = 62 ∨ q = 63 := by omega
        rcases this with rfl | rfl | rfl | rfl | rfl | rfl | rfl | rfl | rfl | rfl | rfl | rfl | rfl | rfl | rfl | rfl | rfl | rfl <;> cases hs
    rw [f2 q hrow.1, h.1 q hrow.2]
theorem c185 {d : Nat} {Q : XQ} {S : XS} {I : XI} {J : XJ} {r : XR} {sd n L T : Nat} {Y : YY} {B : Nat → Int32} {W : Nat → Int64} (hL : LAY S r) (h1 : 1 ≤ n) (h2 : n ≤ 20) (h3 : sd + n ≤ 10000) (c : CR I J 28 B W) (y : YA I 39 L T Y) (pg : PG (bn B 3) (ce B) L T Y) (hQ : ∀ Gs, FC' Q S I J r 0 1 (frT (mS Y L B sd Gs n) n).1 (frT (mS Y L B sd Gs n) n).2) : xcall (d + 9) 185 [.ref 0, .int (nI sd), .int (nI n)] S I J r Q :=
  c185i (d := d + 7) hL h1 h2 h3 (fun e w3 => k185 (d := d) hL h1 h2 h3 c y pg hQ n 0 (fun _ _ => 0) I J w3 0 0 (by omega) (ix.r I) (fun _ _ => rfl)) (fun e => by have : I (28 + 11) 0 = 1 := y.1; rw [this] at e; cases e)
