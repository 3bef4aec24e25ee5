/-! the tape -/
def bt4 (x : Int32) (k : Nat) : Int32 := (x >>> (nI k &&& 31)).toInt8.toInt32.toInt8.toInt32
def ap (F : Nat → Int32) (n : Nat) (v : Int32) : Nat → Int32 := fun i => if i = n then v else F i
def fd (F : Nat → Int32) (n : Nat) (x : Int32) : Nat → Int32 := ap (ap (ap (ap F n (bt4 x 24)) (n + 1) (bt4 x 16)) (n + 2) (bt4 x 8)) (n + 3) (bt4 x 0)
def TP (I : XI) (p q a : Nat) (n : Nat) (F : Nat → Int32) : Prop := I p q = nI n ∧ ∀ i, i < n → I a i = F i
/-- all but a word and a row -/
def fx (p q a : Nat) (I I' : XI) : Prop := ∀ x i, x ≠ a → ¬ (x = p ∧ i = q) → I' x i = I x i
theorem fx.r (p q a : Nat) (I : XI) : fx p q a I I := fun _ _ _ _ => rfl
theorem fx.t {p q a : Nat} {I I' I2 : XI} (h : fx p q a I I') (h2 : fx p q a I' I2) : fx p q a I I2 := fun x i h3 h4 => (h2 x i h3 h4).trans (h x i h3 h4)
theorem fx.p {p q a n : Nat} {v w : Int32} {I I' : XI} (h : fx p q a I I') : fx p q a I (up2 (up2 I' a n v) p q w) := fun x i h1 h2 => by
  by_cases e : x = p
  · subst e
    rw [up_i (fun e2 => h2 ⟨rfl, e2⟩), up_o h1]; exact h x i h1 h2
  · rw [up_o e, up_o h1]; exact h x i h1 h2
theorem TP.p {p q a n : Nat} {F : Nat → Int32} {v : Int32} {I : XI} (h : TP I p q a n F) (hp : p ≠ a) : TP (up2 (up2 I a n v) p q (up2 I a n v p q + nI 1)) p q a (n + 1) (ap F n v) := by
  refine ⟨?_, fun i hi => ?_⟩
  · rw [up_e, up_o hp, h.1, nI_add]
  · rw [up_o (fun e => hp e.symm)]
    unfold ap
    by_cases e : i = n
    · subst e; rw [up_e, if_pos rfl]
    · rw [up_i e, if_neg e]; exact h.2 i (by omega)
theorem c29 {d : Nat} {Q : XQ} {S : XS} {I : XI} {J : XJ} {r : XR} {n : Nat} {F : Nat → Int32} {x : Int32} (hL : LAY S r) (h : TP I 0 12 11 n F) (hn : n + 4 ≤ 900) (hQ : ∀ I', fx 0 12 11 I I' → TP I' 0 12 11 (n + 4) (fd F n x) → Q none S I' J r) : xcall (d + 1) 29 [.ref 0, .int x] S I J r Q := by
  have st : ∀ m G I1 k, TP I1 0 12 11 m G → m < 900 → (¬ nI k < 0) → xrun z0 (xcall d) Q 29 3 [.ref 0, .int x, .int (nI k + (-8 : Int32))] [] S (up2 (up2 I1 11 m (bt4 x k)) 0 12 (up2 I1 11 m (bt4 x k) 0 12 + nI 1)) J r 0 0 → xrun z0 (xcall d) Q 29 3 [.ref 0, .int x, .int (nI k)] [] S I1 J r 0 0 := fun m G I1 k hm h9 hk hK => by
    refine K29_3 hL (no hk ?_)
    rw [hm.1]
    refine no (by rw [nI_leI (by decide) (by omega)]; omega) ⟨vp_in_nI (by omega) (by decide), ?_⟩
    rw [nI_clamp (by omega)]
    exact hK
  have p1 := h.p (v := bt4 x 24) (by decide)
  have p2 := p1.p (v := bt4 x 16) (by decide)
  have p3 := p2.p (v := bt4 x 8) (by decide)
  have p4 := p3.p (v := bt4 x 0) (by decide)
  refine E29 (st n F I 24 h (by omega) (by decide) ?_)
  rw [show nI 24 + (-8 : Int32) = nI 16 from by decide]
  refine st _ _ _ 16 p1 (by omega) (by decide) ?_
  rw [show nI 16 + (-8 : Int32) = nI 8 from by decide]
  refine st _ _ _ 8 p2 (by omega) (by decide) ?_
  rw [show nI 8 + (-8 : Int32) = nI 0 from by decide]
  refine st _ _ _ 0 p3 (by omega) (by decide) ?_
  rw [show nI 0 + (-8 : Int32) = -8 from by decide]
  exact K29_3 hL (yes (by decide) (hQ _ ((((fx.r 0 12 11 I).p).p).p).p p4))
theorem r203 {d : Nat} {Q : XQ} {S : XS} {I : XI} {J : XJ} {r : XR} {n : Nat} {F : Nat → Int32} {x : Int32} (hL : LAY S r) (h : TP I 65 8 69 n F) (hn : n + 4 ≤ 900) (hQ : ∀ I', fx 65 8 69 I I' → TP I' 65 8 69 (n + 4) (fd F n x) → Q none S I' J r) : xcall (d + 1) 203 [.ref 65, .int x] S I J r Q := by
  have st : ∀ m G I1 k, TP I1 65 8 69 m G → m < 900 → k < 4 → xrun z0 (xcall d) Q 203 2 [.ref 65, .int x, .int (nI k + (-1 : Int32))] [] S (up2 (up2 I1 69 m (bt4 x (8 * k))) 65 8 (up2 I1 69 m (bt4 x (8 * k)) 65 8 + nI 1)) J r 0 0 → xrun z0 (xcall d) Q 203 2 [.ref 65, .int x, .int (nI k)] [] S I1 J r 0 0 := fun m G I1 k hm h9 hk hK => by
    refine K203_2 hL (no (nI_pos (by omega)) ?_)
    rw [hm.1, pk_mul]
    refine ⟨vp_in_nI (by omega) (by decide), ?_⟩
    rw [nI_clamp (by omega)]
    exact hK
  have p1 := h.p (v := bt4 x 24) (by decide)
  have p2 := p1.p (v := bt4 x 16) (by decide)
  have p3 := p2.p (v := bt4 x 8) (by decide)
  have p4 := p3.p (v := bt4 x 0) (by decide)
  refine E203 (st n F I 3 h (by omega) (by decide) ?_)
  rw [show nI 3 + (-1 : Int32) = nI 2 from by decide]
  refine st _ _ _ 2 p1 (by omega) (by decide) ?_
  rw [show nI 2 + (-1 : Int32) = nI 1 from by decide]
  refine st _ _ _ 1 p2 (by omega) (by decide) ?_
  rw [show nI 1 + (-1 : Int32) = nI 0 from by decide]
  refine st _ _ _ 0 p3 (by omega) (by decide) ?_
  rw [show nI 0 + (-1 : Int32) = -1 from by decide]
  exact K203_2 hL (yes (by decide) (hQ _ ((((fx.r 65 8 69 I).p).p).p).p p4))
def fd5 (F : Nat → Int32) (n : Nat) (a b c e f : Int32) : Nat → Int32 := fd (fd (fd (fd (fd F n a) (n + 4) b) (n + 8) c) (n + 12) e) (n + 16) f
theorem c28 {d : Nat} {Q : XQ} {S : XS} {I : XI} {J : XJ} {r : XR} {n : Nat} {F : Nat → Int32} {a b c e f : Int32} (hL : LAY S r) (h : TP I 0 12 11 n F) (hn : n ≤ 900) (h0 : 880 < n → Q (some (.int (-1))) S I J r) (h1 : n ≤ 880 → ∀ I', fx 0 12 11 I I' → TP I' 0 12 11 (n + 20) (fd5 F n a b c e f) → Q (some (.int (nI (n + 20)))) S I' J r) : xcall (d + 2) 28 [.ref 0, .int a, .int b, .int c, .int e, .int f] S I J r Q := by
  refine E28 hL ?_
  rw [h.1]
  by_cases q : n ≤ 880
  · refine yes (by rw [nI_leI (by omega) (by decide)]; exact q) (c29 hL h (by omega) (fun I1 g1 e1 => K28_17 hL (c29 hL e1 (by omega) (fun I2 g2 e2 => K28_22 hL (c29 hL e2 (by omega) (fun I3 g3 e3 => K28_27 hL (c29 hL e3 (by omega) (fun I4 g4 e4 => K28_33 hL (c29 hL e4 (by omega) (fun I5 g5 e5 => K28_39 hL ?_))))))))))
    rw [e5.1]
    exact h1 q I5 ((((g1.t g2).t g3).t g4).t g5) e5
  · exact no (by rw [nI_leI (by omega) (by decide)]; exact q) (h0 (by omega))
theorem r202 {d : Nat} {Q : XQ} {S : XS} {I : XI} {J : XJ} {r : XR} {n : Nat} {F : Nat → Int32} {a b c e f : Int32} (hL : LAY S r) (h : TP I 65 8 69 n F) (hn : n ≤ 900) (h0 : 880 < n → Q (some (.int (-1))) S (up2 I 65 1 (nI 0)) J r) (h1 : n ≤ 880 → ∀ I', fx 65 8 69 (up2 I 65 1 (nI 0)) I' → TP I' 65 8 69 (n + 20) (fd5 F n a b c e f) → Q (some (.int (nI (n + 20)))) S I' J r) : xcall (d + 2) 202 [.ref 65, .int a, .int b, .int c, .int e, .int f] S I J r Q := by
  have h' : TP (up2 I 65 1 (nI 0)) 65 8 69 n F := ⟨h.1, h.2⟩
  refine E202 hL ?_
  rw [up_i (by decide), h.1, nI_add]
  by_cases q : n ≤ 880
  · refine yes (by rw [nI_leI (by omega) (by decide)]; omega) (r203 hL h' (by omega) (fun I1 g1 e1 => K202_25 hL (r203 hL e1 (by omega) (fun I2 g2 e2 => K202_30 hL (r203 hL e2 (by omega) (fun I3 g3 e3 => K202_35 hL (r203 hL e3 (by omega) (fun I4 g4 e4 => K202_41 hL (r203 hL e4 (by omega) (fun I5 g5 e5 => K202_47 hL ?_))))))))))
    rw [e5.1]
    exact h1 q I5 ((((g1.t g2).t g3).t g4).t g5) e5
  · exact no (by rw [nI_leI (by omega) (by decide)]; omega) (h0 (by omega))
