/-! what holds between two calls of the law -/
def LM (S : XS) (r : XR) (c : Nat) : Prop := LAY S r ∧ c ≤ 3 ∧ S.length = 76 + 18 * c ∧ (∀ j, j < c → r 64 j = some (76 + 18 * j) ∧ LY0 S r (76 + 18 * j)) ∧ ∀ j, c ≤ j → j < 3 → r 64 j = none
def TPS (I : XI) (n : Nat) (F : Nat → Int32) : Prop := TP I 0 12 11 n F ∧ TP I 65 8 69 n F ∧ n ≤ 900 ∧ ∀ i, i < n → -128 ≤ (F i).toInt ∧ (F i).toInt ≤ 127
def SF (I : XI) (J : XJ) : Prop := I 0 13 = I 65 0 ∧ I 0 14 = I 65 10 ∧ I 0 15 = I 65 11 ∧ J 1 0 = J 65 2 ∧ J 1 1 = J 65 3
def LV (I : XI) : Prop := I 0 16 = I 65 32 ∧ ∀ i, i < 5 → I 27 i = I 75 i
def MKS (I : XI) (J : XJ) (m : Nat) : Prop := I 0 11 = nI m ∧ I 65 23 = nI m ∧ ∀ j, j < m → CYR I J (76 + 18 * j) (fun i => I 70 (345 * (j + 1) + i)) (fun k => J 72 (6 * (j + 1) + k))
def ZH (S : XS) (I : XI) (J : XJ) (r : XR) : Prop := ∀ q, S.length ≤ q → ∀ k, I q k = 0 ∧ J q k = 0 ∧ r q k = none
def INV (S : XS) (I : XI) (J : XJ) (r : XR) (n : Nat) (F : Nat → Int32) (m c : Nat) : Prop :=
  LM S r c ∧ CYR I J 28 (I 70) (J 72) ∧ TR I J ∧ TPS I n F ∧ SF I J ∧ LV I ∧ MKS I J m ∧ m ≤ c ∧ ZH S I J r
theorem INV.lay {S : XS} {I : XI} {J : XJ} {r : XR} {n : Nat} {F : Nat → Int32} {m c : Nat} (h : INV S I J r n F m c) : LAY S r := h.1.1
theorem INV.cr {S : XS} {I : XI} {J : XJ} {r : XR} {n : Nat} {F : Nat → Int32} {m c : Nat} (h : INV S I J r n F m c) : CR I J 28 (I 70) (J 72) := h.2.1.1
theorem INV.wf {S : XS} {I : XI} {J : XJ} {r : XR} {n : Nat} {F : Nat → Int32} {m c : Nat} (h : INV S I J r n F m c) : WF (I 70) := h.2.1.1.1
theorem INV.tr {S : XS} {I : XI} {J : XJ} {r : XR} {n : Nat} {F : Nat → Int32} {m c : Nat} (h : INV S I J r n F m c) : TR I J := h.2.2.1
theorem INV.tp {S : XS} {I : XI} {J : XJ} {r : XR} {n : Nat} {F : Nat → Int32} {m c : Nat} (h : INV S I J r n F m c) : TPS I n F := h.2.2.2.1
theorem INV.sf {S : XS} {I : XI} {J : XJ} {r : XR} {n : Nat} {F : Nat → Int32} {m c : Nat} (h : INV S I J r n F m c) : SF I J := h.2.2.2.2.1
theorem INV.lv {S : XS} {I : XI} {J : XJ} {r : XR} {n : Nat} {F : Nat → Int32} {m c : Nat} (h : INV S I J r n F m c) : LV I := h.2.2.2.2.2.1
theorem INV.h01 {S : XS} {I : XI} {J : XJ} {r : XR} {n : Nat} {F : Nat → Int32} {m c : Nat} (h : INV S I J r n F m c) : I 39 0 = 0 ∨ I 39 0 = 1 := by
  rcases h.2.1.2 with ⟨h1, _⟩ | ⟨L, T, Y, h1, _⟩
  · exact Or.inl h1
  · exact Or.inr h1.1
/-- what the marks stand on -/
def mkf (I I' : XI) (J J' : XJ) : Prop := I' 0 11 = I 0 11 ∧ I' 65 23 = I 65 23 ∧ (∀ q, 76 ≤ q → I' q = I q ∧ J' q = J q) ∧ (∀ k, 345 ≤ k → k < 1380 → I' 70 k = I 70 k) ∧ ∀ k, 6 ≤ k → k < 24 → J' 72 k = J 72 k
theorem mkf.t {I I' I2 : XI} {J J' J2 : XJ} (h : mkf I I' J J') (h2 : mkf I' I2 J' J2) : mkf I I2 J J2 := ⟨h2.1.trans h.1, h2.2.1.trans h.2.1, fun q hq => ⟨(h2.2.2.1 q hq).1.trans (h.2.2.1 q hq).1, (h2.2.2.1 q hq).2.trans (h.2.2.1 q hq).2⟩, fun k a b => (h2.2.2.2.1 k a b).trans (h.2.2.2.1 k a b), fun k a b => (h2.2.2.2.2 k a b).trans (h.2.2.2.2 k a b)⟩
theorem MKS.k {I I' : XI} {J J' : XJ} {m : Nat} (h : MKS I J m) (hm : m ≤ 3) (k : mkf I I' J J') : MKS I' J' m := by
  obtain ⟨k1, k2, k3, k4, k5⟩ := k
  refine ⟨k1.trans h.1, k2.trans h.2.1, fun j hj => (h.2.2 j hj).fr (fun q a b => (k3 q (by omega)).1) (k3 _ (by omega)).2 (fun i hi => k4 _ (by omega) (by omega)) (fun k hk => k5 _ (by omega) (by omega))⟩
theorem INV.go {S : XS} {I I' : XI} {J J' : XJ} {r : XR} {n n' : Nat} {F F' : Nat → Int32} {m c : Nat} (h : INV S I J r n F m c) (hc : CYR I' J' 28 (I' 70) (J' 72)) (ht : TR I' J') (tp : TPS I' n' F') (sf : SF I' J') (lv : LV I') (k : mkf I I' J J') : INV S I' J' r n' F' m c :=
  ⟨h.1, hc, ht, tp, sf, lv, h.2.2.2.2.2.2.1.k (Nat.le_trans h.2.2.2.2.2.2.2.1 h.1.2.1) k, h.2.2.2.2.2.2.2.1, fun q hq i => by
    have hl := h.1.2.2.1
    have e := k.2.2.1 q (by omega)
    rw [e.1, e.2]
    exact h.2.2.2.2.2.2.2.2 q hq i⟩
theorem TR.cg {I I' : XI} {J J' : XJ} (h : TR I J) (hi : ∀ q i, q = 9 ∨ q = 10 ∨ q = 66 ∨ q = 67 → I' q i = I q i) (hj : ∀ q i, (5 ≤ q ∧ q ≤ 8) ∨ q = 68 → J' q i = J q i) : TR I' J' := fun t ht => by
  rw [hi 66 t (by decide), hi 9 t (by decide), hi 10 t (by decide), hi 67 t (by decide)]
  refine ⟨(h t ht).1, (h t ht).2.1, (h t ht).2.2.1, fun i hi => ?_⟩
  rw [hj (5 + t) i (by omega), hj 68 _ (by decide)]
  exact (h t ht).2.2.2 i hi
theorem TP.cg {I I' : XI} {p q a n : Nat} {F : Nat → Int32} (h : TP I p q a n F) (h1 : I' p q = I p q) (h2 : ∀ i, I' a i = I a i) : TP I' p q a n F := ⟨h1.trans h.1, fun i hi => (h2 i).trans (h.2 i hi)⟩
theorem TPS.cg {I I' : XI} {n : Nat} {F : Nat → Int32} (h : TPS I n F) (h1 : I' 0 12 = I 0 12) (h2 : ∀ i, I' 11 i = I 11 i) (h3 : I' 65 8 = I 65 8) (h4 : ∀ i, I' 69 i = I 69 i) : TPS I' n F := ⟨h.1.cg h1 h2, h.2.1.cg h3 h4, h.2.2⟩
theorem LV.cg {I I' : XI} (h : LV I) (h1 : I' 0 16 = I 0 16) (h2 : I' 65 32 = I 65 32) (h3 : ∀ i, I' 27 i = I 27 i) (h4 : ∀ i, I' 75 i = I 75 i) : LV I' := ⟨by rw [h1, h2]; exact h.1, fun i hi => by rw [h3, h4]; exact h.2 i hi⟩
/-- long rows that a call may leave otherwise -/
def jx (J J' : XJ) : Prop := ∀ q i, ¬ (q = 1 ∨ q = 2 ∨ (12 ≤ q ∧ q ≤ 26) ∨ (46 ≤ q ∧ q ≤ 63) ∨ q = 65 ∨ q = 74 ∨ (q = 72 ∧ 24 ≤ i)) → J' q i = J q i
theorem jx.r (J : XJ) : jx J J := fun _ _ _ => rfl
theorem jx.t {J J' J2 : XJ} (h : jx J J') (h2 : jx J' J2) : jx J J2 := fun q i hq => (h2 q i hq).trans (h q i hq)
theorem scr_hi {q i : Nat} (h : 76 ≤ q) : scr q i = false := by
  have h0 : (q == 0) = false := beq_false_of_ne (by omega)
  have h1 : (q == 65) = false := beq_false_of_ne (by omega)
  have h2 : Nat.ble q 26 = false := by rw [← Bool.not_eq_true, Nat.ble_eq]; omega
  have h3 : Nat.ble q 63 = false := by rw [← Bool.not_eq_true, Nat.ble_eq]; omega
  have h4 : (q == 71) = false := beq_false_of_ne (by omega)
  have h5 : (q == 73) = false := beq_false_of_ne (by omega)
  unfold scr
  rw [h0, h1, h2, h3, h4, h5]
  simp
theorem ix.mk {I I' : XI} {J J' : XJ} (h : ix I I') (hj : jx J J') : mkf I I' J J' := ⟨h 0 11 rfl, h 65 23 rfl, fun q hq => ⟨funext fun i => h q i (scr_hi hq), funext fun i => hj q i (by omega)⟩, fun k _ _ => h 70 k rfl, fun k _ _ => hj 72 k (by omega)⟩
theorem CYR.ixj {I I' : XI} {J J' : XJ} (c : CYR I J 28 (I 70) (J 72)) (h : ∀ q i, scr q i = false → 28 ≤ q ∧ q ≤ 45 → I' q i = I q i) (hj : jx J J') (hb : ∀ i, I' 70 i = I 70 i) : CYR I' J' 28 (I' 70) (J' 72) := by
  refine c.fr (fun q a b => funext fun i => h q i ?_ ⟨a, b⟩) (funext fun i => hj 32 i (by omega)) (fun i _ => hb i) (fun k hk => hj 72 k (by omega))
  have : q = 28 ∨ q = 29 ∨ q = 30 ∨ q = 31 ∨ q = 32 ∨ q = 33 ∨ q = 34 ∨ q = 35 ∨ q = 36 ∨ q = 37 ∨ q = 38 ∨ q = 39 ∨ q = 40 ∨ q = 41 ∨ q = 42 ∨ q = 43 ∨ q = 44 ∨ q = 45 := by omega
  rcases this with rfl | rfl | rfl | rfl | rfl | rfl | rfl | rfl | rfl | rfl | rfl | rfl | rfl | rfl | rfl | rfl | rfl | rfl <;> rfl
theorem tr_ixj {I I' : XI} {J J' : XJ} (t : TR I J) (h : ix I I') (hj : jx J J') : TR I' J' := t.cg (fun q i hq => h q i (by rcases hq with rfl | rfl | rfl | rfl <;> rfl)) (fun q i hq => hj q i (by omega))
theorem INV.fr {S : XS} {I I' : XI} {J J' : XJ} {r : XR} {n : Nat} {F : Nat → Int32} {m c : Nat} (h : INV S I J r n F m c) (hi : ix I I') (hj : jx J J') (sf : SF I' J') : INV S I' J' r n F m c :=
  h.go (h.2.1.ixj (fun q i hs _ => hi q i hs) hj (fun i => hi 70 i rfl)) (tr_ixj h.tr hi hj) (h.tp.cg (hi 0 12 rfl) (fun i => hi 11 i rfl) (hi 65 8 rfl) (fun i => hi 69 i rfl)) sf (h.lv.cg (hi 0 16 rfl) (hi 65 32 rfl) (fun i => hi 27 i rfl) (fun i => hi 75 i rfl)) (hi.mk hj)
theorem SF.s {I I' : XI} {J J' : XJ} {s : Nat} (h : SF I J) (hi : ix I I') (e1 : I' 0 13 = nI s) (e2 : I' 65 0 = nI s) (f : J' 1 0 = J' 65 2 ∧ J' 1 1 = J' 65 3) : SF I' J' := ⟨e1.trans e2.symm, by rw [hi 0 14 rfl, hi 65 10 rfl]; exact h.2.1, by rw [hi 0 15 rfl, hi 65 11 rfl]; exact h.2.2.1, f.1, f.2⟩
theorem INV.qj {S : XS} {I I1 I2 : XI} {J J2 : XJ} {r : XR} {n s : Nat} {F : Nat → Int32} {m c : Nat} (h : INV S I J r n F m c) (h1 : ix I I1) (e1 : I1 0 13 = nI s) (h2 : ix I1 I2) (e2 : I2 0 13 = I1 0 13) (e3 : I2 65 0 = nI s) (hj : jx J J2) (f : J2 1 0 = J2 65 2 ∧ J2 1 1 = J2 65 3) : INV S I2 J2 r n F m c :=
  h.fr (h1.t h2) hj (h.sf.s (h1.t h2) (e2.trans e1) e3 f)
theorem INV.q {S : XS} {I I1 I2 : XI} {J : XJ} {r : XR} {n s : Nat} {F : Nat → Int32} {m c : Nat} (h : INV S I J r n F m c) (h1 : ix I I1) (e1 : I1 0 13 = nI s) (h2 : ix I1 I2) (e2 : I2 0 13 = I1 0 13) (e3 : I2 65 0 = nI s) : INV S I2 J r n F m c := h.qj h1 e1 h2 e2 e3 (jx.r J) h.sf.2.2.2
/-- after an action of both -/
theorem INV.ab {S : XS} {I I1 I2 : XI} {J J1 J2 : XJ} {r : XR} {n s : Nat} {F B : Nat → Int32} {m c : Nat} (h : INV S I J r n F m c) (c1 : CR I1 J1 28 B (J2 72)) (h1 : ixc I I1) (e1 : I1 0 13 = nI s) (j1 : ∀ q, q ≠ 32 → J1 q = J q) (b : I2 70 = B) (h2 : ixm I1 I2) (e2 : I2 0 13 = I1 0 13) (e3 : I2 65 0 = nI s) (j2 : ∀ q, q ≠ 72 → J2 q = J1 q) (kp : kpB (I 70) B) (kw : ∀ k, 6 ≤ k → J2 72 k = J 72 k) : INV S I2 J2 r n F m c := by
  have f : ∀ q i, scr q i = false → (q < 28 ∨ 38 < q) → q ≠ 70 → I2 q i = I q i := fun q i a1 a2 a3 => (h2 q i a1 a3).trans (h1 q i a1 a2)
  have g : ∀ q, q ≠ 32 → q ≠ 72 → J2 q = J q := fun q a1 a2 => (j2 q a2).trans (j1 q a1)
  subst b
  refine h.go ⟨c1.frJ (fun q a b => funext fun i => h2 q i ?_ (by omega)) (j2 _ (by decide)), (h.2.1.2.kp kp).fr (fun q a b => funext fun i => f q i ?_ (by omega) (by omega))⟩ (h.tr.cg (fun q i hq => f q i (by rcases hq with rfl | rfl | rfl | rfl <;> rfl) (by omega) (by omega)) (fun q i hq => by rw [g q (by omega) (by omega)])) (h.tp.cg (f 0 12 rfl (by decide) (by decide)) (fun i => f 11 i rfl (by decide) (by decide)) (f 65 8 rfl (by decide) (by decide)) (fun i => f 69 i rfl (by decide) (by decide))) ⟨?_, ?_, ?_, ?_, ?_⟩ (h.lv.cg (f 0 16 rfl (by decide) (by decide)) (f 65 32 rfl (by decide) (by decide)) (fun i => f 27 i rfl (by decide) (by decide)) (fun i => f 75 i rfl (by decide) (by decide))) ⟨f 0 11 rfl (by decide) (by decide), f 65 23 rfl (by decide) (by decide), fun q hq => ⟨funext fun i => f q i (scr_hi hq) (by omega) (by omega), g q (by omega) (by omega)⟩, fun k a b => kp.1 k (by omega) b, fun k a _ => kw k a⟩
  · have : q = 28 ∨ q = 29 ∨ q = 30 ∨ q = 31 ∨ q = 32 ∨ q = 33 ∨ q = 34 ∨ q = 35 ∨ q = 36 ∨ q = 37 ∨ q = 38 := by omega
    rcases this with rfl | rfl | rfl | rfl | rfl | rfl | rfl | rfl | rfl | rfl | rfl <;> rfl
  · have : q = 39 ∨ q = 40 ∨ q = 41 ∨ q = 42 ∨ q = 43 ∨ q = 44 ∨ q = 45 := by omega
    rcases this with rfl | rfl | rfl | rfl | rfl | rfl | rfl <;> rfl
  · rw [e2, e1, e3]
  · rw [f 0 14 rfl (by decide) (by decide), f 65 10 rfl (by decide) (by decide)]; exact h.sf.2.1
  · rw [f 0 15 rfl (by decide) (by decide), f 65 11 rfl (by decide) (by decide)]; exact h.sf.2.2.1
  · rw [g 1 (by decide) (by decide), g 65 (by decide) (by decide)]; exact h.sf.2.2.2.1
  · rw [g 1 (by decide) (by decide), g 65 (by decide) (by decide)]; exact h.sf.2.2.2.2
theorem ixc.b {I I' : XI} (h : ixc I I') : I' 70 = I 70 := funext fun i => h 70 i rfl (by decide)
