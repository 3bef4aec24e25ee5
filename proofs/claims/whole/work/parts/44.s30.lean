/-! a coast copied -/
theorem cp_o {α : Type} {f : Nat → Nat → α} {a sp b dp n q : Nat} (h : q ≠ b) : cp2 f a sp b dp n q = f q := by funext y; unfold cp2; rw [if_neg h]
theorem cp_e {α : Type} {f : Nat → Nat → α} {a b n i : Nat} (h : i < n) : cp2 f a 0 b 0 n b i = f a i := by
  unfold cp2
  rw [if_pos rfl, if_pos ⟨Nat.zero_le _, by omega⟩, Nat.sub_zero, Nat.zero_add]
theorem c81 {d : Nat} {Q : XQ} {S : XS} {I : XI} {J : XJ} {r : XR} {t0 t1 n : Nat} (h0 : S[t0]? = some (100, n)) (h1 : S[t1]? = some (100, n)) (hn : n < 1000000) (hQ : Q none S (cp2 I t0 0 t1 0 n) J r) : xcall (d + 2) 81 [.ref t0, .ref t1] S I J r Q := by
  refine E81 h0 h1 (c34 (by omega) (by omega) (K81_11 h0 h1 ?_))
  rw [Nat.min_self]
  simp only [nI_clamp (n := 0) (by decide), nI_clamp (n := n) (by omega)]
  exact ⟨⟨by decide, by decide, nI_pos' (by omega), by omega, by omega⟩, hQ⟩
def CP (I : XI) (J : XJ) (I' : XI) (J' : XJ) (a b : Nat) : Prop :=
  (∀ q, (q < a ∨ a + 17 < q) → I' q = I q) ∧ (∀ q, q ≠ a + 4 → J' q = J q) ∧
  (I' a 0 = I b 0 ∧ I' a 1 = I b 1 ∧ I' a 2 = I b 2 ∧ I' a 3 = I b 3 ∧ I' a 7 = I b 7 ∧ I' a 15 = I b 15 ∧ I' a 16 = I b 16 ∧ I' a 17 = I b 17) ∧
  (∀ i, i < 15 → I' (a + 1) i = I (b + 1) i ∧ I' (a + 2) i = I (b + 2) i) ∧ (∀ i, i < 11 → I' (a + 3) i = I (b + 3) i) ∧
  (∀ i, i < 6 → J' (a + 4) i = J (b + 4) i ∧ I' (a + 5) i = I (b + 5) i ∧ I' (a + 6) i = I (b + 6) i ∧ I' (a + 7) i = I (b + 7) i ∧ I' (a + 8) i = I (b + 8) i ∧ I' (a + 9) i = I (b + 9) i ∧ I' (a + 10) i = I (b + 10) i) ∧
  (I' (a + 11) 0 = I (b + 11) 0 ∧ I' (a + 11) 1 = I (b + 11) 1 ∧ I' (a + 11) 2 = I (b + 11) 2) ∧
  (∀ i, i < 60 → I' (a + 12) i = I (b + 12) i ∧ I' (a + 13) i = I (b + 13) i ∧ I' (a + 14) i = I (b + 14) i ∧ I' (a + 15) i = I (b + 15) i ∧ I' (a + 16) i = I (b + 16) i ∧ I' (a + 17) i = I (b + 17) i)
theorem c82 {d : Nat} {Q : XQ} {S : XS} {I : XI} {J : XJ} {r : XR} {y z : Nat} (h0 : LY7 S r y) (h1 : LY7 S r z) (hyz : y + 6 < z ∨ z + 6 < y) (h01 : I z 0 = 0 ∨ I z 0 = 1)
    (hQ : ∀ I', (∀ q, (q < y ∨ y + 6 < q) → I' q = I q) → (I' y 0 = I z 0 ∧ I' y 1 = I z 1 ∧ I' y 2 = I z 2) → (∀ i, i < 60 → I' (y + 1) i = I (z + 1) i ∧ I' (y + 2) i = I (z + 2) i ∧ I' (y + 3) i = I (z + 3) i ∧ I' (y + 4) i = I (z + 4) i ∧ I' (y + 5) i = I (z + 5) i ∧ I' (y + 6) i = I (z + 6) i) → Q none S I' J r) : xcall (d + 1) 82 [.ref y, .ref z] S I J r Q := by
  refine E82 h0 h1 ⟨h01, hQ _ (fun q hq => ?_) ⟨?_, ?_, ?_⟩ (fun i hi => ⟨?_, ?_, ?_, ?_, ?_, ?_⟩)⟩
  all_goals simp (disch := omega) only [cp_o, cp_e, up_o, up_i, up_e]
theorem c80 {d : Nat} {Q : XQ} {S : XS} {I : XI} {J : XJ} {r : XR} {a b : Nat} (h0 : LY0 S r a) (h1 : LY0 S r b) (hab : a + 17 < b ∨ b + 17 < a) (h01 : I (b + 11) 0 = 0 ∨ I (b + 11) 0 = 1) (hQ : ∀ I' J', CP I J I' J' a b → Q none S I' J' r) : xcall (d + 3) 80 [.ref a, .ref b] S I J r Q := by
  refine E80 h0 h1 (c81 (LY0.s4 h1) (LY0.s4 h0) (by decide) (K80_43 h0 h1 (c81 (LY0.s5 h1) (LY0.s5 h0) (by decide) (K80_54 h0 h1 (c81 (LY0.s6 h1) (LY0.s6 h0) (by decide) (K80_65 h0 h1 (c81 (LY0.s9 h1) (LY0.s9 h0) (by decide) (K80_102 h0 h1 (c81 (LY0.s10 h1) (LY0.s10 h0) (by decide) (K80_113 h0 h1 (c81 (LY0.s11 h1) (LY0.s11 h0) (by decide) (K80_124 h0 h1 (c81 (LY0.s12 h1) (LY0.s12 h0) (by decide) (K80_135 h0 h1 (c81 (LY0.s13 h1) (LY0.s13 h0) (by decide) (K80_146 h0 h1 (c81 (LY0.s14 h1) (LY0.s14 h0) (by decide) (K80_157 h0 h1 (c82 (LY0.l18 h0) (LY0.l18 h1) (by omega) ?_ (fun I' g e e2 => K80_192 (hQ I' _ ⟨fun q hq => ?_, fun q hq => ?_, ?_, fun i hi => ?_, fun i hi => ?_, fun i hi => ?_, ?_, fun i hi => ?_⟩)))))))))))))))))))))
  · simp (disch := omega) only [cp_o, cp_e, up_o, up_i, up_e]
    exact h01
  · rw [g q (by omega)]
    simp (disch := omega) only [cp_o, cp_e, up_o, up_i, up_e]
  · exact cp_o hq
  · rw [g a (by omega)]
    refine ⟨?_, ?_, ?_, ?_, ?_, ?_, ?_, ?_⟩
    all_goals simp (disch := omega) only [cp_o, cp_e, up_o, up_i, up_e]
  · rw [g _ (by omega), g _ (by omega)]
    refine ⟨?_, ?_⟩
    all_goals simp (disch := omega) only [cp_o, cp_e, up_o, up_i, up_e]
  · rw [g _ (by omega)]
    simp (disch := omega) only [cp_o, cp_e, up_o, up_i, up_e]
  · rw [g _ (by omega), g _ (by omega), g _ (by omega), g _ (by omega), g _ (by omega), g _ (by omega)]
    refine ⟨?_, ?_, ?_, ?_, ?_, ?_, ?_⟩
    all_goals simp (disch := omega) only [cp_o, cp_e, up_o, up_i, up_e]
  · refine ⟨e.1.trans ?_, e.2.1.trans ?_, e.2.2.trans ?_⟩
    all_goals simp (disch := omega) only [cp_o, cp_e, up_o, up_i, up_e]
  · obtain ⟨x1, x2, x3, x4, x5, x6⟩ := e2 i hi
    refine ⟨x1.trans ?_, x2.trans ?_, x3.trans ?_, x4.trans ?_, x5.trans ?_, x6.trans ?_⟩
    all_goals simp (disch := omega) only [cp_o, cp_e, up_o, up_i, up_e, Nat.add_assoc]
theorem CP.cr {I I' : XI} {J J' : XJ} {a b : Nat} {B : Nat → Int32} {W : Nat → Int64} (h : CP I J I' J' a b) (c : CR I J b B W) : CR I' J' a B W := by
  have hr := c.wf.r.2
  have hc := c.wf.c.2
  obtain ⟨_, _, ⟨e0, e1, e2, e3, e7, e15, e16, e17⟩, h1, h2, h3, _, _⟩ := h
  obtain ⟨b0, b1, b4, b2, b3, bv, b5, b6⟩ := c.2.1
  refine ⟨c.wf, ⟨e0.trans b0, e1.trans b1, e2.trans b4, e3.trans b2, e7.trans b3, e15.trans bv, e16.trans b5, e17.trans b6⟩, fun i hi => ?_, fun t ht => (h2 t ht).trans (c.2.2.2.1 t ht), fun k hk => ?_⟩
  · have x := h1 i (by omega)
    have y := c.2.2.1 i hi
    exact ⟨x.1.trans y.1, x.2.trans y.2⟩
  · obtain ⟨x1, x2, x3, x4, x5, x6, x7⟩ := h3 k (by omega)
    obtain ⟨y1, y2, y3, y4, y5, y6, y7⟩ := c.2.2.2.2 k hk
    exact ⟨x1.trans y1, x2.trans y2, x3.trans y3, x4.trans y4, x5.trans y5, x6.trans y6, x7.trans y7⟩
