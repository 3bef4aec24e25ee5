/-! the law's cases: back -/
theorem CP.ye {I I' : XI} {J J' : XJ} {a b : Nat} {B : Nat → Int32} (h : CP I J I' J' a b) (y : YE I (b + 11) B) : YE I' (a + 11) B := by
  obtain ⟨_, _, _, _, _, _, ⟨e0, e1, e2⟩, h2⟩ := h
  rcases y with ⟨y0, b73⟩ | ⟨L, T, Y, ya, e73, e74, ym, pg⟩
  · exact Or.inl ⟨e0.trans y0, b73⟩
  · have hL := pg.2.1
    refine Or.inr ⟨L, T, Y, ⟨e0.trans ya.1, e1.trans ya.2.1, e2.trans ya.2.2.1, fun i hi f hf => ?_⟩, e73, e74, ym, pg⟩
    obtain ⟨x0, x1, x2, x3, x4, x5⟩ := h2 i (by omega)
    rw [← ya.2.2.2 i hi f hf]
    have : f = 0 ∨ f = 1 ∨ f = 2 ∨ f = 3 ∨ f = 4 ∨ f = 5 := by omega
    rcases this with rfl | rfl | rfl | rfl | rfl | rfl
    · exact x0
    · exact x1
    · exact x2
    · exact x3
    · exact x4
    · exact x5
theorem CP.cyr {I I' : XI} {J J' : XJ} {a b : Nat} {B : Nat → Int32} {W : Nat → Int64} (h : CP I J I' J' a b) (c : CYR I J b B W) : CYR I' J' a B W := ⟨h.cr c.1, h.ye c.2⟩
theorem CYR.h01 {I : XI} {J : XJ} {a : Nat} {B : Nat → Int32} {W : Nat → Int64} (c : CYR I J a B W) : I (a + 11) 0 = 0 ∨ I (a + 11) 0 = 1 := by
  rcases c.2 with ⟨h1, _⟩ | ⟨L, T, Y, h1, _⟩
  · exact Or.inl h1
  · exact Or.inr h1.1
theorem INV.back {S : XS} {I I1 I2 : XI} {J J1 J2 : XJ} {r : XR} {n m c : Nat} {F : Nat → Int32} (h : INV S I J r n F (m + 1) c) (cp : CP I J I1 J1 28 (76 + 18 * m)) (f1 : ∀ x k, ¬ (x = 70 ∧ k < 345) → I2 x k = m2 (up2 (up2 I1 0 11 (nI m)) 0 13 (nI 0)) x k) (f2 : ∀ k, k < 345 → I2 70 k = up2 (up2 I1 0 11 (nI m)) 0 13 (nI 0) 70 (345 * (m + 1) + k)) (f3 : ∀ x k, ¬ (x = 72 ∧ k < 6) → J2 x k = J1 x k) (f4 : ∀ k, k < 6 → J2 72 k = J1 72 (6 * (m + 1) + k)) : INV S (up2 I2 65 23 (nI m)) J2 r n F m c := by
  have hm := h.2.2.2.2.2.2.2.1
  have hc3 := h.1.2.1
  have g : ∀ x i, ¬ (28 ≤ x ∧ x ≤ 45) → ¬ (x = 70 ∧ i < 345) → ¬ (x = 0 ∧ (i = 11 ∨ i = 13)) → ¬ (x = 65 ∧ (i = 0 ∨ i = 1 ∨ i = 23)) → up2 I2 65 23 (nI m) x i = I x i := fun x i a b c d => by
    have e1 : up2 I2 65 23 (nI m) x i = I2 x i := by
      by_cases e : x = 65
      · subst e; rw [up_i (by omega)]
      · rw [up_o e]
    have e2 : m2 (up2 (up2 I1 0 11 (nI m)) 0 13 (nI 0)) x i = up2 (up2 I1 0 11 (nI m)) 0 13 (nI 0) x i := by
      show up2 (up2 _ 65 1 _) 65 0 _ x i = _
      by_cases e : x = 65
      · subst e; rw [up_i (by omega), up_i (by omega)]
      · rw [up_o e, up_o e]
    have e3 : up2 (up2 I1 0 11 (nI m)) 0 13 (nI 0) x i = I1 x i := by
      by_cases e : x = 0
      · subst e; rw [up_i (by omega), up_i (by omega)]
      · rw [up_o e, up_o e]
    rw [e1, f1 x i b, e2, e3, cp.1 x (by omega)]
  have k70 : ∀ k, k < 345 → up2 I2 65 23 (nI m) 70 k = I 70 (345 * (m + 1) + k) := fun k hk => by
    rw [up_o (by decide), f2 k hk, up_o (by decide), up_o (by decide), cp.1 70 (by decide)]
  have j72 : ∀ k, k < 6 → J2 72 k = J 72 (6 * (m + 1) + k) := fun k hk => by rw [f4 k hk, cp.2.1 72 (by decide)]
  have jo : ∀ x k, ¬ (x = 72 ∧ k < 6) → x ≠ 32 → J2 x k = J x k := fun x k a b => by rw [f3 x k a, cp.2.1 x b]
  have cm := cp.cyr (h.2.2.2.2.2.2.1.2.2 m (by omega))
  have c1 : CYR (up2 I2 65 23 (nI m)) J2 28 (up2 I2 65 23 (nI m) 70) (J2 72) := by
    refine cm.fr (fun q a b => funext fun i => ?_) (funext fun i => f3 32 i (by omega)) (fun i hi => k70 i hi) (fun k hk => j72 k hk)
    rw [up_o (by omega), f1 q i (by omega)]
    show up2 (up2 _ 65 1 _) 65 0 _ q i = _
    rw [up_o (by omega), up_o (by omega), up_o (by omega), up_o (by omega)]
  refine ⟨h.1, c1, h.tr.cg (fun q i hq => g q i (by omega) (by omega) (by omega) (by omega)) (fun q i hq => jo q i (by omega) (by omega)), h.tp.cg (g 0 12 (by omega) (by omega) (by omega) (by omega)) (fun i => g 11 i (by omega) (by omega) (by omega) (by omega)) (g 65 8 (by omega) (by omega) (by omega) (by omega)) (fun i => g 69 i (by omega) (by omega) (by omega) (by omega)), ⟨?_, ?_, ?_, ?_, ?_⟩, h.lv.cg (g 0 16 (by omega) (by omega) (by omega) (by omega)) (g 65 32 (by omega) (by omega) (by omega) (by omega)) (fun i => g 27 i (by omega) (by omega) (by omega) (by omega)) (fun i => g 75 i (by omega) (by omega) (by omega) (by omega)), ⟨?_, up_e, fun j hj => ?_⟩, by omega, fun q hq k => by
    have hl := h.1.2.2.1
    rw [g q k (by omega) (by omega) (by omega) (by omega), jo q k (by omega) (by omega)]
    exact h.2.2.2.2.2.2.2.2 q hq k⟩
  · rw [up_o (by decide), up_i (by decide), f1 0 13 (by omega), f1 65 0 (by omega)]
    rfl
  · rw [g 0 14 (by omega) (by omega) (by omega) (by omega), g 65 10 (by omega) (by omega) (by omega) (by omega)]; exact h.sf.2.1
  · rw [g 0 15 (by omega) (by omega) (by omega) (by omega), g 65 11 (by omega) (by omega) (by omega) (by omega)]; exact h.sf.2.2.1
  · rw [jo 1 0 (by omega) (by decide), jo 65 2 (by omega) (by decide)]; exact h.sf.2.2.2.1
  · rw [jo 1 1 (by omega) (by decide), jo 65 3 (by omega) (by decide)]; exact h.sf.2.2.2.2
  · rw [up_o (by decide), f1 0 11 (by omega)]
    rfl
  · exact (h.2.2.2.2.2.2.1.2.2 j (by omega)).fr (fun q a b => funext fun i => g q i (by omega) (by omega) (by omega) (by omega)) (funext fun i => jo _ i (by omega) (by omega)) (fun i hi => g 70 _ (by omega) (by omega) (by omega) (by omega)) (fun k hk => jo 72 _ (by omega) (by decide))
theorem LC188 {sc : Nat × (Nat → Int32)} {Q : XQ} {x3 : Int32} {cu su : Nat} {S : XS} {I : XI} {J : XJ} {r : XR} {n : Nat} {F : Nat → Int32} {m c : Nat} (h : INV S I J r n F m c) (v : ∀ i, i ≤ 5 → vp_in (x3 + nI i) sc.1) (K : KL sc Q x3 cu su) : xcall 100 188 [.ref 0] S I J r (fun v S1 I1 J1 r1 => xrun sc (xcall 100) Q 351 1932 [.retAddr 3000, .ref 0, .ref 65, .int x3] (v.toList ++ []) S1 I1 J1 r1 cu su) :=by
  have hm := h.2.2.2.2.2.2.2.1
  have hc3 := h.1.2.1
  cases m with
  | zero => exact c188n h.lay h.2.2.2.2.2.2.1.1 (K351_1932 h.lay (r350n h.lay h.2.2.2.2.2.2.1.2.1 (K351_1936 ⟨fun _ => K _ _ _ _ _ _ _ _ (h.e), fun g => absurd rfl g⟩)))
  | succ m =>
    have lm := h.1.2.2.2.1 m (by omega)
    refine c188 h.lay h.2.2.2.2.2.2.1.1 (by omega) lm.1 lm.2 (h.2.2.2.2.2.2.1.2.2 m (by omega)).h01 (by omega) (fun I1 J1 cp => K351_1932 h.lay ?_)
    refine r350 (m := m) h.lay ?_ (by omega) (fun I2 J2 f1 f2 f3 f4 => K351_1936 ⟨fun _ => K _ _ _ _ _ _ _ _ (h.back cp f1 f2 f3 f4), fun g => absurd rfl g⟩)
    rw [up_o (by decide), up_o (by decide), cp.1 65 (by decide)]
    exact h.2.2.2.2.2.2.1.2.1
