/-! mark -/
theorem LY0.mono {S S' : XS} {r r' : XR} {a : Nat} (h : LY0 S r a) (hS : ∀ (q : Nat) (x : Nat × Nat), S[q]? = some x → S'[q]? = some x) (h0 : r' a = r a) (h1 : r' (a + 11) = r (a + 11)) : LY0 S' r' a := by
  obtain ⟨a0, a1, a2, a3, a4, a5, a6, a7, a8, a9, a10, a11, a12, a13, a14, a15, a16, a17, a18, a19, a20, a21, b0, b1, b2, b3, b4, b5, b6, b7, b8, b9, b10, b11, b12⟩ := h
  refine ⟨hS _ _ a0, by rw [h0]; exact a1, hS _ _ a2, by rw [h0]; exact a3, hS _ _ a4, by rw [h0]; exact a5, hS _ _ a6, by rw [h0]; exact a7, hS _ _ a8, by rw [h0]; exact a9, hS _ _ a10, by rw [h0]; exact a11, hS _ _ a12, by rw [h0]; exact a13, hS _ _ a14, by rw [h0]; exact a15, hS _ _ a16, by rw [h0]; exact a17, hS _ _ a18, by rw [h0]; exact a19, hS _ _ a20, by rw [h0]; exact a21, hS _ _ b0, by rw [h1]; exact b1, hS _ _ b2, by rw [h1]; exact b3, hS _ _ b4, by rw [h1]; exact b5, hS _ _ b6, by rw [h1]; exact b7, hS _ _ b8, by rw [h1]; exact b9, hS _ _ b10, by rw [h1]; exact b11, hS _ _ b12⟩
theorem r0l_lt : r0l.all (fun x => Nat.blt x.1 76 && !(x.1 == 64)) = true := by decide
theorem LAY.mono {S S' : XS} {r r' : XR} (h : LAY S r) (hS : ∀ (q : Nat) (x : Nat × Nat), S[q]? = some x → S'[q]? = some x) (hr : ∀ q, q < 76 → q ≠ 64 → r' q = r q) : LAY S' r' := by
  refine ⟨fun q x e => hS q x (h.1 q x e), fun i x e => ?_⟩
  have hx := List.all_eq_true.mp r0l_lt x (List.mem_of_getElem? e)
  rw [Bool.and_eq_true] at hx
  have h1 : x.1 < 76 := by simpa using hx.1
  have h2 : x.1 ≠ 64 := by
    have := hx.2
    simp at this
    exact this
  rw [hr x.1 h1 h2]
  exact h.2 i x e
theorem RS9_o {r : XR} {p q : Nat} (h1 : q ≠ p) (h2 : q ≠ p + 11) : RS9 r p q = r q := by
  simp (disch := omega) only [RS9, RS10, up_o]
theorem c187n {d : Nat} {Q : XQ} {S : XS} {I : XI} {J : XJ} {r : XR} (hL : LAY S r) (h : I 0 11 = nI 3) (hQ : Q (some (.int (-1))) S (up2 I 0 13 (nI 7)) J r) : xcall (d + 2) 187 [.ref 0] S I J r Q := by
  refine xc_b [.ref 0] rfl rfl rfl (xr_b q187_0 rfl (i_6 rfl (i_42 (hL.s 0 (9, 0) rfl) (i_0 (i_6 rfl (i_44 64 (hL.s 0 (9, 0) rfl) (hL.r 63 0 10 64 rfl) (i_32 (hL.s 64 (103, 3) rfl) (by decide) (i_0 (i_11_1 (i_48s (as := [.int (I 0 11), .int (nI 0), .int (nI 3 - nI 1)]) [] rfl rfl rfl rfl ?_))))))))))
  rw [h]
  exact c101 (d := d) (fun _ h2 => absurd h2 (by decide)) (fun _ => xr_b q187_15 rfl (i_22_1 (fun c => absurd rfl c) (fun _ => i_6 rfl (i_0 (i_48v (as := [.ref 0, .int (nI 7)]) [] rfl rfl rfl rfl rfl (hL.s 0 (9, 0) rfl) (E31 (d := d) hL (xr_b q187_24 rfl (i_27_0 hQ))))))))
theorem k187 {d : Nat} {Q : XQ} {S : XS} {I : XI} {J : XJ} {r : XR} {m am cu su : Nat} (hL : LAY S r) (h : I 0 11 = nI m) (hm : m < 3) (hr : r 64 m = some am) (hA : LY0 S r am) (h01 : I 39 0 = 0 ∨ I 39 0 = 1) (ha : 45 < am) (hQ : ∀ I' J', CP I J I' J' am 28 → Q (some (.int (nI (m + 1)))) S (up2 (up2 I' 0 11 (nI (m + 1))) 0 13 (nI 0)) J' r) : xrun z0 (xcall (d + 3)) Q 187 53 [.ref 0] [] S I J r cu su := by
  refine xr_b q187_53 rfl (i_6 rfl (i_44 64 (hL.s 0 (9, 0) rfl) (hL.r 63 0 10 64 rfl) (i_6 rfl (i_42 (hL.s 0 (9, 0) rfl) ?_))))
  rw [h]
  refine i_39 (hL.s 64 (103, 3) rfl) (vp_in_nI (by omega) (by decide)) (i_24 ?_)
  rw [nI_clamp (by omega), hr]
  refine xr_b q187_62 rfl (i_6 rfl (i_44 28 (hL.s 0 (9, 0) rfl) (hL.r 44 0 8 28 rfl) (i_48v (as := [.ref am, .ref 28]) [] rfl rfl rfl rfl rfl hA.o (c80 (d := d) hA (lay0_28 hL) (Or.inr (by omega)) h01 (fun I' J' cp => ?_)))))
  refine xr_b q187_69 rfl (i_6 rfl (i_19 rfl (i_42 (hL.s 0 (9, 0) rfl) (i_0 (i_11_0 (i_45 (hL.s 0 (9, 0) rfl) (i_6 rfl (i_6 rfl (i_42 (hL.s 0 (9, 0) rfl) ?_)))))))))
  have e : I' 0 11 = nI m := by rw [cp.1 0 (by omega)]; exact h
  rw [up_e, e, show nI m + 1 = nI (m + 1) from nI_add m 1]
  exact i_48v (as := [.ref 0, .int (nI (m + 1))]) [] rfl rfl rfl rfl rfl (hL.s 0 (9, 0) rfl) (E83 (d := d + 2) hL (xr_b q187_87 rfl (i_27_0 (hQ I' J' cp))))
/-- mark: the kept coast is there, or made -/
theorem c187 {d : Nat} {Q : XQ} {S : XS} {I : XI} {J : XJ} {r : XR} {m : Nat} (hL : LAY S r) (h : I 0 11 = nI m) (hm : m < 3)
    (h1 : ∀ am, r 64 m = some am → xrun z0 (xcall (d + 3)) Q 187 53 [.ref 0] [] S I J r 0 0)
    (h2 : r 64 m = none → xrun z0 (xcall (d + 3)) Q 187 34 [.ref 0] [.null] S I J r 0 0) : xcall (d + 4) 187 [.ref 0] S I J r Q := by
  have z3 : (nI 3 - nI 1).toInt = 2 := rfl
  have z0' : (nI 0).toInt = 0 := rfl
  have zm : (nI m).toInt = m := i_toI (by omega)
  refine xc_b [.ref 0] rfl rfl rfl (xr_b q187_0 rfl (i_6 rfl (i_42 (hL.s 0 (9, 0) rfl) (i_0 (i_6 rfl (i_44 64 (hL.s 0 (9, 0) rfl) (hL.r 63 0 10 64 rfl) (i_32 (hL.s 64 (103, 3) rfl) (by decide) (i_0 (i_11_1 (i_48s (as := [.int (I 0 11), .int (nI 0), .int (nI 3 - nI 1)]) [] rfl rfl rfl rfl ?_))))))))))
  rw [h]
  refine c101 (d := d + 2) (fun _ _ => xr_b q187_15 rfl (i_22_1 (fun _ => ?_) (fun c => absurd (by decide) c))) (fun g => absurd ⟨by rw [z0', zm]; omega, by rw [z3, zm]; omega⟩ g)
  refine xr_b q187_25 rfl (i_6 rfl (i_44 64 (hL.s 0 (9, 0) rfl) (hL.r 63 0 10 64 rfl) (i_6 rfl (i_42 (hL.s 0 (9, 0) rfl) ?_))))
  rw [h]
  refine i_39 (hL.s 64 (103, 3) rfl) (vp_in_nI (by omega) (by decide)) (i_24 ?_)
  rw [nI_clamp (by omega)]
  cases e : r 64 m with
  | none => exact h2 e
  | some am => exact xr_b q187_34 rfl (i_25_1R (h1 am e))
theorem c187m {d : Nat} {Q : XQ} {S : XS} {I : XI} {J : XJ} {r : XR} {m p : Nat} (hL : LAY S r) (h : I 0 11 = nI m) (hm : m < 3) (hp : S.length = p) (hp76 : 76 ≤ p) (zh : ZH S I J r) (h01 : I 39 0 = 0 ∨ I 39 0 = 1)
    (hQ : ∀ I1 I' J', (∀ x, x ≠ p → x ≠ p + 3 → x ≠ p + 11 → I1 x = I x) → (ES9 (S ++ [(0, 0)])).length = p + 18 → LY0 (ES9 (S ++ [(0, 0)])) (up2 (RS9 r p) 64 m (some p)) p → LAY (ES9 (S ++ [(0, 0)])) (up2 (RS9 r p) 64 m (some p)) → CP I1 J I' J' p 28 → Q (some (.int (nI (m + 1)))) (ES9 (S ++ [(0, 0)])) (up2 (up2 I' 0 11 (nI (m + 1))) 0 13 (nI 0)) J' (up2 (RS9 r p) 64 m (some p))) : xrun z0 (xcall (d + 3)) Q 187 34 [.ref 0] [.null] S I J r 0 0 := by
  have hp1 := lA (E := [(0, 0)]) (n := 1) (q := p + 1) hp rfl rfl
  refine xr_b q187_34 rfl (i_25_1N (i_6 rfl (i_44 64 (hL.s 0 (9, 0) rfl) (hL.r 63 0 10 64 rfl) (i_6 rfl (i_42 (hL.s 0 (9, 0) rfl) ?_)))))
  rw [h]
  refine a28 p hp zh rfl rfl ?_
  refine i_19 rfl ?_
  refine i_55 (as := [.ref p]) [.ref p, .int (nI m), .ref 64] rfl rfl rfl rfl rfl (sN' (i := 0) hp rfl) (by decide) (by decide) ?_
  refine z9 (d := d) (a := p) hp1 (sN' (i := 0) hp rfl) (zh.a _) (fun I1 f1 c1 hl zq ly => ?_)
  have hL2 : LAY (ES9 (S ++ [(0, 0)])) (up2 (RS9 r p) 64 m (some p)) := hL.mono (fun q x e => ES9_s (sA e)) (fun q h1 h2 => by rw [up_o h2, RS9_o (by omega) (by omega)])
  have ly2 : LY0 (ES9 (S ++ [(0, 0)])) (up2 (RS9 r p) 64 m (some p)) p := ly.mono (fun q x e => e) (up_o (by omega)) (up_o (by omega))
  refine xr_b q187_52 rfl (i_40 (ES9_s (sA (hL.s 64 (103, 3) rfl))) ly.o (vp_in_nI (by omega) (by decide)) (i_24 ?_))
  rw [nI_clamp (by omega)]
  exact k187 (d := d) hL2 (by rw [f1 0 (by omega) (by omega) (by omega)]; exact h) hm up_e ly2 (by rw [f1 39 (by omega) (by omega) (by omega)]; exact h01) (by omega) (fun I' J' cp => hQ I1 I' J' f1 hl ly2 hL2 cp)
theorem INV.mark {S S' : XS} {I I1 I2 I3 : XI} {J J2 J3 : XJ} {r r' : XR} {n m c c' : Nat} {F : Nat → Int32} (h : INV S I J r n F m c) (hm : m < 3) (lm : LM S' r' c') (hmc : m + 1 ≤ c') (g1 : ∀ x, x < 76 + 18 * m ∨ 76 + 18 * m + 17 < x → I1 x = I x) (zr : ZH S' I J r') (cp : CP I1 J I2 J2 (76 + 18 * m) 28)
    (f1 : ∀ x k, ¬ (x = 70 ∧ 345 * (m + 1) ≤ k ∧ k < 345 * (m + 1) + 345) → I3 x k = up2 (m2 (up2 (up2 I2 0 11 (nI (m + 1))) 0 13 (nI 0))) 65 23 (nI (m + 1)) x k) (f2 : ∀ k, k < 345 → I3 70 (345 * (m + 1) + k) = up2 (up2 I2 0 11 (nI (m + 1))) 0 13 (nI 0) 70 k) (f3 : ∀ x k, ¬ (x = 72 ∧ 6 * (m + 1) ≤ k ∧ k < 6 * (m + 1) + 6) → J3 x k = J2 x k) (f4 : ∀ k, k < 6 → J3 72 (6 * (m + 1) + k) = J2 72 k) : INV S' I3 J3 r' n F (m + 1) c' := by
  have hl := lm.2.2.1
  have k1 : ∀ x i, ¬ (x = 70 ∧ 345 * (m + 1) ≤ i ∧ i < 345 * (m + 1) + 345) → ¬ (x = 0 ∧ (i = 11 ∨ i = 13)) → ¬ (x = 65 ∧ (i = 0 ∨ i = 1 ∨ i = 23)) → I3 x i = I2 x i := fun x i b c d => by
    rw [f1 x i b]
    have e1 : up2 (m2 (up2 (up2 I2 0 11 (nI (m + 1))) 0 13 (nI 0))) 65 23 (nI (m + 1)) x i = m2 (up2 (up2 I2 0 11 (nI (m + 1))) 0 13 (nI 0)) x i := by
      by_cases e : x = 65
      · subst e; rw [up_i (by omega)]
      · rw [up_o e]
    have e2 : m2 (up2 (up2 I2 0 11 (nI (m + 1))) 0 13 (nI 0)) x i = up2 (up2 I2 0 11 (nI (m + 1))) 0 13 (nI 0) x i := by
      show up2 (up2 _ 65 1 _) 65 0 _ x i = _
      by_cases e : x = 65
      · subst e; rw [up_i (by omega), up_i (by omega)]
      · rw [up_o e, up_o e]
    have e3 : up2 (up2 I2 0 11 (nI (m + 1))) 0 13 (nI 0) x i = I2 x i := by
      by_cases e : x = 0
      · subst e; rw [up_i (by omega), up_i (by omega)]
      · rw [up_o e, up_o e]
    rw [e1, e2, e3]
  have g : ∀ x i, ¬ (76 + 18 * m ≤ x ∧ x ≤ 76 + 18 * m + 17) → ¬ (x = 70 ∧ 345 * (m + 1) ≤ i ∧ i < 345 * (m + 1) + 345) → ¬ (x = 0 ∧ (i = 11 ∨ i = 13)) → ¬ (x = 65 ∧ (i = 0 ∨ i = 1 ∨ i = 23)) → I3 x i = I x i := fun x i a b c d => by
    rw [k1 x i b c d, cp.1 x (by omega), g1 x (by omega)]
  have jo : ∀ x k, ¬ (x = 72 ∧ 6 * (m + 1) ≤ k ∧ k < 6 * (m + 1) + 6) → x ≠ 76 + 18 * m + 4 → J3 x k = J x k := fun x k a b => by rw [f3 x k a, cp.2.1 x b]
  have k70 : ∀ k, k < 345 → I3 70 (345 * (m + 1) + k) = I 70 k := fun k hk => by
    rw [f2 k hk, up_o (by decide), up_o (by decide), cp.1 70 (by omega), g1 70 (by omega)]
  have j72 : ∀ k, k < 6 → J3 72 (6 * (m + 1) + k) = J 72 k := fun k hk => by rw [f4 k hk, cp.2.1 72 (by omega)]
  have c1 : CYR I1 J 28 (I 70) (J 72) := h.2.1.fr (fun q a b => g1 q (by omega)) rfl (fun _ _ => rfl) (fun _ _ => rfl)
  have cm := cp.cyr c1
  refine ⟨lm, h.2.1.fr (fun q a b => funext fun i => g q i (by omega) (by omega) (by omega) (by omega)) (funext fun i => jo 32 i (by omega) (by omega)) (fun i hi => g 70 i (by omega) (by omega) (by omega) (by omega)) (fun k hk => jo 72 k (by omega) (by omega)), h.tr.cg (fun q i hq => g q i (by omega) (by omega) (by omega) (by omega)) (fun q i hq => jo q i (by omega) (by omega)), h.tp.cg (g 0 12 (by omega) (by omega) (by omega) (by omega)) (fun i => g 11 i (by omega) (by omega) (by omega) (by omega)) (g 65 8 (by omega) (by omega) (by omega) (by omega)) (fun i => g 69 i (by omega) (by omega) (by omega) (by omega)), ⟨?_, ?_, ?_, ?_, ?_⟩, h.lv.cg (g 0 16 (by omega) (by omega) (by omega) (by omega)) (g 65 32 (by omega) (by omega) (by omega) (by omega)) (fun i => g 27 i (by omega) (by omega) (by omega) (by omega)) (fun i => g 75 i (by omega) (by omega) (by omega) (by omega)), ⟨?_, ?_, fun j hj => ?_⟩, hmc, fun q hq k => ?_⟩
  · rw [f1 0 13 (by omega), f1 65 0 (by omega)]
    rfl
  · rw [g 0 14 (by omega) (by omega) (by omega) (by omega), g 65 10 (by omega) (by omega) (by omega) (by omega)]; exact h.sf.2.1
  · rw [g 0 15 (by omega) (by omega) (by omega) (by omega), g 65 11 (by omega) (by omega) (by omega) (by omega)]; exact h.sf.2.2.1
  · rw [jo 1 0 (by omega) (by omega), jo 65 2 (by omega) (by omega)]; exact h.sf.2.2.2.1
  · rw [jo 1 1 (by omega) (by omega), jo 65 3 (by omega) (by omega)]; exact h.sf.2.2.2.2
  · rw [f1 0 11 (by omega)]
    rfl
  · rw [f1 65 23 (by omega), up_e]
  · by_cases e : j = m
    · subst e
      exact cm.fr (fun q a b => funext fun i => k1 q i (by omega) (by omega) (by omega)) (funext fun i => f3 _ i (by omega)) (fun i hi => k70 i hi) (fun k hk => j72 k hk)
    · exact (h.2.2.2.2.2.2.1.2.2 j (by omega)).fr (fun q a b => funext fun i => g q i (by omega) (by omega) (by omega) (by omega)) (funext fun i => jo _ i (by omega) (by omega)) (fun i hi => g 70 _ (by omega) (by omega) (by omega) (by omega)) (fun k hk => jo 72 _ (by omega) (by omega))
  · rw [g q k (by omega) (by omega) (by omega) (by omega), jo q k (by omega) (by omega)]
    exact zr q hq k
theorem LC187 {sc : Nat × (Nat → Int32)} {Q : XQ} {x3 : Int32} {cu su : Nat} {S : XS} {I : XI} {J : XJ} {r : XR} {n : Nat} {F : Nat → Int32} {m c : Nat} (h : INV S I J r n F m c) (K : KL sc Q x3 cu su) : xcall 100 187 [.ref 0] S I J r (fun v S1 I1 J1 r1 => xrun sc (xcall 100) Q 351 1919 [.retAddr 3000, .ref 0, .ref 65, .int x3] (v.toList ++ []) S1 I1 J1 r1 cu su) := by
  have hm := h.2.2.2.2.2.2.2.1
  have hc3 := h.1.2.1
  have zh := h.2.2.2.2.2.2.2.2
  by_cases h3 : m = 3
  · subst h3
    exact c187n h.lay h.2.2.2.2.2.2.1.1 (K351_1919 h.lay (r349n h.lay h.2.2.2.2.2.2.1.2.1 (K351_1923 ⟨fun _ => K _ _ _ _ _ _ _ _ h.e, fun g => absurd rfl g⟩)))
  · refine c187 (d := 96) h.lay h.2.2.2.2.2.2.1.1 (by omega) (fun am e => ?_) (fun e => ?_)
    · have hmc : m < c := Decidable.byContradiction (fun g => by
        have := h.1.2.2.2.2 m (by omega) (by omega)
        rw [this] at e; cases e)
      have lm := h.1.2.2.2.1 m hmc
      refine k187 (d := 96) h.lay h.2.2.2.2.2.2.1.1 (by omega) lm.1 lm.2 h.h01 (by omega) (fun I1 J1 cp => K351_1919 h.lay (r349 (m := m) h.lay ?_ (by omega) (fun I2 J2 f1 f2 f3 f4 => K351_1923 ⟨fun _ => K _ _ _ _ _ _ _ _ (h.mark (by omega) h.1 (by omega) (fun _ _ => rfl) zh cp f1 f2 f3 f4), fun g => absurd rfl g⟩)))
      rw [up_o (by decide), up_o (by decide), cp.1 65 (by omega)]
      exact h.2.2.2.2.2.2.1.2.1
    · have hmc : m = c := Decidable.byContradiction (fun g => by
        have := (h.1.2.2.2.1 m (by omega)).1
        rw [this] at e; cases e)
      subst hmc
      refine c187m (d := 96) (p := 76 + 18 * m) h.lay h.2.2.2.2.2.2.1.1 (by omega) h.1.2.2.1 (by omega) zh h.h01 (fun I0 I1 J1 f0 hl ly hL2 cp => K351_1919 hL2 (r349 (m := m) hL2 ?_ (by omega) (fun I2 J2 f1 f2 f3 f4 => K351_1923 ⟨fun _ => K _ _ _ _ _ _ _ (m + 1) (h.mark (by omega) ⟨hL2, by omega, by rw [hl]; omega, fun j hj => ?_, fun j h1 h2 => ?_⟩ (by omega) (fun x hx => f0 x (by omega) (by omega) (by omega)) (fun q hq k => ?_) cp f1 f2 f3 f4), fun g => absurd rfl g⟩)))
      · rw [up_o (by decide), up_o (by decide), cp.1 65 (by omega), f0 65 (by omega) (by omega) (by omega)]
        exact h.2.2.2.2.2.2.1.2.1
      · by_cases ej : j = m
        · subst ej
          exact ⟨up_e, ly⟩
        · have lj := h.1.2.2.2.1 j (by omega)
          refine ⟨?_, lj.2.mono (fun q x e => ES9_s (sA e)) ?_ ?_⟩
          · rw [up_i ej, RS9_o (by omega) (by omega)]; exact lj.1
          · rw [up_o (by omega), RS9_o (by omega) (by omega)]
          · rw [up_o (by omega), RS9_o (by omega) (by omega)]
      · rw [up_i (by omega), RS9_o (by omega) (by omega)]
        exact h.1.2.2.2.2 j (by omega) h2
      · rw [hl] at hq
        have z := zh q (by rw [h.1.2.2.1]; omega) k
        refine ⟨z.1, z.2.1, ?_⟩
        rw [up_o (by omega), RS9_o (by omega) (by omega)]
        exact z.2.2
