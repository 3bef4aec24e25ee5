/-! a cousin more -/
def nw0 (B : Nat → Int32) (c p q : Int32) : Nat → Int32 := ub (ub (ub (ub (ub (ub B (37 + bn B 3) c) (43 + bn B 3) p) (49 + bn B 3) q) (55 + bn B 3) 0) (61 + bn B 3) 0) (67 + bn B 3) 0
def nwB (B : Nat → Int32) (c p q : Int32) : Nat → Int32 := ub (nw0 B c p q) 3 (nI (bn B 3 + 1))
theorem nw0_o {B : Nat → Int32} {c p q : Int32} {j : Nat} (h : j ≠ 37 + bn B 3 ∧ j ≠ 43 + bn B 3 ∧ j ≠ 49 + bn B 3 ∧ j ≠ 55 + bn B 3 ∧ j ≠ 61 + bn B 3 ∧ j ≠ 67 + bn B 3) : nw0 B c p q j = B j := by
  unfold nw0
  rw [ub_o h.2.2.2.2.2, ub_o h.2.2.2.2.1, ub_o h.2.2.2.1, ub_o h.2.2.1, ub_o h.2.1, ub_o h.1]
theorem nwB_o {B : Nat → Int32} {c p q : Int32} {j : Nat} (h3 : j ≠ 3) (h : j ≠ 37 + bn B 3 ∧ j ≠ 43 + bn B 3 ∧ j ≠ 49 + bn B 3 ∧ j ≠ 55 + bn B 3 ∧ j ≠ 61 + bn B 3 ∧ j ≠ 67 + bn B 3) : nwB B c p q j = B j := by
  unfold nwB
  rw [ub_o h3, nw0_o h]
theorem nwB_n {B : Nat → Int32} {c p q : Int32} (h : bn B 3 ≤ 6) : nwB B c p q (37 + bn B 3) = c ∧ nwB B c p q (43 + bn B 3) = p ∧ nwB B c p q (49 + bn B 3) = q ∧ nwB B c p q (55 + bn B 3) = 0 ∧ nwB B c p q (61 + bn B 3) = 0 ∧ nwB B c p q (67 + bn B 3) = 0 ∧ nwB B c p q 3 = nI (bn B 3 + 1) := by
  unfold nwB nw0
  refine ⟨?_, ?_, ?_, ?_, ?_, ?_, ub_e⟩
  · rw [ub_o (by omega), ub_o (by omega), ub_o (by omega), ub_o (by omega), ub_o (by omega), ub_o (by omega), ub_e]
  · rw [ub_o (by omega), ub_o (by omega), ub_o (by omega), ub_o (by omega), ub_o (by omega), ub_e]
  · rw [ub_o (by omega), ub_o (by omega), ub_o (by omega), ub_o (by omega), ub_e]
  · rw [ub_o (by omega), ub_o (by omega), ub_o (by omega), ub_e]
  · rw [ub_o (by omega), ub_o (by omega), ub_e]
  · rw [ub_o (by omega), ub_e]
theorem nwB_3 {B : Nat → Int32} {c p q : Int32} (h : bn B 3 ≤ 6) : bn (nwB B c p q) 3 = bn B 3 + 1 := by
  unfold bn
  rw [(nwB_n (B := B) h).2.2.2.2.2.2]
  exact nI_clamp (by omega)
theorem WF.nw {B : Nat → Int32} (h : WF B) {c p q : Nat} (h6 : bn B 3 < 6) (hc : c < ce B) (hp : 1 ≤ p ∧ c % bn B 0 + p ≤ bn B 0) (hq : 1 ≤ q ∧ c / bn B 0 + q ≤ bn B 1) : WF (nwB B (nI c) (nI p) (nI q)) := by
  have hN := ce_le h
  have hW := h.w
  have hH := h.h
  have hr := h.r.2
  have o : ∀ j, j < 37 → j ≠ 3 → nwB B (nI c) (nI p) (nI q) j = B j := fun j h1 h2 => nwB_o h2 ⟨by omega, by omega, by omega, by omega, by omega, by omega⟩
  have e0 := o 0 (by decide) (by decide)
  have e1 := o 1 (by decide) (by decide)
  have e2 := o 2 (by decide) (by decide)
  have n3 := nwB_3 (B := B) (c := nI c) (p := nI p) (q := nI q) (by omega)
  obtain ⟨m1, m2, m3, m4, m5, m6, m7⟩ := nwB_n (B := B) (c := nI c) (p := nI p) (q := nI q) (by omega)
  have ec : ce (nwB B (nI c) (nI p) (nI q)) = ce B := by unfold ce; rw [bn_c e0, bn_c e1]
  obtain ⟨a0, a1, a2, a3, a4, a5, a6, a7⟩ := h
  refine ⟨by rw [e0]; exact a0, by rw [e1]; exact a1, by rw [e2]; exact a2, by rw [m7]; exact rg_nI (by omega) (by omega) (by decide), by rw [o 4 (by decide) (by decide)]; exact a4, fun i hi => ?_, fun i s h1 h2 => ?_, fun k hk => ?_⟩
  · rw [bn_c e2] at hi
    rw [o _ (by omega) (by omega), o _ (by omega) (by omega), ec]
    exact a5 i hi
  · rw [bn_c e2] at h2
    rw [bn_c (o (7 + i) (by omega) (by omega)), bn_c (o (7 + s) (by omega) (by omega))]
    exact a6 i s h1 h2
  · rw [n3] at hk
    by_cases e : k = bn B 3
    · subst e
      have g1 : bn (nwB B (nI c) (nI p) (nI q)) (37 + bn B 3) = c := by unfold bn; rw [show 37 + (B 3).toNatClampNeg = 37 + bn B 3 from rfl, m1]; exact nI_clamp (by omega)
      have t1 : c % bn B 0 ≤ c := Nat.mod_le _ _
      have t2 := Nat.le_trans (Nat.le_add_left _ _) hp.2
      have t3 := Nat.le_trans (Nat.le_add_left _ _) hq.2
      refine ⟨by rw [m1, ec]; exact rg_nI (by omega) (by omega) (by omega), ?_, ?_, by rw [m4]; exact rg_nI (n := 0) (by omega) (by omega) (by decide), Or.inl m5, fun x hx hb => (by rw [m6, b_0] at hb; cases hb), by rw [m6, ct_0]; decide⟩
      · rw [m2, bn_c e0, g1]
        exact rg_nI hp.1 (by have := hp.2; omega) (by omega)
      · rw [m3, bn_c e0, bn_c e1, g1]
        exact rg_nI hq.1 (by have := hq.2; omega) (Nat.lt_of_le_of_lt (Nat.sub_le _ _) (by omega))
    · have f : ∀ j, j = 37 ∨ j = 43 ∨ j = 49 ∨ j = 55 ∨ j = 61 ∨ j = 67 → nwB B (nI c) (nI p) (nI q) (j + k) = B (j + k) := fun j hj => nwB_o (by omega) ⟨by omega, by omega, by omega, by omega, by omega, by omega⟩
      obtain ⟨p1, p2, p3, p4, p5, p6, p7⟩ := a7 k (by omega)
      have f1 := f 37 (by decide)
      have f2 := f 43 (by decide)
      have f3 := f 49 (by decide)
      refine ⟨by rw [f1, ec]; exact p1, by rw [f2, bn_c e0, bn_c f1]; exact p2, by rw [f3, bn_c e0, bn_c e1, bn_c f1]; exact p3, by rw [f 55 (by decide)]; exact p4, by rw [f 61 (by decide)]; exact p5, fun x hx hb => ?_, by rw [f 67 (by decide)]; exact p7⟩
      rw [f 67 (by decide)] at hb
      rw [inP_cg e0 f1 f2 f3]
      exact p6 x hx hb
/-- the cells of a patch by rows -/
def rw2 (W c p : Nat) (dn ac i : Nat) : Prop := (∃ d' a', d' < dn ∧ a' < p ∧ i = c + d' * W + a') ∨ ∃ a', a' < ac ∧ i = c + dn * W + a'
theorem k70i {d : Nat} {Q : XQ} {S : XS} {I : XI} {J : XJ} {r : XR} {cu su a c p q dn W : Nat} (h0 : LY0 S r a) (hw : I a 0 = nI W) (hp : p ≤ 6) (hdn : dn < q) (hq : q ≤ 5) (hW : W ≤ 6) (hin : ∀ d' a', d' < q → a' < p → c + d' * W + a' < 32)
    (hK : ∀ x w6, (∀ i, i < 32 → (bt x i = true ↔ rw2 W c p (dn + 1) 0 i)) → xrun z0 (xcall d) Q 70 6 [.ref a, .int (nI c), .int (nI p), .int (nI q), .int x, .int (nI (dn + 1)), w6] [] S I J r cu su) :
    ∀ j ac x, ac + j = p → (∀ i, i < 32 → (bt x i = true ↔ rw2 W c p dn ac i)) → xrun z0 (xcall d) Q 70 15 [.ref a, .int (nI c), .int (nI p), .int (nI q), .int x, .int (nI dn), .int (nI ac)] [] S I J r cu su
  | 0, ac, x, hj, hx => by
    have e : ac = p := by omega
    subst e
    refine K70_15 h0 (yes (Int32.le_refl _) ?_)
    rw [nI_add]
    refine hK x _ (fun i hi => ?_)
    rw [hx i hi]
    constructor
    · rintro (⟨d', a', h1, h2, h3⟩ | ⟨a', h2, h3⟩)
      · exact Or.inl ⟨d', a', by omega, h2, h3⟩
      · exact Or.inl ⟨dn, a', by omega, h2, h3⟩
    · rintro (⟨d', a', h1, h2, h3⟩ | ⟨a', h2, h3⟩)
      · rcases Nat.lt_or_ge d' dn with q1 | q1
        · exact Or.inl ⟨d', a', q1, h2, h3⟩
        · have : d' = dn := by omega
          subst this; exact Or.inr ⟨a', h2, h3⟩
      · omega
  | j + 1, ac, x, hj, hx => by
    have hin' := hin dn ac hdn (by omega)
    refine K70_15 h0 (no (by rw [nI_leI (by omega) (by omega)]; omega) ?_)
    rw [hw, pk_mul, nI_add, nI_add, nI_add]
    refine k70i h0 hw hp hdn hq hW hin hK j (ac + 1) _ (by omega) (fun i hi => ?_)
    show bt (x ||| bi (c + dn * W + ac)) i = true ↔ _
    rw [bt_orb hin' hi, hx i hi]
    constructor
    · rintro ((⟨d', a', h1, h2, h3⟩ | ⟨a', h2, h3⟩) | h)
      · exact Or.inl ⟨d', a', h1, h2, h3⟩
      · exact Or.inr ⟨a', by omega, h3⟩
      · exact Or.inr ⟨ac, by omega, h⟩
    · rintro (⟨d', a', h1, h2, h3⟩ | ⟨a', h2, h3⟩)
      · exact Or.inl (Or.inl ⟨d', a', h1, h2, h3⟩)
      · rcases Nat.lt_or_ge a' ac with q1 | q1
        · exact Or.inl (Or.inr ⟨a', q1, h3⟩)
        · have : a' = ac := by omega
          subst this; exact Or.inr h3
theorem k70 {d : Nat} {Q : XQ} {S : XS} {I : XI} {J : XJ} {r : XR} {cu su a c p q W : Nat} (h0 : LY0 S r a) (hw : I a 0 = nI W) (hp : p ≤ 6) (hq : q ≤ 5) (hW : W ≤ 6) (hin : ∀ d' a', d' < q → a' < p → c + d' * W + a' < 32)
    (hQ : ∀ x, (∀ i, i < 32 → (bt x i = true ↔ rw2 W c p q 0 i)) → Q (some (.int x)) S I J r) :
    ∀ j dn x w6, dn + j = q → (∀ i, i < 32 → (bt x i = true ↔ rw2 W c p dn 0 i)) → xrun z0 (xcall d) Q 70 6 [.ref a, .int (nI c), .int (nI p), .int (nI q), .int x, .int (nI dn), w6] [] S I J r cu su
  | 0, dn, x, w6, hj, hx => by
    have e : dn = q := by omega
    subst e
    exact K70_6 (yes (Int32.le_refl _) (hQ x hx))
  | j + 1, dn, x, w6, hj, hx => by
    refine K70_6 (no (by rw [nI_leI (by omega) (by omega)]; omega) ?_)
    exact k70i h0 hw hp (by omega) hq hW hin (fun x w6 hx => k70 h0 hw hp hq hW hin hQ j (dn + 1) x w6 (by omega) hx) p 0 x (by omega) hx
theorem rw2_in {W H c p q i : Nat} (hW : 1 ≤ W) (hp : c % W + p ≤ W) : rw2 W c p q 0 i ↔ (c % W ≤ i % W ∧ i % W < c % W + p ∧ c / W ≤ i / W ∧ i / W < c / W + q) := by
  have hc := Nat.div_add_mod c W
  have hi := Nat.div_add_mod i W
  have hm : i % W < W := Nat.mod_lt _ (by omega)
  constructor
  · rintro (⟨d', a', h1, h2, h3⟩ | ⟨a', h2, _⟩)
    · have e : i = W * (c / W + d') + (c % W + a') := by rw [Nat.mul_add, Nat.mul_comm W d']; omega
      have e1 : i % W = c % W + a' := by rw [e, Nat.mul_add_mod]; exact Nat.mod_eq_of_lt (by omega)
      have e2 : i / W = c / W + d' := by rw [e, Nat.mul_add_div (by omega), Nat.div_eq_of_lt (show c % W + a' < W by omega), Nat.add_zero]
      rw [e1, e2]; omega
    · omega
  · rintro ⟨h1, h2, h3, h4⟩
    refine Or.inl ⟨i / W - c / W, i % W - c % W, by omega, by omega, ?_⟩
    have e : W * (i / W) = W * (c / W) + (i / W - c / W) * W := by rw [Nat.mul_comm _ W, ← Nat.mul_add]; congr 1; omega
    omega
theorem rw2_32 {W H c p q : Nat} (hW : 1 ≤ W ∧ W ≤ 6) (hH : H ≤ 5) (hp : c % W + p ≤ W) (hq : c / W + q ≤ H) : ∀ d' a', d' < q → a' < p → c + d' * W + a' < 32 := by
  intro d' a' h1 h2
  have hc := Nat.div_add_mod c W
  have e : c + d' * W + a' = W * (c / W + d') + (c % W + a') := by rw [Nat.mul_add, Nat.mul_comm W d']; omega
  have h3 : W * (c / W + d') ≤ 6 * 4 := Nat.mul_le_mul hW.2 (by omega)
  omega
theorem CR.nw {I I' : XI} {J J' : XJ} {a : Nat} {B : Nat → Int32} {W : Nat → Int64} (cr : CR I J a B W) {c p q : Nat} {nm : Int64} (h6 : bn B 3 < 6) (hc : c < ce B) (hp : 1 ≤ p ∧ c % bn B 0 + p ≤ bn B 0) (hq : 1 ≤ q ∧ c / bn B 0 + q ≤ bn B 1)
    (g0 : I' a 0 = I a 0 ∧ I' a 1 = I a 1 ∧ I' a 2 = I a 2 ∧ I' a 3 = I a 3 ∧ I' a 16 = I a 16 ∧ I' a 17 = I a 17) (g7 : I' a 7 = nI (bn B 3 + 1)) (g15 : I' a 15 = I a 15 &&& (bi (bn B 3) ^^^ (-1 : Int32)))
    (g : ∀ q, 1 ≤ q → q ≤ 3 → I' (a + q) = I (a + q)) (gk : ∀ k, k < bn B 3 → ∀ q, 5 ≤ q → q ≤ 10 → I' (a + q) k = I (a + q) k) (gj : ∀ k, J' (a + 4) k = if k = bn B 3 then nm else J (a + 4) k)
    (n5 : I' (a + 5) (bn B 3) = nI c) (n6 : I' (a + 6) (bn B 3) = nI p) (n7 : I' (a + 7) (bn B 3) = nI q) (n9 : I' (a + 9) (bn B 3) = 0) (n10 : I' (a + 10) (bn B 3) = 0)
    (n8 : ∀ i, i < 32 → (bt (I' (a + 8) (bn B 3)) i = true ↔ rw2 (bn B 0) c p q 0 i)) : CR I' J' a (nwB B (nI c) (nI p) (nI q)) (fun k => if k = bn B 3 then nm else W k) := by
  have w' := cr.wf.nw h6 hc hp hq
  have hN := ce_le cr.wf
  have hr := cr.wf.r.2
  have hw := cr.wf.w
  have o : ∀ j, j < 37 → j ≠ 3 → nwB B (nI c) (nI p) (nI q) j = B j := fun j h1 h2 => nwB_o h2 ⟨by omega, by omega, by omega, by omega, by omega, by omega⟩
  have e0 := o 0 (by decide) (by decide)
  have e1 := o 1 (by decide) (by decide)
  have e2 := o 2 (by decide) (by decide)
  have n3 := nwB_3 (B := B) (c := nI c) (p := nI p) (q := nI q) (by omega)
  obtain ⟨m1, m2, m3, m4, m5, m6, m7⟩ := nwB_n (B := B) (c := nI c) (p := nI p) (q := nI q) (by omega)
  obtain ⟨b0, b1, b4, b2, b3, bv, b5, b6⟩ := cr.2.1
  have f : ∀ k, k < bn B 3 → ∀ j, j = 37 ∨ j = 43 ∨ j = 49 ∨ j = 55 ∨ j = 61 ∨ j = 67 → nwB B (nI c) (nI p) (nI q) (j + k) = B (j + k) := fun k hk j hj => nwB_o (by omega) ⟨by omega, by omega, by omega, by omega, by omega, by omega⟩
  have hce : ce (nwB B (nI c) (nI p) (nI q)) = ce B := by unfold ce; rw [bn_c e0, bn_c e1]
  refine ⟨w', ⟨by rw [g0.1, e0]; exact b0, by rw [g0.2.1, e1]; exact b1, by rw [g0.2.2.1, o 4 (by decide) (by decide)]; exact b4, by rw [g0.2.2.2.1, e2]; exact b2, by rw [g7, m7], ?_, by rw [g0.2.2.2.2.1, o 5 (by decide) (by decide)]; exact b5, by rw [g0.2.2.2.2.2, o 6 (by decide) (by decide)]; exact b6⟩, fun i hi => ?_, fun t ht => ?_, fun k hk => ?_⟩
  · rw [g15, bv]
    refine b_same (fun i hi => ?_)
    rw [b_and, Bool.and_eq_true, bt_not hi, Bool.not_eq_true', ← Bool.not_eq_true, bt_bi (by omega) hi, bt_vset cr.wf hi, bt_vset w' hi, n3]
    constructor
    · rintro ⟨⟨h1, h2⟩, h3⟩
      exact ⟨by omega, by rw [f i h1 61 (by decide)]; exact h2⟩
    · rintro ⟨h1, h2⟩
      by_cases e : i = bn B 3
      · subst e; rw [m5] at h2; exact absurd h2 (by decide)
      · have h3 : i < bn B 3 := by omega
        rw [f i h3 61 (by decide)] at h2
        exact ⟨⟨h3, h2⟩, e⟩
  · rw [bn_c e2] at hi
    rw [g 1 (by decide) (by decide), g 2 (by decide) (by decide), o _ (by omega) (by omega), o _ (by omega) (by omega)]
    exact cr.2.2.1 i hi
  · rw [g 3 (by decide) (by decide), cr.sh ht]
    exact (shal_cg e2 (fun x hx => ⟨o _ (by omega) (by omega), o _ (by omega) (by omega)⟩)).symm
  · rw [n3] at hk
    by_cases e : k = bn B 3
    · subst e
      refine ⟨by rw [gj, if_pos rfl]; exact (if_pos rfl).symm, by rw [n5, m1], by rw [n6, m2], by rw [n7, m3], ?_, by rw [n9, m4], by rw [n10, m6]⟩
      refine b_same (fun i hi => ?_)
      have hk' : bn B 3 < bn (nwB B (nI c) (nI p) (nI q)) 3 := by omega
      have g1 : bn (nwB B (nI c) (nI p) (nI q)) (37 + bn B 3) = c := by unfold bn; rw [show 37 + (B 3).toNatClampNeg = 37 + bn B 3 from rfl, m1]; exact nI_clamp (by omega)
      have t2 := Nat.le_trans (Nat.le_add_left _ _) hp.2
      have t3 := Nat.le_trans (Nat.le_add_left _ _) hq.2
      have hh := cr.wf.h
      have g2 : bn (nwB B (nI c) (nI p) (nI q)) (43 + bn B 3) = p := by unfold bn; rw [show 43 + (B 3).toNatClampNeg = 43 + bn B 3 from rfl, m2]; exact nI_clamp (by omega)
      have g3 : bn (nwB B (nI c) (nI p) (nI q)) (49 + bn B 3) = q := by unfold bn; rw [show 49 + (B 3).toNatClampNeg = 49 + bn B 3 from rfl, m3]; exact nI_clamp (by omega)
      rw [n8 i hi, bt_pat w' hk' hi, rw2_in (H := bn B 1) hw.2.1 hp.2]
      unfold inP
      rw [decide_eq_true_eq, g1, g2, g3, bn_c e0]
    · have hk2 : k < bn B 3 := by omega
      obtain ⟨p4, p5, p6, p7, p8, p9, p10⟩ := cr.2.2.2.2 k hk2
      have f1 := f k hk2 37 (by decide)
      have f2 := f k hk2 43 (by decide)
      have f3 := f k hk2 49 (by decide)
      refine ⟨by rw [gj, if_neg e]; exact p4.trans (if_neg e).symm, by rw [gk k hk2 5 (by decide) (by decide), f1]; exact p5, by rw [gk k hk2 6 (by decide) (by decide), f2]; exact p6, by rw [gk k hk2 7 (by decide) (by decide), f3]; exact p7, ?_, by rw [gk k hk2 9 (by decide) (by decide), f k hk2 55 (by decide)]; exact p9, by rw [gk k hk2 10 (by decide) (by decide), f k hk2 67 (by decide)]; exact p10⟩
      rw [gk k hk2 8 (by decide) (by decide), p8]
      refine (pat_cg (fun j hj => ?_) f1 f2 f3).symm
      exact o j (by omega) (by omega)
theorem c69 {d : Nat} {Q : XQ} {S : XS} {I : XI} {J : XJ} {r : XR} {a c p q : Nat} {nm : Int64} {B : Nat → Int32} {W : Nat → Int64} (h0 : LY0 S r a) (cr : CR I J a B W) (h6 : bn B 3 < 6) (hc : c < ce B) (hp : 1 ≤ p ∧ c % bn B 0 + p ≤ bn B 0) (hq : 1 ≤ q ∧ c / bn B 0 + q ≤ bn B 1)
    (hQ : ∀ I' J', frc a I I' → (∀ x, x ≠ a + 4 → J' x = J x) → CR I' J' a (nwB B (nI c) (nI p) (nI q)) (fun k => if k = bn B 3 then nm else W k) → Q none S I' J' r) : xcall (d + 2) 69 [.ref a, .long nm, .int (nI c), .int (nI p), .int (nI q)] S I J r Q := by
  have hN := ce_le cr.wf
  have hw := cr.wf.w
  have hh := cr.wf.h
  have t2 := Nat.le_trans (Nat.le_add_left _ _) hp.2
  have t3 := Nat.le_trans (Nat.le_add_left _ _) hq.2
  have v6 : vp_in (nI (bn B 3)) 6 := vp_in_nI h6 (by decide)
  have c6 : (nI (bn B 3)).toNatClampNeg = bn B 3 := nI_clamp (by omega)
  refine E69 h0 ?_
  rw [cr.n7]
  refine yes (by rw [nI_ltI (by omega) (by decide)]; exact h6) ⟨v6, v6, ?_⟩
  rw [c6]
  simp (disch := omega) only [up_o, cr.n7, c6]
  refine ⟨v6, v6, ?_⟩
  refine E70 (k70 (W := bn B 0) h0 ?_ (by omega) (by omega) hw.2.2 (rw2_32 ⟨hw.2.1, hw.2.2⟩ hh.2.2 hp.2 hq.2) (fun x hx => K69_69 h0 ?_) q 0 _ _ (by omega) (fun i hi => ?_))
  · rw [up_o (by omega), up_o (by omega), up_o (by omega)]; exact cr.n0
  · simp (disch := omega) only [up_o, cr.n7, c6]
    refine ⟨v6, v6, v6, ?_⟩
    have ga : ∀ (f : XI) v, up2 f a 15 v a 7 = f a 7 := fun f v => up_i (by decide)
    simp (disch := omega) only [ga, up_o, cr.n7, nI_add]
    refine hQ _ _ (fun z hz => ?_) (fun z hz => up_o hz) (cr.nw h6 hc hp hq ?_ ?_ ?_ (fun z h1 h2 => ?_) (fun k hk z h1 h2 => ?_) (fun k => ?_) ?_ ?_ ?_ ?_ ?_ ?_)
    · simp (disch := omega) only [up_o]
    · refine ⟨?_, ?_, ?_, ?_, ?_, ?_⟩ <;> simp (disch := omega) only [up_o, up_i]
    · rw [up_e]
    · rw [up_i (by decide), up_e]
    · simp (disch := omega) only [up_o]
    · have hz : z = 5 ∨ z = 6 ∨ z = 7 ∨ z = 8 ∨ z = 9 ∨ z = 10 := by omega
      rcases hz with rfl | rfl | rfl | rfl | rfl | rfl <;> simp (disch := omega) only [up_o, up_i]
    · by_cases e : k = bn B 3
      · rw [if_pos e, e, up_e]
      · rw [if_neg e, up_i e]
    all_goals simp (disch := omega) only [up_o, up_e]
    · rfl
    · rfl
    · exact hx
  · rw [show nI 0 = (0 : Int32) from rfl, b_0]
    constructor
    · intro h; cases h
    · rintro (⟨d', a', h1, _⟩ | ⟨a', h1, _⟩) <;> omega
