/-! born -/
theorem r246 {d : Nat} {Q : XQ} {S : XS} {I : XI} {J : XJ} {r : XR} {b c p q : Nat} {B : Nat → Int32} (hL : LAY S r) (hb4 : b ≤ 4) (hB : ∀ i, i < 345 → I 70 (345 * b + i) = B i) (h3 : B 3 = nI (bn B 3) ∧ bn B 3 < 6) (hQ : ∀ I', f70 I I' → (∀ i, i < 345 → I' 70 (345 * b + i) = nw0 B (nI c) (nI p) (nI q) i) → (∀ i, (i < 345 * b ∨ 345 * b + 345 ≤ i) → I' 70 i = I 70 i) → Q none S I' J r) : xcall (d + 1) 246 [.ref 65, .int (nI b), .int (nI c), .int (nI p), .int (nI q)] S I J r Q := by
  refine E246 hL ?_
  simp only [pk_mul, nI_add]
  rw [nI_clamp (n := 345 * b + 3) (by omega), hB 3 (by decide), h3.1]
  simp only [nI_add]
  rw [nI_clamp (by omega), nI_clamp (by omega), nI_clamp (by omega), nI_clamp (by omega), nI_clamp (by omega), nI_clamp (by omega)]
  refine ⟨vp_in_nI (by omega) (by decide), vp_in_nI (by omega) (by decide), vp_in_nI (by omega) (by decide), vp_in_nI (by omega) (by decide), vp_in_nI (by omega) (by decide), vp_in_nI (by omega) (by decide), vp_in_nI (by omega) (by decide), hQ _ ((((((f70.r I).u).u).u).u).u).u (fun i hi => ?_) (fun i hi => ?_)⟩
  · unfold nw0
    have e : ∀ z, 345 * b + bn B 3 + z = 345 * b + (z + bn B 3) := fun z => by omega
    simp only [e]
    by_cases e1 : i = 67 + bn B 3
    · subst e1; rw [up_e, ub_e]; rfl
    · rw [up_i (by omega), ub_o e1]
      by_cases e2 : i = 61 + bn B 3
      · subst e2; rw [up_e, ub_e]; rfl
      · rw [up_i (by omega), ub_o e2]
        by_cases e3 : i = 55 + bn B 3
        · subst e3; rw [up_e, ub_e]; rfl
        · rw [up_i (by omega), ub_o e3]
          by_cases e4 : i = 49 + bn B 3
          · subst e4; rw [up_e, ub_e]
          · rw [up_i (by omega), ub_o e4]
            by_cases e5 : i = 43 + bn B 3
            · subst e5; rw [up_e, ub_e]
            · rw [up_i (by omega), ub_o e5]
              by_cases e6 : i = 37 + bn B 3
              · subst e6; rw [up_e, ub_e]
              · rw [up_i (by omega), ub_o e6]; exact hB i hi
  · rw [up_i (by omega), up_i (by omega), up_i (by omega), up_i (by omega), up_i (by omega), up_i (by omega)]
/-- the class's end of a birth; the reference's -/
def AB (Q : XQ) (S : XS) (I : XI) (J : XJ) (r : XR) (W : Nat → Int64) (s : Nat) (v : Int32) (B' : Nat → Int32) (W' : Nat → Int64) : Prop := ∀ I' J', CR I' J' 28 B' W' → ixc I I' → I' 0 13 = nI s → (∀ q, q ≠ 32 → J' q = J q) → Q (some (.int v)) S I' J' r
def AN (Q : XQ) (S : XS) (I : XI) (J : XJ) (r : XR) (s : Nat) (v : Int32) (B' : Nat → Int32) (W' : Nat → Int64) : Prop := ∀ I' J', I' 70 = B' → ixm I I' → I' 0 13 = I 0 13 → I' 65 0 = nI s → (∀ q, q ≠ 72 → J' q = J q) → J' 72 = W' → Q (some (.int v)) S I' J' r
/-- whether a patch can begin there: the words of the call -/
def bno (B : Nat → Int32) (x y z : Int32) : Prop := 1 ≤ y.toInt ∧ y.toInt ≤ (bn B 0 : Int) - (cl x % bn B 0 : Nat) ∧ 1 ≤ z.toInt ∧ z.toInt ≤ (bn B 1 : Int) - (cl x / bn B 0 : Nat)
noncomputable def a133 (B : Nat → Int32) (W : Nat → Int64) (x y z : Int32) : Nat × Int32 × (Nat → Int32) × (Nat → Int64) := if okx x (ce B) then (@ite _ (bno B x y z) (Classical.propDecidable _) (if bn B 3 = 6 then (7, -1, B, W) else (0, nI (bn B 3), nwB B x y z, fun k => if k = bn B 3 then lN 0 else W k)) (5, -1, B, W)) else (2, -1, B, W)
theorem bno_cl {B : Nat → Int32} (h : WF B) {k : Nat} {y z : Int32} (hk : k < ce B) (hb : bno B (nI k) y z) : y = nI (cl y) ∧ z = nI (cl z) ∧ (1 ≤ cl y ∧ k % bn B 0 + cl y ≤ bn B 0) ∧ (1 ≤ cl z ∧ k / bn B 0 + cl z ≤ bn B 1) := by
  have hN := ce_le h
  have hW := h.w
  have hH := h.h
  unfold bno at hb
  rw [cl_nI (by omega)] at hb
  obtain ⟨h1, h2, h3, h4⟩ := hb
  generalize k % bn B 0 = K1 at *
  generalize k / bn B 0 = K2 at *
  obtain ⟨p1, p2, p3⟩ := okr_cl (x := y) (lo := 1) (hi := 6) ⟨h1, by omega⟩ (by decide)
  obtain ⟨p4, p5, p6⟩ := okr_cl (x := z) (lo := 1) (hi := 5) ⟨h3, by omega⟩ (by decide)
  have e1 := okx_t (x := y) (n := 7) ⟨by omega, by omega⟩ (by decide)
  have e2 := okx_t (x := z) (n := 6) ⟨by omega, by omega⟩ (by decide)
  rw [e1] at h2
  rw [e2] at h4
  exact ⟨p3, p6, ⟨p1, by omega⟩, p4, by omega⟩
theorem c133 {d : Nat} {Q : XQ} {S : XS} {I : XI} {J : XJ} {r : XR} {x y z : Int32} {B : Nat → Int32} {W : Nat → Int64} (hL : LAY S r) (c : CR I J 28 B W) (hQ : AB Q S I J r W (a133 B W x y z).1 (a133 B W x y z).2.1 (a133 B W x y z).2.2.1 (a133 B W x y z).2.2.2) : xcall (d + 3) 133 [.ref 0, .int x, .int y, .int z] S I J r Q := by
  have hN := ce_le c.wf
  have h3 := c.wf.c.2
  have bad : ∀ s, (∀ I', CR I' J 28 B W → ixc I I' → I' 0 13 = nI s → Q (some (.int (-1))) S I' J r) → Q (some (.int (-1))) S (up2 I 0 13 (nI s)) J r := fun s h => h _ (up0_cr c) ((ix.r I).c.s rfl) up_e
  unfold a133 at hQ
  refine E133 hL (c76 (lay0_28 hL) c (fun k h1 h2 => ?_) (fun h => ?_))
  · rw [if_pos (by rw [h2]; exact okx_nI h1 (by omega))] at hQ
    subst h2
    have hb : bno B (nI k) y z ↔ (1 ≤ y.toInt ∧ y.toInt ≤ (bn B 0 : Int) - (k % bn B 0 : Nat) ∧ 1 ≤ z.toInt ∧ z.toInt ≤ (bn B 1 : Int) - (k / bn B 0 : Nat)) := by
      unfold bno; rw [cl_nI (by omega)]
    refine K133_8 hL (yes (by decide) (c134 (lay0_28 hL) c h1 (fun q1 q2 q3 q4 => K133_27 hL (yes (by decide) ?_)) (fun q => K133_27 hL (nno rfl ?_))))
    · have hb' := hb.mpr ⟨q1, q2, q3, q4⟩
      rw [if_pos hb'] at hQ
      obtain ⟨y1, z1, y2, z2⟩ := bno_cl c.wf h1 hb'
      rw [c.n7]
      by_cases q : bn B 3 = 6
      · rw [if_pos q] at hQ
        exact no (by rw [nI_ltI (by omega) (by decide)]; omega) (E31 hL (K133_54 (bad 7 (fun I' a1 a2 a3 => hQ I' J a1 a2 a3 (fun _ _ => rfl)))))
      · rw [if_neg q] at hQ
        refine yes (by rw [nI_ltI (by omega) (by decide)]; omega) ?_
        have key := fun hQ' => c69 (d := d) (Q := fun v S1 I1 J1 r1 => xrun z0 (xcall (d + 2)) Q 133 66 [.ref 0, .int (nI k), .int y, .int z] (v.toList ++ []) S1 I1 J1 r1 0 0) (nm := lN 0) (lay0_28 hL) c (by omega) h1 y2 z2 hQ'
        rw [← y1, ← z1] at key
        refine key (fun I' J' g gj c' => K133_66 hL ?_)
        have n3 := nwB_3 (B := B) (c := nI k) (p := y) (q := z) (by omega)
        rw [c'.n7, n3, pk_sub (by omega), Nat.add_sub_cancel]
        exact E83 hL (K133_79 (hQ _ J' (up0_cr c') (g.c.s rfl) up_e gj))
    · rw [if_neg (fun h => q (hb.mp h))] at hQ
      exact E31 hL (K133_35 (bad 5 (fun I' a1 a2 a3 => hQ I' J a1 a2 a3 (fun _ _ => rfl))))
  · rw [if_neg h] at hQ
    exact K133_8 hL (nno rfl (E31 hL (K133_16 (bad 2 (fun I' a1 a2 a3 => hQ I' J a1 a2 a3 (fun _ _ => rfl))))))
theorem r286 {d : Nat} {Q : XQ} {S : XS} {I : XI} {J : XJ} {r : XR} {x y z : Int32} (hL : LAY S r) (w : WF (I 70)) (hQ : AN Q S I J r (a133 (I 70) (J 72) x y z).1 (a133 (I 70) (J 72) x y z).2.1 (a133 (I 70) (J 72) x y z).2.2.1 (a133 (I 70) (J 72) x y z).2.2.2) : xcall (d + 3) 286 [.ref 65, .int x, .int y, .int z] S I J r Q := by
  have hN := ce_le w
  have hc := w.c.2
  have hW := w.w
  have hH := w.h
  have l1 : (lN 1).toInt = 1 := rfl
  have bad : ∀ s, (∀ I', I' 70 = I 70 → ixm I I' → I' 0 13 = I 0 13 → I' 65 0 = nI s → Q (some (.int (-1))) S I' J r) → Q (some (.int (-1))) S (up2 (m2 I) 65 0 (nI s)) J r := fun s h => h _ rfl ((m2.m I).s rfl) rfl up_e
  unfold a133 at hQ
  refine E286 hL (r267 hL w (fun h1 h2 => ?_) (fun h => ?_))
  · have hx : okx x (ce (I 70)) := ⟨h1, h2⟩
    rw [if_pos hx] at hQ
    obtain ⟨k1, k2⟩ := okx_cl hx
    have hk : cl x % bn (I 70) 0 < 6 := Nat.lt_of_lt_of_le (Nat.mod_lt _ (by omega)) hW.2.2
    have hk2 : cl x / bn (I 70) 0 ≤ cl x := Nat.div_le_self _ _
    have n0 : ¬ nI (bn (I 70) 0) = 0 := nI_ne0 (by omega) (by omega)
    have bb : bno (I 70) x y z ↔ (1 ≤ y.toInt ∧ y.toInt ≤ (bn (I 70) 0 : Int) - (cl x % bn (I 70) 0 : Nat) ∧ 1 ≤ z.toInt ∧ z.toInt ≤ (bn (I 70) 1 : Int) - (cl x / bn (I 70) 0 : Nat)) := Iff.rfl
    generalize hkk : cl x = k at *
    subst k2
    refine K286_15 hL (yes (by decide) ?_)
    show ¬ I 70 0 = 0 ∧ xcall _ 221 [.long y.toInt64, .long (lN 1), .long (I 70 0 - (nI k - nI k / I 70 0 * I 70 0)).toInt64] S (m2 I) J r _
    rw [hW.1, pk_rem (by omega) (by omega) (by omega)]
    refine ⟨n0, c221 (fun h3 h4 => K286_46 hL (no (by decide) ?_)) (fun h => K286_46 hL (yes rfl ?_))⟩
    · rw [i_l] at h3 h4
      rw [i_l, i_subI (by omega) (by omega)] at h4
      show ¬ I 70 0 = 0 ∧ xcall _ 221 [.long z.toInt64, .long (lN 1), .long (I 70 1 - nI k / I 70 0).toInt64] S (m2 I) J r _
      rw [hW.1, hH.1, pk_div (by omega) (by omega) (by omega)]
      refine ⟨n0, c221 (fun h5 h6 => K286_71 hL (yes (by decide) ?_)) (fun h => K286_71 hL (nno rfl ?_))⟩
      · rw [i_l] at h5 h6
        rw [i_l, i_subI (by omega) (by omega)] at h6
        have hb' := bb.mpr ⟨by omega, by omega, by omega, by omega⟩
        rw [if_pos hb'] at hQ
        obtain ⟨y1, z1, y2, z2⟩ := bno_cl w k1 hb'
        show (¬ I 70 3 = nI 6 → vp_in (I 70 3) 30 ∧ xcall _ 246 [.ref 65, .int (nI 0), .int (nI k), .int y, .int z] S (m2 I) (up2 J 72 (I 70 3).toNatClampNeg (lN 0)) r _) ∧ (¬ ¬ I 70 3 = nI 6 → xcall _ 261 [.ref 65, .int (nI 7)] S (m2 I) J r _)
        rw [w.c.1, nI_eqI (by omega) (by decide)]
        by_cases q : bn (I 70) 3 = 6
        · rw [if_pos q] at hQ
          exact nno q (E261 hL (K286_101 (bad 7 (fun I' a1 a2 a3 a4 => hQ I' J a1 a2 a3 a4 (fun _ _ => rfl) rfl))))
        · rw [if_neg q] at hQ
          refine yes q ⟨vp_in_nI (by omega) (by decide), ?_⟩
          rw [nI_clamp (by omega)]
          have key := fun hQ' => r246 (d := d + 1) (I := m2 I) (J := up2 J 72 (bn (I 70) 3) (lN 0)) (Q := fun v S1 I1 J1 r1 => xrun z0 (xcall (d + 2)) Q 286 118 [.ref 65, .int (nI k), .int y, .int z, .int (m2 I 70 3)] (v.toList ++ []) S1 I1 J1 r1 0 0) (b := 0) (c := k) (p := cl y) (q := cl z) (B := I 70) hL (by decide) (hB0 (m2 I)) ⟨w.c.1, by omega⟩ hQ'
          rw [← y1, ← z1] at key
          refine key (fun I' g e e2 => K286_118 hL ?_)
          have e3 : I' 70 = nw0 (I 70) (nI k) y z := by
            funext i
            rcases Nat.lt_or_ge i 345 with q1 | q1
            · have := e i q1
              rw [Nat.mul_zero, Nat.zero_add] at this
              exact this
            · rw [e2 i (Or.inr (by omega)), nw0_o ⟨by omega, by omega, by omega, by omega, by omega, by omega⟩]; rfl
          have e4 : I' 70 3 = nI (bn (I 70) 3) := by rw [e3, nw0_o ⟨by omega, by omega, by omega, by omega, by omega, by omega⟩]; exact w.c.1
          show Q (some (.int (I 70 3))) S (up2 I' 70 3 (I' 70 3 + nI 1)) _ r
          rw [w.c.1, e4, nI_add]
          refine hQ _ _ ?_ ((m2.m I).t (g.t (f70.r _).u).m) ?_ ?_ (fun z hz => up_o hz) ?_
          · rw [up70, e3]; rfl
          · rw [up_o (by decide), g 0 (by decide)]; rfl
          · rw [up_o (by decide), g 65 (by decide)]; rfl
          · funext j
            show up2 J 72 (bn (I 70) 3) (lN 0) 72 j = if j = bn (I 70) 3 then lN 0 else J 72 j
            by_cases q2 : j = bn (I 70) 3
            · subst q2; rw [up_e, if_pos rfl]
            · rw [up_i q2, if_neg q2]
      · rw [i_l] at h
        rw [i_l, i_subI (by omega) (by omega)] at h
        rw [if_neg (fun hb => h ⟨by rw [l1]; exact (bb.mp hb).2.2.1, by have := (bb.mp hb).2.2.2; omega⟩)] at hQ
        exact E261 hL (K286_79 (bad 5 (fun I' a1 a2 a3 a4 => hQ I' J a1 a2 a3 a4 (fun _ _ => rfl) rfl)))
    · rw [i_l] at h
      rw [i_l, i_subI (by omega) (by omega)] at h
      rw [if_neg (fun hb => h ⟨by rw [l1]; exact (bb.mp hb).1, by have := (bb.mp hb).2.1; omega⟩)] at hQ
      exact E261 hL (K286_79 (bad 5 (fun I' a1 a2 a3 a4 => hQ I' J a1 a2 a3 a4 (fun _ _ => rfl) rfl)))
  · rw [if_neg (by exact h)] at hQ
    exact K286_15 hL (nno rfl (E261 hL (K286_23 (bad 2 (fun I' a1 a2 a3 a4 => hQ I' J a1 a2 a3 a4 (fun _ _ => rfl) rfl)))))
