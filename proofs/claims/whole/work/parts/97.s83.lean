/-! years lived, as calls -/
theorem i_acs (b s : Int32) : b + s - b = s := by rw [Int32.add_comm]; exact Int32.add_sub_cancel s b
def kl (I I' : XI) : Prop := ∀ q i, scr q i = false → ¬ (28 ≤ q ∧ q ≤ 38) → q ≠ 27 → ¬ (q = 0 ∧ i = 16) → I' q i = I q i
def kL5 (I : XI) (a : Nat) (R : YT) : Prop := I a 0 = R.2.1 ∧ I a 1 = R.2.2.2.2.2.2.1 ∧ I a 2 = R.2.2.2.2.2.2.2 ∧ I a 3 = R.2.2.2.2.2.1 ∧ I a 4 = R.2.2.1
theorem YA.y {I : XI} {L T : Nat} {Y : YY} (h : YA I 39 L T Y) : LY I 28 L Y := ⟨h.2.2.1, fun i hi f hf => h.2.2.2 i hi f hf⟩
theorem scr_lg {q i : Nat} (h : scr q i = false) (h2 : ¬ (28 ≤ q ∧ q ≤ 38)) : q < 22 ∨ (26 < q ∧ q < 28) ∨ 28 + 10 < q := by
  by_cases c1 : q < 22
  · exact Or.inl c1
  by_cases c2 : 26 < q ∧ q < 28
  · exact Or.inr (Or.inl c2)
  by_cases c3 : 38 < q
  · exact Or.inr (Or.inr c3)
  have : q = 22 ∨ q = 23 ∨ q = 24 ∨ q = 25 ∨ q = 26 := by omega
  rcases this with rfl | rfl | rfl | rfl | rfl <;> cases h
theorem c173b {d : Nat} {Q : XQ} {S : XS} {I : XI} {J : XJ} {r : XR} {x : Int32} (hL : LAY S r) (hx : ¬ (0 ≤ x.toInt ∧ x.toInt ≤ 9999)) (hQ : Q (some (.int (-1))) S (up2 I 0 13 (nI 5)) J r) : xcall (d + 2) 173 [.ref 0, .int x] S I J r Q := by
  have z : (nI 9999).toInt = 9999 := rfl
  have z0' : (nI 0).toInt = 0 := rfl
  refine E173 (c101 (d := d) (fun h1 h2 => ?_) (fun _ => K173_8 hL (nno rfl (E31 (d := d) hL (K173_16 hQ)))))
  rw [z] at h2
  rw [z0'] at h1
  exact absurd ⟨h1, h2⟩ hx
theorem c173n {d : Nat} {Q : XQ} {S : XS} {I : XI} {J : XJ} {r : XR} {sd : Nat} (hL : LAY S r) (hx : sd ≤ 9999) (hy : I 39 0 = 0) (hQ : Q (some (.int (-1))) S (up2 I 0 13 (nI 8)) J r) : xcall (d + 2) 173 [.ref 0, .int (nI sd)] S I J r Q := by
  have z : (nI 9999).toInt = 9999 := rfl
  have z0' : (nI 0).toInt = 0 := rfl
  refine E173 (c101 (d := d) (fun h1 h2 => K173_8 hL (yes (by decide) (nno hy (E31 (d := d) hL (K173_36 hQ))))) (fun h => absurd ⟨?_, ?_⟩ h))
  · rw [z0', i_toI (by omega)]; omega
  · rw [i_toI (by omega), z]; omega
theorem c173 {d : Nat} {Q : XQ} {S : XS} {I : XI} {J : XJ} {r : XR} {sd L T : Nat} {Y : YY} {B : Nat → Int32} {W : Nat → Int64} (hL : LAY S r) (hx : sd ≤ 9999) (c : CR I J 28 B W) (y : YA I 39 L T Y) (pg : PG (bn B 3) (ce B) L T Y)
    (hQ : ∀ I', kl I I' → CR I' J 28 (yrun Y L 1000000 0 (I 26) 0 0 (B, sd, 0, 0, 0)).2.2.2.1 W → kL5 I' 27 (yrun Y L 1000000 0 (I 26) 0 0 (B, sd, 0, 0, 0)) → I' 0 16 = 1 → I' 0 13 = nI 0 → Q (some (.int (nI (yrun Y L 1000000 0 (I 26) 0 0 (B, sd, 0, 0, 0)).1))) S I' J r) : xcall (d + 9) 173 [.ref 0, .int (nI sd)] S I J r Q := by
  have z : (nI 9999).toInt = 9999 := rfl
  have z0' : (nI 0).toInt = 0 := rfl
  have hy1 : ¬ I (28 + 11) 0 = 0 := by
    have : I (28 + 11) 0 = 1 := y.1
    rw [this]; decide
  have yc := yrun_c (L := L) (Y := Y) (b5 := B 5) (b6 := B 6) 1000000 0 (I 26) 0 0 (B, sd, 0, 0, 0) ⟨(Int32.add_zero _).symm, (Int32.add_zero _).symm⟩
  refine E173 (c101 (d := d + 7) (fun h1 h2 => K173_8 hL (yes (by decide) (yes hy1 ?_))) (fun h => absurd ⟨?_, ?_⟩ h))
  · refine c174 (d := d) hL (lay0_28 hL) (Or.inl rfl) pg.2.1 pg.wp (by omega) c y.y pg.2.2.2.2 ?_
    generalize yrun Y L 1000000 0 (I 26) 0 0 (B, sd, 0, 0, 0) = R at *
    intro I1 f1 h1 e3 e4 e8
    refine K173_49 hL ?_
    simp (disch := omega) only [up_o, up_i, up_e]
    have fin : ∀ v : Int32, R.2.2.1 = v → xcall (d + 8) 83 [.ref 0, .int (I1 22 3)] S (up2 (up2 (up2 (up2 (up2 (up2 I1 27 0 (I1 22 4)) 27 1 (I1 22 5)) 27 2 (I1 22 6)) 27 3 (I1 22 7)) 27 4 v) 0 16 (nI 1)) J r (fun v S1 I1 J1 r1 => xrun z0 (xcall (d + 8)) Q 173 138 [.ref 0, .int (nI sd)] (v.toList ++ []) S1 I1 J1 r1 0 0) := fun v hv => by
      refine E83 (d := d + 7) hL (K173_138 ?_)
      rw [e3]
      refine hQ _ (fun q i hs hq hq27 hq16 => ?_) (h1.1.fr (fun q q1 q2 => by simp (disch := omega) only [up_o])) ⟨?_, ?_, ?_, ?_, ?_⟩ ?_ up_e
      · have e0 : up2 (up2 (up2 (up2 (up2 (up2 (up2 I1 27 0 (I1 22 4)) 27 1 (I1 22 5)) 27 2 (I1 22 6)) 27 3 (I1 22 7)) 27 4 v) 0 16 (nI 1)) 0 13 (nI 0) q i = I1 q i := by
          by_cases e0 : q = 0
          · subst e0
            have h13 : i ≠ 13 := fun e => by subst e; cases hs
            rw [up_i h13, up_i (by omega)]
            simp (disch := omega) only [up_o]
          · simp (disch := omega) only [up_o]
        rw [e0, f1 q (scr_lg hs hq)]
      · simp (disch := omega) only [up_o, up_i, up_e]; exact e4
      · simp (disch := omega) only [up_o, up_i, up_e]; exact h1.2.2.2.1
      · simp (disch := omega) only [up_o, up_i, up_e]; exact h1.2.2.2.2.1
      · simp (disch := omega) only [up_o, up_i, up_e]; exact h1.2.2.1
      · simp (disch := omega) only [up_o, up_i, up_e]; exact hv.symm
      · simp (disch := omega) only [up_i, up_e]; rfl
    rw [e8]
    rcases yc.2.1 with e | e
    · exact yes e (fin _ e)
    · exact no (by rw [e]; decide) (fin _ e)
  · rw [z0', i_toI (by omega)]; omega
  · rw [i_toI (by omega), z]; omega
def km (I I' : XI) : Prop := ∀ q i, scr q i = false → q ≠ 70 → q ≠ 75 → ¬ (q = 65 ∧ i = 32) → I' q i = I q i
theorem r338b {d : Nat} {Q : XQ} {S : XS} {I : XI} {J : XJ} {r : XR} {x : Int32} (hL : LAY S r) (hx : ¬ (0 ≤ x.toInt ∧ x.toInt ≤ 9999)) (hQ : Q (some (.int (-1))) S (up2 (m2 I) 65 0 (nI 5)) J r) : xcall (d + 2) 338 [.ref 65, .int x] S I J r Q := by
  have z : (lN 9999).toInt = 9999 := rfl
  have z0' : (lN 0).toInt = 0 := rfl
  refine E338 hL (c221 (d := d) (fun h1 h2 => ?_) (fun _ => K338_19 hL (nno rfl (E261 (d := d) hL (K338_27 hQ)))))
  rw [z, i_l] at h2
  rw [z0', i_l] at h1
  exact absurd ⟨h1, h2⟩ hx
theorem r338n {d : Nat} {Q : XQ} {S : XS} {I : XI} {J : XJ} {r : XR} {sd : Nat} (hL : LAY S r) (hx : sd ≤ 9999) (hy : I 70 73 = 0) (hQ : Q (some (.int (-1))) S (up2 (m2 I) 65 0 (nI 8)) J r) : xcall (d + 2) 338 [.ref 65, .int (nI sd)] S I J r Q := by
  have z : (lN 9999).toInt = 9999 := rfl
  have z0' : (lN 0).toInt = 0 := rfl
  have hy' : m2 I 70 73 = 0 := hy
  refine E338 hL (c221 (d := d) (fun h1 h2 => K338_19 hL (yes (by decide) (nno hy' (E261 (d := d) hL (K338_44 hQ))))) (fun h => absurd ⟨?_, ?_⟩ h))
  · rw [i_l, i_toI (by omega), z0']; omega
  · rw [i_l, i_toI (by omega), z]; omega
theorem r338 {d : Nat} {Q : XQ} {S : XS} {I : XI} {J : XJ} {r : XR} {sd L T : Nat} {G : Nat → Int32} {Y : YY} (hL : LAY S r) (hx : sd ≤ 9999) (w : WF (I 70)) (e73 : I 70 73 = 1) (e74 : I 70 74 = nI T) (ym : YM (I 70) 75 L Y) (pg : PG (bn (I 70) 3) (ce (I 70)) L T Y)
    (hQ : ∀ I', km I I' → I' 70 = (yrun Y L 1000000 0 G 0 0 (I 70, sd, 0, 0, 0)).2.2.2.1 → kL5 I' 75 (yrun Y L 1000000 0 G 0 0 (I 70, sd, 0, 0, 0)) → I' 65 32 = 1 → I' 65 0 = nI 0 → smc (I 70) (I' 70) → I' 0 13 = I 0 13 → Q (some (.int (nI (yrun Y L 1000000 0 G 0 0 (I 70, sd, 0, 0, 0)).1))) S I' J r) (hsm : smc (I 70) (yrun Y L 1000000 0 G 0 0 (I 70, sd, 0, 0, 0)).2.2.2.1) : xcall (d + 18) 338 [.ref 65, .int (nI sd)] S I J r Q := by
  have z : (lN 9999).toInt = 9999 := rfl
  have z0' : (lN 0).toInt = 0 := rfl
  have hy1 : ¬ m2 I 70 73 = 0 := by
    have : m2 I 70 73 = 1 := e73
    rw [this]; decide
  have yc := yrun_c (L := L) (Y := Y) (b5 := I 70 5) (b6 := I 70 6) 1000000 0 G 0 0 (I 70, sd, 0, 0, 0) ⟨(Int32.add_zero _).symm, (Int32.add_zero _).symm⟩
  refine E338 hL (c221 (d := d + 16) (fun h1 h2 => K338_19 hL (yes (by decide) (yes hy1 ?_))) (fun h => absurd ⟨?_, ?_⟩ h))
  · refine r339 (d := d) (B := I 70) (G := G) (I := m2 I) hL rfl w pg e74 ym (by omega) ?_
    generalize yrun Y L 1000000 0 G 0 0 (I 70, sd, 0, 0, 0) = R at *
    intro I1 f1 h1 e35 e36 e40 e37 e38
    refine K338_50 hL ?_
    simp (disch := omega) only [up_o, up_i, up_e]
    have e65 : ∀ i, ¬ (33 ≤ i ∧ i ≤ 40) → I1 65 i = m2 I 65 i := f1.2
    rw [e35]
    refine hQ _ (fun q i hs hq hq75 hq32 => ?_) ?_ ⟨?_, ?_, ?_, ?_, ?_⟩ ?_ ?_ ?_ ?_
    · by_cases e0 : q = 65
      · subst e0
        have e : up2 (up2 (up2 (up2 (up2 (up2 I1 75 0 (I1 65 36)) 75 1 (I1 70 5 - I1 65 37)) 75 2 (I1 70 6 - I1 65 38)) 75 3 (I1 65 39)) 75 4 (I1 65 40)) 65 32 (nI 1) 65 i = I1 65 i := by
          rw [up_i (by omega)]
          simp (disch := omega) only [up_o]
        rw [e]
        have hi : ¬ (33 ≤ i ∧ i ≤ 40) := fun hi => by
          have : i = 33 ∨ i = 34 ∨ i = 35 ∨ i = 36 ∨ i = 37 ∨ i = 38 ∨ i = 39 ∨ i = 40 := by omega
          rcases this with rfl | rfl | rfl | rfl | rfl | rfl | rfl | rfl <;> cases hs
        rw [e65 i hi]
        have h1' : i ≠ 1 := fun e => by subst e; cases hs
        have h0' : i ≠ 0 := fun e => by subst e; cases hs
        show up2 (up2 I 65 1 _) 65 0 _ 65 i = _
        rw [up_i h0', up_i h1']
      · simp (disch := omega) only [up_o]
        have h73 : q ≠ 73 := fun e => by subst e; cases hs
        rw [f1.1 q e0 hq h73]
        show up2 (up2 I 65 1 _) 65 0 _ q i = _
        rw [up_o e0, up_o e0]
    · simp (disch := omega) only [up_o]; exact h1.1
    · simp (disch := omega) only [up_o, up_i, up_e]; exact e36
    · simp (disch := omega) only [up_o, up_i, up_e]
      rw [h1.1, e37, yc.1.1]; exact i_acs _ _
    · simp (disch := omega) only [up_o, up_i, up_e]
      rw [h1.1, e38, yc.1.2]; exact i_acs _ _
    · simp (disch := omega) only [up_o, up_i, up_e]; exact h1.2.2.1
    · simp (disch := omega) only [up_o, up_i, up_e]; exact e40
    · rw [up_e]; rfl
    · rw [up_i (by decide)]
      simp (disch := omega) only [up_o]
      rw [e65 0 (by decide)]; rfl
    · simp (disch := omega) only [up_o]
      rw [h1.1]; exact hsm
    · simp (disch := omega) only [up_o]
      rw [f1.1 0 (by decide) (by decide) (by decide)]; rfl
  · rw [i_l, i_toI (by omega), z0']; omega
  · rw [i_l, i_toI (by omega), z]; omega
theorem yrun_s {L : Nat} {Y : YY} (wp : WPr L Y) : ∀ (j l : Nat) (G : Nat → Int32) (dn : Nat) (ms : Int32) (st : YL), l ≤ L → WF st.1 → VA (bn st.1 3) (ce st.1) L Y → smc st.1 (yrun Y L j l G dn ms st).2.2.2.1
  | 0, l, G, dn, ms, st, hl, w, va => by rw [yrun]; exact smc.r w
  | j + 1, l, G, dn, ms, st, hl, w, va => by
    rw [yrun]
    split
    · exact smc.r w
    rename_i hlL
    obtain ⟨k, k1, k2, k3, k4, k5⟩ := va l (by omega)
    split
    · rename_i e15
      obtain ⟨p, p1, p2⟩ := (wp l (by omega)).1 e15
      have hb : bn (Y l) 5 + 1 ≤ L := by
        have : bn (Y l) 5 ≤ p := by
          unfold bn; rw [p2]
          rcases Nat.lt_or_ge p 2147483648 with q | q
          · rw [nI_clamp q]; exact Nat.le_refl _
          · have := (nI p).toNatClampNeg_lt; omega
        omega
      split
      · split
        · exact yrun_s wp j _ _ _ _ _ (by omega) w va
        · exact yrun_s wp j _ _ _ _ _ hb w va
      · exact yrun_s wp j _ _ _ _ _ (by omega) w va
    · rename_i n15
      split
      · exact smc.r w
      · have h14 : k ≤ 14 := by
          rcases (by omega : k ≤ 14 ∨ k = 15) with q | q
          · exact q
          · subst q; exact absurd k1 n15
        have hs := sm_do (st := st) w k1 k2 h14 k5
        refine hs.t (yrun_s wp j _ _ _ _ _ ?_ hs.1 (va.m hs))
        unfold nl
        split
        · exact Nat.le_refl _
        · split
          · rename_i hkk
            have hk12 : 12 ≤ k := by
              rcases hkk with e | e | e
              · rw [k1, nI_eqI (by omega) (by decide)] at e; omega
              · rw [k1, nI_eqI (by omega) (by decide)] at e; omega
              · rw [k1, nI_eqI (by omega) (by decide)] at e; omega
            obtain ⟨p, p1, p2, p3⟩ := (wp l (by omega)).2 k k1 (by omega) (by omega)
            have hb : bn (Y l) 5 ≤ p := by
              unfold bn; rw [p3]
              rcases Nat.lt_or_ge p 2147483648 with q | q
              · rw [nI_clamp q]; exact Nat.le_refl _
              · have := (nI p).toNatClampNeg_lt; omega
            split <;> omega
          · omega
