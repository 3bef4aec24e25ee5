/-! years lived: the ships counted -/
def inC (b5 b6 : Int32) (st : YL) : Prop := st.1 5 = b5 + st.2.2.2.1 ∧ st.1 6 = b6 + st.2.2.2.2
theorem inC.b {b5 b6 : Int32} {st : YL} {B : Nat → Int32} (h : inC b5 b6 st) (h5 : B 5 = st.1 5) (h6 : B 6 = st.1 6) {rn : Nat} {dk : Int32} : inC b5 b6 (B, rn, dk, st.2.2.2.1, st.2.2.2.2) := ⟨h5.trans h.1, h6.trans h.2⟩
theorem dk_56 {B : Nat → Int32} {k m j : Nat} (hj : j < 55) : (dkB B k m).2 j = B j := by
  unfold dkB
  split
  · rfl
  · exact ub_o (by omega)
theorem rn_56 {B : Nat → Int32} {m j : Nat} (hj : j < 55) : ∀ n, (rnB B m n).2 j = B j
  | 0 => rfl
  | n + 1 => by
    have ih := rn_56 (B := B) (m := m) hj n
    rw [rnB]
    split
    · exact ih
    · show ub _ _ _ j = _
      rw [ub_o (by omega)]; exact ih
theorem vl_56 {B : Nat → Int32} {k j : Nat} {b : Int32} (hj : j < 55) : (vlB B k b).2 j = B j := by
  unfold vlB
  split
  · rfl
  · exact ub_o (by omega)
theorem ik_56 {B : Nat → Int32} {k c j : Nat} (hj : j < 55) : (ikB B k c).2 j = B j := by
  unfold ikB
  split
  · rfl
  · split
    · exact ub_o (by omega)
    · rfl
theorem sl_c {b5 b6 : Int32} {k f t dr : Nat} {st : YL} (h : inC b5 b6 st) : inC b5 b6 (dSl k f t dr st).2 := by
  by_cases q : WL st.1 (ope st.1 (bi k)) f t < 30
  · rw [dSl_y q]
    generalize ST1 st.1 (bi k) f t dr = x
    unfold shB inC
    by_cases e : x = -1
    · rw [if_pos e]
      dsimp only
      rw [if_neg (by decide), if_neg (by decide), ub_o (by decide), ub_e, h.1, h.2]
      exact ⟨rfl, Int32.add_assoc _ _ _⟩
    · rw [if_neg e]
      dsimp only
      rw [if_pos rfl, if_pos rfl, ub_e, ub_o (by decide), h.1, h.2]
      exact ⟨Int32.add_assoc _ _ _, rfl⟩
  · rw [dSl_n q]; exact h
theorem an_c {b5 b6 : Int32} {st : YL} (h : inC b5 b6 st) : inC b5 b6 (dAn st).2 := by
  unfold dAn
  split
  · exact h
  · split
    · exact h.b (dk_56 (by decide)) (dk_56 (by decide))
    · exact h.b (ub_o (by omega)) (ub_o (by omega))
theorem do_c {b5 b6 : Int32} {y : Nat → Int32} {st : YL} (h : inC b5 b6 st) : inC b5 b6 (dO y st).2 := by
  by_cases q1 : y 0 = nI 1
  · rw [dO1 q1]; exact h.b (dk_56 (by decide)) (dk_56 (by decide))
  by_cases q2 : y 0 = nI 2
  · rw [dO2 q2]; exact h.b (rn_56 (by decide) _) (rn_56 (by decide) _)
  by_cases q3 : y 0 = nI 3
  · rw [dO3 q3]; exact h.b (vl_56 (by decide)) (vl_56 (by decide))
  by_cases q4 : y 0 = nI 4
  · rw [dO4 q4]; exact h.b (vl_56 (by decide)) (vl_56 (by decide))
  by_cases q5 : y 0 = nI 5
  · rw [dO5 q5]; exact h.b (ik_56 (by decide)) (ik_56 (by decide))
  by_cases q6 : y 0 = nI 6
  · rw [dO6 q6]; exact h.b (ub_o (by omega)) (ub_o (by omega))
  by_cases q7 : y 0 = nI 7
  · rw [dO7 q7]; exact sl_c h
  by_cases q8 : y 0 = nI 8
  · rw [dO8 q8]; exact an_c h
  have e : dO y st = (1, st) := by unfold dO; rw [if_neg q1, if_neg q2, if_neg q3, if_neg q4, if_neg q5, if_neg q6, if_neg q7, if_neg q8]
  rw [e]; exact h
theorem yrun_c {L : Nat} {Y : YY} {b5 b6 : Int32} : ∀ (j l : Nat) (G : Nat → Int32) (dn : Nat) (ms : Int32) (st : YL), inC b5 b6 st → inC b5 b6 (yrun Y L j l G dn ms st).2.2.2 ∧ ((yrun Y L j l G dn ms st).2.2.1 = 0 ∨ (yrun Y L j l G dn ms st).2.2.1 = 1) ∧ (dn ≤ 300 → (yrun Y L j l G dn ms st).1 ≤ 300)
  | 0, l, G, dn, ms, st, h => by rw [yrun]; exact ⟨h, Or.inl rfl, fun h => h⟩
  | j + 1, l, G, dn, ms, st, h => by
    rw [yrun]
    split
    · exact ⟨h, Or.inl rfl, fun h => h⟩
    · split
      · split
        · split
          · exact yrun_c j _ _ _ _ _ h
          · exact yrun_c j _ _ _ _ _ h
        · exact yrun_c j _ _ _ _ _ h
      · split
        · exact ⟨h, Or.inr rfl, fun h => h⟩
        · have ih := yrun_c (L := L) (Y := Y) j (nl Y L l (dO (Y l) st).2.1) (if Y l 0 = nI 10 then ub G l (Y l 2) else G) (dn + 1) (if (dO (Y l) st).1 = 0 then ms + nI 1 else ms) (dO (Y l) st).2 (do_c h)
          exact ⟨ih.1, ih.2.1, fun _ => ih.2.2 (by omega)⟩
def m9 (I I' : XI) : Prop := (∀ q, q ≠ 65 → q ≠ 70 → q ≠ 73 → I' q = I q) ∧ ∀ i, ¬ (33 ≤ i ∧ i ≤ 40) → I' 65 i = I 65 i
def EM (Q : XQ) (S : XS) (I : XI) (J : XJ) (r : XR) (B : Nat → Int32) (R : YT) : Prop := ∀ I', m9 I I' → MCS I' R.2.2.2 → I' 65 35 = nI R.1 → I' 65 36 = R.2.1 → I' 65 40 = R.2.2.1 → I' 65 37 = B 5 → I' 65 38 = B 6 → Q none S I' J r
theorem r339 {d : Nat} {Q : XQ} {S : XS} {I : XI} {J : XJ} {r : XR} {L T sd : Nat} {G B : Nat → Int32} {Y : YY} (hL : LAY S r) (e70 : I 70 = B) (w : WF B) (pg : PG (bn B 3) (ce B) L T Y) (e74 : B 74 = nI T) (ym : YM B 75 L Y) (hs : sd < 65536) (hQ : EM Q S I J r B (yrun Y L 1000000 0 G 0 0 (B, sd, 0, 0, 0))) : xcall (d + 17) 339 [.ref 65, .int (nI sd)] S I J r Q := by
  obtain ⟨sg, hL6, hT, hst, va⟩ := pg
  refine E339 hL ?_
  have c70 : ∀ I1 : XI, I1 70 = I 70 → I1 70 = B := fun I1 h => h.trans e70
  generalize hI1 : up2 (up2 (up2 (up2 (up2 (up2 (up2 (up2 I 65 34 (nI sd)) 65 35 (nI 0)) 65 36 (nI 0)) 65 37 ((up2 (up2 (up2 I 65 34 (nI sd)) 65 35 (nI 0)) 65 36 (nI 0)) 70 5)) 65 38 ((up2 (up2 (up2 (up2 I 65 34 (nI sd)) 65 35 (nI 0)) 65 36 (nI 0)) 65 37 ((up2 (up2 (up2 I 65 34 (nI sd)) 65 35 (nI 0)) 65 36 (nI 0)) 70 5)) 70 6)) 65 39 (nI 0)) 65 40 (nI 0)) 65 33 (nI 0) = I1
  have g70 : I1 70 = B := by rw [← hI1]; simp (disch := omega) only [up_o]; exact e70
  have g37 : I1 65 37 = B 5 := by
    rw [← hI1]
    simp (disch := omega) only [up_i, up_e, up_o]
    rw [e70]
  have g38 : I1 65 38 = B 6 := by
    rw [← hI1]
    simp (disch := omega) only [up_i, up_e, up_o]
    rw [e70]
  have fr : m9 I I1 := by
    rw [← hI1]
    refine ⟨fun q a b c => ?_, fun i hi => ?_⟩
    · simp (disch := omega) only [up_o]
    · simp (disch := omega) only [up_i]
  have mr1 : MR I1 (B, sd, 0, 0, 0) 0 0 := by
    refine ⟨⟨g70, ?_, ?_, hs, w⟩, ?_, ?_, ?_, ?_⟩
    · rw [← hI1]; simp (disch := omega) only [up_i, up_e]
    · rw [← hI1]; simp (disch := omega) only [up_i, up_e]; rfl
    · rw [← hI1]; simp (disch := omega) only [up_i, up_e]
    · rw [← hI1]; simp (disch := omega) only [up_i, up_e]; rfl
    · rw [← hI1]; simp (disch := omega) only [up_i, up_e]; rfl
    · rw [← hI1]; simp (disch := omega) only [up_i, up_e]; rfl
  rw [g70, e74]
  have fm : ∀ I2, mr I1 I2 → m9 I I2 ∧ I2 65 37 = B 5 ∧ I2 65 38 = B 6 := fun I2 h => ⟨⟨fun q a b c => (h.1 q a b c).trans (fr.1 q a b c), fun i hi => (h.2 i (by omega) (by omega) (by omega) (by omega) (by omega) (by omega)).trans (fr.2 i hi)⟩, (h.2 37 (by decide) (by decide) (by decide) (by decide) (by decide) (by decide)).trans g37, (h.2 38 (by decide) (by decide) (by decide) (by decide) (by decide) (by decide)).trans g38⟩
  refine E340 (d := d + 15) ?_
  refine ex_all (R := yrun Y L 1000000 0 G 0 0 (B, sd, 0, 0, 0)) hL6 (by omega) sg (Nat.le_refl L) (d + 15) T _ S J r I1 1000000 0 G 0 (B, sd, 0, 0, 0) _ 0 0 (by omega) hL (by omega) hT mr1 ym va rfl (by decide) (by decide) (fun I2 j2 dn2 G2 ms2 st2 cu su c1 c2 c3 c4 c5 c6 c7 c8 => ?_) (fun I2 c1 c2 => ?_)
  · obtain ⟨a1, a2, a3⟩ := fm I2 c1
    have hj : 1 ≤ j2 := by
      rcases c6 with ⟨z1, z2, z3⟩ | ⟨z0, z1, z2⟩ <;> omega
    obtain ⟨j2, rfl⟩ : ∃ j0, j2 = j0 + 1 := ⟨j2 - 1, by omega⟩
    rw [yrun, if_pos (Nat.le_refl L)] at c5
    rw [← c5] at hQ
    rw [hst]
    exact K340_2 hL (yes (Int32.le_refl _) (K339_63 (hQ I2 a1 c2.1 c2.2.1 c2.2.2.1 c2.2.2.2.2 a2 a3)))
  · obtain ⟨a1, a2, a3⟩ := fm I2 c1
    exact K339_63 (hQ I2 a1 c2.2.1 c2.2.2.1 c2.2.2.2.1 c2.2.2.2.2 a2 a3)
