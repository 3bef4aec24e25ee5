/-! years lived: by lines -/
abbrev YT := Nat × Int32 × Int32 × YL
def yrun (Y : YY) (L : Nat) : Nat → Nat → (Nat → Int32) → Nat → Int32 → YL → YT
  | 0, _, _, dn, ms, st => (dn, ms, 0, st)
  | j + 1, l, G, dn, ms, st =>
    if L ≤ l then (dn, ms, 0, st)
    else if Y l 0 = nI 15 then (if Y (bn (Y l) 5) 0 = nI 10 then (if G (bn (Y l) 5) - nI 1 ≤ 0 then yrun Y L j (l + 1) (ub G (bn (Y l) 5) (G (bn (Y l) 5) - nI 1)) dn ms st else yrun Y L j (bn (Y l) 5 + 1) (ub G (bn (Y l) 5) (G (bn (Y l) 5) - nI 1)) dn ms st) else yrun Y L j (l + 1) G dn ms st)
    else if 300 ≤ dn then (dn, ms, 1, st)
    else yrun Y L j (nl Y L l (dO (Y l) st).2.1) (if Y l 0 = nI 10 then ub G l (Y l 2) else G) (dn + 1) (if (dO (Y l) st).1 = 0 then ms + nI 1 else ms) (dO (Y l) st).2
def WPr (L : Nat) (Y : YY) : Prop := ∀ x, x < L → (Y x 0 = nI 15 → ∃ p, p < x ∧ Y x 5 = nI p) ∧ ∀ k, Y x 0 = nI k → 10 ≤ k → k ≤ 14 → ∃ p, x < p ∧ p < L ∧ Y x 5 = nI p
theorem SG.wp {Y : YY} {f i e : Nat} (h : SG Y f i e) : ∀ x, i ≤ x → x < e → (Y x 0 = nI 15 → ∃ p, p < x ∧ Y x 5 = nI p) ∧ ∀ k, Y x 0 = nI k → 10 ≤ k → k ≤ 14 → ∃ p, x < p ∧ p < e ∧ Y x 5 = nI p := by
  refine h (fun _ i e => ∀ x, i ≤ x → x < e → (Y x 0 = nI 15 → ∃ p, p < x ∧ Y x 5 = nI p) ∧ ∀ k, Y x 0 = nI k → 10 ≤ k → k ≤ 14 → ∃ p, x < p ∧ p < e ∧ Y x 5 = nI p) (fun f i x h1 h2 => absurd h2 (by omega)) (fun f i e ih s x h1 h2 => ?_) (fun f i q e ih b ig x h1 h2 => ?_)
  · by_cases ex : x = e
    · subst ex
      obtain ⟨k, s1, s2, s3⟩ := s
      refine ⟨fun e => ?_, fun k' e a b => ?_⟩
      · rw [s1, nI_eqI (by omega) (by decide)] at e; omega
      · rw [s1, nI_eqI (by omega) (by omega)] at e; omega
    · have := ih x h1 (by omega)
      refine ⟨this.1, fun k a b c => ?_⟩
      obtain ⟨p, p1, p2, p3⟩ := this.2 k a b c
      exact ⟨p, p1, by omega, p3⟩
  · obtain ⟨b1, ⟨k0, b2, b3, b4, b5⟩, b6, b7, b8⟩ := b
    by_cases ex : x = e
    · subst ex
      refine ⟨fun _ => ⟨q, b1, b8⟩, fun k' e a b => ?_⟩
      rw [b7, nI_eqI (by omega) (by omega)] at e; omega
    · by_cases eq : x = q
      · subst eq
        refine ⟨fun e => ?_, fun k' e a b => ⟨_, b1, by omega, b6⟩⟩
        rw [b2, nI_eqI (by omega) (by omega)] at e; omega
      · rcases Nat.lt_or_ge x q with z | z
        · have := ih x h1 z
          refine ⟨this.1, fun k a b c => ?_⟩
          obtain ⟨p, p1, p2, p3⟩ := this.2 k a b c
          exact ⟨p, p1, by omega, p3⟩
        · have := ig x (by omega) (by omega)
          refine ⟨this.1, fun k a b c => ?_⟩
          obtain ⟨p, p1, p2, p3⟩ := this.2 k a b c
          exact ⟨p, p1, by omega, p3⟩
theorem PG.wp {N c L T : Nat} {Y : YY} (h : PG N c L T Y) : WPr L Y := fun x hx => h.1.wp x (Nat.zero_le _) hx
def lg (a : Nat) (I I' : XI) : Prop := ∀ q, (q < 22 ∨ (26 < q ∧ q < a) ∨ a + 10 < q) → I' q = I q
theorem lg.t {a : Nat} {I I' I2 : XI} (h : lg a I I') (h2 : lg a I' I2) : lg a I I2 := fun q hq => (h2 q hq).trans (h q hq)
theorem lf.g {a : Nat} {I I' : XI} (h : lf a I I') : lg a I I' := fun q hq => h.1 q (by omega)
theorem lg.u {a q i : Nat} {v : Int32} {I : XI} (hq : q = 22 ∨ q = 26) (ha : 26 < a) : lg a I (up2 I q i v) := fun p hp => up_o (by omega)
def EQ (Q : XQ) (S : XS) (I : XI) (J : XJ) (r : XR) (a : Nat) (W : Nat → Int64) (R : YT) : Prop := ∀ I', lg a I I' → LCS I' J a W R.2.2.2 → I' 22 3 = nI R.1 → I' 22 4 = R.2.1 → I' 22 8 = R.2.2.1 → Q none S I' J r
theorem EQ.x {Q : XQ} {S : XS} {I I1 : XI} {J : XJ} {r : XR} {a : Nat} {W : Nat → Int64} {R : YT} (h : EQ Q S I J r a W R) (k : lg a I I1) : EQ Q S I1 J r a W R := fun I' f => h I' (k.t f)
theorem LY.k {I I' : XI} {a L : Nat} {Y : YY} (h : LY I a L Y) (k : lg a I I') : LY I' a L Y := ⟨by rw [k (a + 11) (by omega)]; exact h.1, fun i hi f hf => by rw [k _ (by omega)]; exact h.2 i hi f hf⟩
theorem LCS.w {I : XI} {J : XJ} {a q i : Nat} {v : Int32} {W : Nat → Int64} {st : YL} (h : LCS I J a W st) (ha : 26 < a) (hq : q = 26 ∨ (q = 22 ∧ (i = 3 ∨ i = 4 ∨ i = 8))) : LCS (up2 I q i v) J a W st := by
  have e : ∀ j, j = 2 ∨ j = 7 ∨ j = 5 ∨ j = 6 → up2 I q i v 22 j = I 22 j := fun j hj => by
    rcases hq with rfl | ⟨rfl, hi⟩
    · rw [up_o (by decide)]
    · rw [up_i (by omega)]
  exact ⟨h.1.fr (fun p p1 p2 => up_o (by omega)), by rw [e 2 (by omega)]; exact h.2.1, by rw [e 7 (by omega)]; exact h.2.2.1, by rw [e 5 (by omega)]; exact h.2.2.2.1, by rw [e 6 (by omega)]; exact h.2.2.2.2.1, h.2.2.2.2.2⟩
theorem VA.m {L : Nat} {B B' : Nat → Int32} {Y : YY} (h : VA (bn B 3) (ce B) L Y) (s : smc B B') : VA (bn B' 3) (ce B') L Y := by rw [s.n, s.e]; exact h
theorem k174 {d : Nat} {Q : XQ} {S : XS} {J : XJ} {r : XR} {a L : Nat} {Y : YY} {W : Nat → Int64} {R : YT} {w2 : Value} (hL : LAY S r) (h0 : LY0 S r a) (ha : a = 28 ∨ a = 46) (hL6 : L ≤ 60) (wp : WPr L Y) : ∀ (j i l dn : Nat) (ms : Int32) (st : YL) (I : XI) (cu su : Nat), i + j = 1000000 → l ≤ L → dn ≤ 300 → LCS I J a W st → LY I a L Y → VA (bn st.1 3) (ce st.1) L Y → I 22 3 = nI dn → I 22 4 = ms → I 22 8 = 0 → yrun Y L j l (I 26) dn ms st = R → EQ Q S I J r a W R → xrun z0 (xcall (d + 7)) Q 174 46 [.ref 22, .ref a, w2, .ref (a + 11), .int (nI l), .int (nI i)] [] S I J r cu su := by
  intro j
  have h7 := LY0.l18 h0
  have ha6 : 26 < a := by omega
  induction j with
  | zero =>
    intro i l dn ms st I cu su hi hl hd h y va e3 e4 e8 hR hQ
    have : i = 1000000 := by omega
    subst this
    rw [yrun] at hR
    subst hR
    exact K174_46 h0 (yes (by decide) (hQ I (fun _ _ => rfl) h e3 e4 e8))
  | succ j ih =>
    intro i l dn ms st I cu su hi hl hd h y va e3 e4 e8 hR hQ
    rw [yrun] at hR
    refine K174_46 h0 (no (by rw [nI_leI (by decide) (by omega)]; omega) ?_)
    by_cases q0 : L ≤ l
    · rw [if_pos q0] at hR
      subst hR
      refine E89 (d := d + 6) h7 (no (by rw [nI_nlt0 (by omega)]; exact id) (yes (by rw [y.1, nI_leI (by omega) (by omega)]; exact q0) (K174_59 hL h0 (yes rfl (hQ I (fun _ _ => rfl) h e3 e4 e8)))))
    rw [if_neg q0] at hR
    have v60 : vp_in (nI l) 60 := vp_in_nI (by omega) (by omega)
    refine c89 (d := d + 6) h7 y.1 hL6 (by omega) (K174_59 hL h0 (no (by decide) (nno e8 ⟨v60, ?_⟩)))
    obtain ⟨k, k1, k2, k3, k4, k5⟩ := va l (by omega)
    have g0 : I (a + 11 + 1) (nI l).toNatClampNeg = nI k := by rw [nI_clamp (by omega)]; exact (y.2 l (by omega) 0 (by decide)).trans k1
    rw [g0, nI_eqI (by omega) (by decide)]
    by_cases q15 : k = 15
    · -- an end
      subst q15
      rw [if_pos k1] at hR
      obtain ⟨p, p1, p2⟩ := (wp l (by omega)).1 k1
      rw [bn_of p2 (by omega)] at hR
      refine nno rfl (E175 (d := d + 6) h7 ⟨v60, ?_⟩)
      have g5 : I (a + 11 + 6) (nI l).toNatClampNeg = nI p := by rw [nI_clamp (by omega)]; exact (y.2 l (by omega) 5 (by decide)).trans p2
      have vp : vp_in (nI p) 60 := vp_in_nI (by omega) (by omega)
      rw [g5]
      refine c89 (d := d + 5) h7 y.1 hL6 (by omega) (K175_12 hL h7 (no (by decide) ⟨vp, ?_⟩))
      obtain ⟨kp, kp1, kp2, kp3, kp4, kp5⟩ := va p (by omega)
      have gp : I (a + 11 + 1) (nI p).toNatClampNeg = nI kp := by rw [nI_clamp (by omega)]; exact (y.2 p (by omega) 0 (by decide)).trans kp1
      rw [gp, nI_clamp (by omega), nI_eqI (by omega) (by decide)]
      by_cases q10 : kp = 10
      · subst q10
        rw [if_pos kp1] at hR
        refine yes rfl ⟨vp, vp, vp, ?_⟩
        rw [up_e]
        have fr : lg a I (up2 I 26 p (I 26 p - nI 1)) := lg.u (Or.inr rfl) ha6
        have on : ∀ l', l' ≤ L → yrun Y L j l' (ub (I 26) p (I 26 p - nI 1)) dn ms st = R → xrun z0 (xcall (d + 7)) Q 174 46 [.ref 22, .ref a, w2, .ref (a + 11), .int (nI l'), .int (nI i + nI 1)] [] S (up2 I 26 p (I 26 p - nI 1)) J r cu su := fun l' hl' hR => by
          rw [nI_add]
          exact ih (i + 1) l' dn ms st _ cu su (by omega) hl' hd (h.w ha6 (Or.inl rfl)) (y.k fr) va (by rw [up_o (by decide)]; exact e3) (by rw [up_o (by decide)]; exact e4) (by rw [up_o (by decide)]; exact e8) (by rw [upr]; exact hR) (hQ.x fr)
        by_cases g : I 26 p - nI 1 ≤ 0
        · rw [if_pos g] at hR
          refine yes g (K174_88 ?_)
          rw [nI_add]
          exact on (l + 1) (by omega) hR
        · rw [if_neg g] at hR
          refine no g (K174_88 ?_)
          rw [nI_add]
          exact on (p + 1) (by omega) hR
      · rw [if_neg (by rw [kp1, nI_eqI (by omega) (by decide)]; exact q10)] at hR
        refine no q10 (K174_88 ?_)
        rw [nI_add, nI_add]
        exact ih (i + 1) (l + 1) dn ms st I cu su (by omega) (by omega) hd h y va e3 e4 e8 hR hQ
    · rw [if_neg (by rw [k1, nI_eqI (by omega) (by decide)]; exact q15)] at hR
      refine yes q15 ?_
      rw [e3, nI_ltI (by omega) (by decide)]
      by_cases q3 : 300 ≤ dn
      · rw [if_pos q3] at hR
        subst hR
        have fr : lg a I (up2 I 22 8 (nI 1)) := lg.u (Or.inl rfl) ha6
        have fin : Q none S (up2 I 22 8 (nI 1)) J r := hQ _ fr (h.w ha6 (Or.inr ⟨rfl, by decide⟩)) (by rw [up_i (by decide)]; exact e3) (by rw [up_i (by decide)]; exact e4) up_e
        refine no (by omega) (K174_46 h0 ⟨fun _ => fin, fun _ => c89 (d := d + 6) h7 (L := L) ?_ hL6 (by omega) (K174_59 hL h0 (no (by decide) (yes (by rw [up_e]; decide) fin)))⟩)
        rw [up_o (by omega)]; exact y.1
      · rw [if_neg q3] at hR
        refine yes (by omega) ?_
        rw [nI_add]
        have f1 : lg a I (up2 I 22 3 (nI (dn + 1))) := lg.u (Or.inl rfl) ha6
        have h1 := h.w (q := 22) (i := 3) (v := nI (dn + 1)) ha6 (Or.inr ⟨rfl, by decide⟩)
        have y1 := y.k f1
        have hsm : smc st.1 (dO (Y l) st).2.1 := sm_do h.1.wf k1 k2 (by omega) k5
        refine c176 (d := d + 1) hL h0 ha h1 y1 (by omega) hL6 k1 k2 (by omega) k5 (fun I2 f2 h2 => K174_128 hL ?_)
        have y2 := y1.l f2
        have va2 := va.m hsm
        have e3' : I2 22 3 = nI (dn + 1) := (f2.2 3 (by decide)).trans up_e
        have e4' : I2 22 4 = ms := (f2.2 4 (by decide)).trans (by rw [up_i (by decide)]; exact e4)
        have e8' : I2 22 8 = 0 := (f2.2 8 (by decide)).trans (by rw [up_i (by decide)]; exact e8)
        have e26 : I2 26 = I 26 := (f2.1 26 (by omega)).trans (up_o (by decide))
        have k5' : VL (bn (dO (Y l) st).2.1 3) (ce (dO (Y l) st).2.1) k (Y l) := by rw [hsm.n, hsm.e]; exact k5
        have hnl : nl Y L l (dO (Y l) st).2.1 ≤ L := by
          unfold nl
          split
          · exact Nat.le_refl _
          · split
            · rename_i hkk
              have hk12 : 12 ≤ k := by
                rcases hkk with e | e | e
                · rw [k1, nI_eqI (by omega) (by decide)] at e; omega
                · rw [k1, nI_eqI (by omega) (by decide)] at e; omega
                · rw [k1, nI_eqI (by omega) (by decide)] at e; omega
              obtain ⟨p, p1, p2, p3⟩ := (wp l (by omega)).2 k k1 (by omega) (by omega)
              rw [bn_of p3 (by omega)]
              split <;> omega
            · omega
        -- behind the step
        have on : ∀ (ms' : Int32) (I3 : XI), lg a I2 I3 → LCS I3 J a W (dO (Y l) st).2 → I3 22 3 = nI (dn + 1) → I3 22 4 = ms' → I3 22 8 = 0 → I3 26 = I 26 → yrun Y L j (nl Y L l (dO (Y l) st).2.1) (if Y l 0 = nI 10 then ub (I 26) l (Y l 2) else I 26) (dn + 1) ms' (dO (Y l) st).2 = R → xcall (d + 7) 181 [.ref 22, .ref a, .int (nI l)] S I3 J r (fun v S1 I1 J1 r1 => xrun z0 (xcall (d + 7)) Q 174 148 [.ref 22, .ref a, w2, .ref (a + 11), .int (nI l), .int (nI i)] (v.toList ++ []) S1 I1 J1 r1 cu su) := fun ms' I3 f3 h3 x3 x4 x8 x26 hR => by
          have y3 := y2.k f3
          have fr3 : lg a I I3 := (f1.t f2.g).t f3
          refine c181 (d := d + 2) hL h0 h3.1 y3 (by omega) hL6 k1 k2 (by omega) k4 k5' (fun q => by
            obtain ⟨p, p1, p2, p3⟩ := (wp l (by omega)).2 k k1 (by omega) (by omega)
            exact ⟨p, p2, p3⟩) (K174_148 ?_)
          rw [nI_add]
          by_cases q10 : k = 10
          · rw [if_pos q10]
            rw [if_pos (by rw [k1, q10])] at hR
            have fr4 : lg a I3 (up2 I3 26 l (Y l 2)) := lg.u (Or.inr rfl) ha6
            exact ih (i + 1) _ (dn + 1) ms' _ _ cu su (by omega) hnl (by omega) (h3.w ha6 (Or.inl rfl)) (y3.k fr4) va2 (by rw [up_o (by decide)]; exact x3) (by rw [up_o (by decide)]; exact x4) (by rw [up_o (by decide)]; exact x8) (by rw [upr, x26]; exact hR) (hQ.x (fr3.t fr4))
          · rw [if_neg q10]
            rw [if_neg (by rw [k1, nI_eqI (by omega) (by decide)]; exact q10)] at hR
            exact ih (i + 1) _ (dn + 1) ms' _ _ cu su (by omega) hnl (by omega) h3 y3 va2 x3 x4 x8 (by rw [x26]; exact hR) (hQ.x fr3)
        by_cases q1 : (dO (Y l) st).1 = 0
        · rw [if_pos q1] at hR
          refine nno q1 ?_
          rw [e4']
          exact on (ms + nI 1) _ (lg.u (Or.inl rfl) ha6) (h2.w ha6 (Or.inr ⟨rfl, by decide⟩)) (by rw [up_i (by decide)]; exact e3') up_e (by rw [up_i (by decide)]; exact e8') (by rw [up_o (by decide)]; exact e26) hR
        · rw [if_neg q1] at hR
          exact yes q1 (on ms I2 (fun _ _ => rfl) h2 e3' e4' e8' e26 hR)
theorem c174 {d : Nat} {Q : XQ} {S : XS} {I : XI} {J : XJ} {r : XR} {a L sd : Nat} {Y : YY} {B : Nat → Int32} {W : Nat → Int64} (hL : LAY S r) (h0 : LY0 S r a) (ha : a = 28 ∨ a = 46) (hL6 : L ≤ 60) (wp : WPr L Y) (hs : sd < 65536) (c : CR I J a B W) (y : LY I a L Y) (va : VA (bn B 3) (ce B) L Y) (hQ : EQ Q S I J r a W (yrun Y L 1000000 0 (I 26) 0 0 (B, sd, 0, 0, 0))) : xcall (d + 8) 174 [.ref 22, .ref a, .int (nI sd)] S I J r Q := by
  have ha6 : 26 < a := by omega
  refine E174 hL h0 ?_
  have fr : lg a I (up2 (up2 (up2 (up2 (up2 (up2 (up2 I 22 2 (nI sd)) 22 3 (nI 0)) 22 4 (nI 0)) 22 5 (nI 0)) 22 6 (nI 0)) 22 7 (nI 0)) 22 8 (nI 0)) := fun q hq => by
    simp (disch := omega) only [up_o]
  refine k174 (d := d) hL h0 ha hL6 wp 1000000 0 0 0 0 (B, sd, 0, 0, 0) _ 0 0 rfl (Nat.zero_le _) (Nat.zero_le _) ⟨c.fr (fun q h1 h2 => by simp (disch := omega) only [up_o]), ?_, ?_, ?_, ?_, hs⟩ (y.k fr) va ?_ ?_ ?_ ?_ (hQ.x fr)
  · simp (disch := omega) only [up_i, up_e]
  · simp (disch := omega) only [up_i, up_e]; rfl
  · simp (disch := omega) only [up_i, up_e]; rfl
  · simp (disch := omega) only [up_i, up_e]; rfl
  · simp (disch := omega) only [up_i, up_e]
  · simp (disch := omega) only [up_i, up_e]; rfl
  · simp (disch := omega) only [up_i, up_e]; rfl
  · simp (disch := omega) only [up_o]
