theorem stc_s {Y : YY} {e : Nat} (h : Y e 0 ≠ nI 15) : stc Y (e + 1) = stc Y e + 1 := by rw [stc, if_neg h]
theorem stc_E {Y : YY} {e : Nat} (h : Y e 0 = nI 15) : stc Y (e + 1) = stc Y e := by rw [stc, if_pos h]; rfl
/-- one line -/
theorem ex_one {L f e : Nat} {Y : YY} {R : YT} (hL6 : L ≤ 60) (h30 : stc Y L ≤ 30) (he : e < L) (s : smp Y e) : EXP L Y R f e (e + 1) := by
  intro D to Q S J r I j dn G ms st w1 cu su hD hL ht hto h ym va hR hf hd hp ho
  obtain ⟨k, k1, k2, k3⟩ := s
  have hkE : Y e 0 ≠ nI 15 := fun e => by rw [k1, nI_eqI (by omega) (by decide)] at e; omega
  have es := stc_s hkE
  obtain ⟨k', a1, a2, a3, a4, a5, a6, a7⟩ := ym e he hkE
  have ek : k' = k := by
    rw [k1, nI_eqI (by omega) (by omega)] at a4; exact a4.symm
  subst ek
  obtain ⟨kv, v1, v2, v3, v4, v5⟩ := va e he
  have ekv : kv = k' := by
    rw [k1, nI_eqI (by omega) (by omega)] at v1; exact v1.symm
  subst ekv
  have w := h.1.2.2.2.2
  have hsm : smc st.1 (dO (Y e) st).2.1 := sm_do w k1 k2 (by omega) v5
  obtain ⟨D, rfl⟩ : ∃ D0, D = D0 + 9 := ⟨D - 9, by omega⟩
  -- behind the step
  have on : ∀ (I1 : XI) (ms1 : Int32), dn < 300 → kv ≠ 9 → mr I I1 → MCS I1 (dO (Y e) st).2 → I1 65 35 = nI (dn + 1) → I1 65 36 = ms1 → I1 65 33 = 0 → I1 65 40 = 0 → yrun Y L (j - 1) (nl Y L e (dO (Y e) st).2.1) (if Y e 0 = nI 10 then ub G e (Y e 2) else G) (dn + 1) ms1 (dO (Y e) st).2 = R → ∀ cu su, xrun z0 (xcall (D + 9)) Q 340 19 [.ref 65, w1, .int (nI to), .int (nI (stc Y e))] [] S I1 J r cu su := fun I1 ms1 hdn k9 f1 h1 x35 x36 x33 x40 hR cu su => by
    refine K340_19 hL ?_
    simp only [nI_add, pk_mul]
    rw [nI_clamp (by omega), h1.1, hsm.2.2 _ (by omega), a6 (by omega), ← es]
    refine ⟨vp_in_nI (by omega) (by decide), hp I1 (j - 1) (dn + 1) G ms1 (dO (Y e) st).2 cu su f1 ⟨h1, x35, x36, x33, x40⟩ (ym.m hsm) (va.m hsm) ?_ (Or.inr ⟨by omega, by omega, by omega⟩) (by omega) (fun _ _ => rfl)⟩
    rw [nlo k1 (by omega) k9, if_neg (by rw [k1, nI_eqI (by omega) (by decide)]; omega)] at hR
    exact hR
  have over : ∀ (I1 : XI), Q none S I1 J r → I1 65 33 = 1 → ∀ cu su, xrun z0 (xcall (D + 9)) Q 340 19 [.ref 65, w1, .int (nI to), .int (nI (stc Y e))] [] S I1 J r cu su := fun I1 q x33 cu su => by
    refine K340_19 hL ?_
    simp only [nI_add, pk_mul]
    rw [nI_clamp (by omega)]
    exact ⟨vp_in_nI (by omega) (by decide), K340_2 hL ⟨fun _ => q, fun _ => yes (by rw [x33]; decide) q⟩⟩
  refine K340_2 hL (no (by rw [nI_leI (by omega) (by omega)]; omega) (nno h.2.2.2.1 ?_))
  refine r341 (d := D + 8) (k := kv) hL hL6 h30 he h k1 k2 (by omega) a5 hd hf hR (fun I1 f1 o1 => over I1 (ho I1 f1 o1) o1.1 _ _) (fun hdn m1 f1 hR1 => ?_)
  have x35 : up2 I 65 35 (nI (dn + 1)) 65 35 = nI (dn + 1) := up_e
  have x36 : up2 I 65 35 (nI (dn + 1)) 65 36 = ms := by rw [up_i (by decide)]; exact h.2.2.1
  have x33 : up2 I 65 35 (nI (dn + 1)) 65 33 = 0 := by rw [up_i (by decide)]; exact h.2.2.2.1
  have x40 : up2 I 65 35 (nI (dn + 1)) 65 40 = 0 := by rw [up_i (by decide)]; exact h.2.2.2.2
  by_cases k9 : kv = 9
  · -- stop
    subst k9
    have d9 := dO9 (st := st) k1 (by decide) (by decide)
    have er : R = (dn + 1, ms, 0, st) := by
      rw [nl9 k1, if_neg (by rw [k1]; decide), d9] at hR1
      dsimp only at hR1
      rw [if_neg (show ¬ (1 : Int32) = 0 by decide)] at hR1
      obtain ⟨j1, hj1⟩ : ∃ j0, j - 1 = j0 + 1 := ⟨j - 2, by omega⟩
      rw [hj1, yrun, if_pos (Nat.le_refl L)] at hR1
      exact hR1.symm
    have o1 : OV (up2 (up2 I 65 35 (nI (dn + 1))) 65 33 (nI 1)) R := by
      subst er
      refine ⟨by rw [up_e]; rfl, m1.u (Or.inl rfl), ?_, ?_, ?_⟩
      · rw [up_i (by decide)]; exact x35
      · rw [up_i (by decide)]; exact x36
      · rw [up_i (by decide)]; exact x40
    exact yes (by decide) (yes (by decide) (yes (by decide) (no (by decide) (over _ (ho _ (f1.u (Or.inl rfl)) o1) o1.1 _ _))))
  · have k8 : kv ≤ 8 := by omega
    have erk : rk9 kv = kv - 1 := by unfold rk9; rw [if_pos k8]
    refine no (by omega) (r342 (d := D) (k := kv) hL m1 (by omega) (by omega) (by rw [m1.1]; exact a5) k1 k2 k8 v5 (fun I2 f2 h2 => K341_62 hL ?_))
    have y35 : I2 65 35 = nI (dn + 1) := (f2.2 35 (by decide) (by decide)).trans x35
    have y36 : I2 65 36 = ms := (f2.2 36 (by decide) (by decide)).trans x36
    have y33 : I2 65 33 = 0 := (f2.2 33 (by decide) (by decide)).trans x33
    have y40 : I2 65 40 = 0 := (f2.2 40 (by decide) (by decide)).trans x40
    by_cases q : (dO (Y e) st).1 = 0
    · rw [if_pos q] at hR1
      refine yes q (on _ _ hdn k9 ((f1.t f2.m).u (Or.inr (Or.inr (Or.inl rfl)))) (h2.u (Or.inr (Or.inr (Or.inl rfl)))) ?_ up_e ?_ ?_ hR1 _ _)
      · rw [up_i (by decide)]; exact y35
      · rw [up_i (by decide)]; exact y33
      · rw [up_i (by decide)]; exact y40
    · rw [if_neg q] at hR1
      refine no q (on _ ms hdn k9 ((f1.t f2.m).u (Or.inr (Or.inr (Or.inl rfl)))) (h2.u (Or.inr (Or.inr (Or.inl rfl)))) ?_ ?_ ?_ ?_ hR1 _ _)
      · rw [up_i (by decide)]; exact y35
      · rw [up_e, show nI 0 = (0 : Int32) from rfl, Int32.add_zero]
      · rw [up_i (by decide)]; exact y33
      · rw [up_i (by decide)]; exact y40
/-- a block -/
theorem ex_blk {L f q e : Nat} {Y : YY} {R : YT} (hL6 : L ≤ 60) (h30 : stc Y L ≤ 30) (he : e < L) (b : bkk Y q e) (ih : EXP L Y R f (q + 1) e) : EXP L Y R (f + 1) q (e + 1) := by
  intro D to Q S J r I j dn G ms st w1 cu su hD hL ht hto h ym va hR hf hd hp ho
  obtain ⟨b1, ⟨k, k1, k2, k3, k4⟩, b5, b6, b7⟩ := b
  have hkE : Y q 0 ≠ nI 15 := fun e => by rw [k1, nI_eqI (by omega) (by decide)] at e; omega
  have es := stc_s hkE
  have eE := stc_E b6
  have hse := stc_mono (Y := Y) (i := q + 1) (e - (q + 1))
  rw [show q + 1 + (e - (q + 1)) = e by omega] at hse
  have hsL := stc_mono (Y := Y) (i := e + 1) (L - (e + 1))
  rw [show e + 1 + (L - (e + 1)) = L by omega] at hsL
  obtain ⟨k', a1, a2, a3, a4, a5, a6, a7⟩ := ym q (by omega) hkE
  have ek : k' = k := by
    rw [k1, nI_eqI (by omega) (by omega)] at a4; exact a4.symm
  subst ek
  obtain ⟨kv, v1, v2, v3, v4, v5⟩ := va q (by omega)
  have ekv : kv = k' := by
    rw [k1, nI_eqI (by omega) (by omega)] at v1; exact v1.symm
  subst ekv
  have g8 : st.1 (75 + 9 * stc Y q + 8) = nI (stc Y e) := by
    rcases a7 k2 with x | ⟨p, p1, p2, p3, p4⟩
    · rw [b5] at x; exact absurd x (nI_m1 (by omega))
    · rw [b5, nI_eqI (by omega) (by omega)] at p3
      rw [p3]; exact p4
  have d9 := dO9 (st := st) k1 (by omega) (by omega)
  have w := h.1.2.2.2.2
  obtain ⟨D, rfl⟩ : ∃ D0, D = D0 + 11 := ⟨D - 11, by omega⟩
  -- behind the block
  have on : ∀ (I1 : XI) (j1 dn1 : Nat) (G1 : Nat → Int32) (ms1 : Int32) (st1 : YL), mr I I1 → MR I1 st1 dn1 ms1 → YM st1.1 75 L Y → VA (bn st1.1 3) (ce st1.1) L Y → st1.1 (75 + 9 * stc Y q + 8) = nI (stc Y e) → yrun Y L j1 (e + 1) G1 dn1 ms1 st1 = R → dn < dn1 → dn1 ≤ 300 → 400 * (301 - dn1) + (200 - (e + 1)) ≤ j1 → (∀ x, x < q ∨ e + 1 ≤ x → G1 x = G x) → ∀ cu su, xrun z0 (xcall (D + 11)) Q 340 19 [.ref 65, w1, .int (nI to), .int (nI (stc Y q))] [] S I1 J r cu su := fun I1 j1 dn1 G1 ms1 st1 f1 h1 ym1 va1 e8 hR1 hdn hdn3 hj1 hG cu su => by
    refine K340_19 hL ?_
    simp only [nI_add, pk_mul]
    rw [nI_clamp (by omega), h1.1.1, e8, ← eE]
    exact ⟨vp_in_nI (by omega) (by decide), hp I1 j1 dn1 G1 ms1 st1 cu su f1 h1 ym1 va1 hR1 (Or.inr ⟨by omega, hdn, hj1⟩) hdn3 hG⟩
  have over : ∀ (I1 : XI), mr I I1 → OV I1 R → ∀ cu su, xrun z0 (xcall (D + 11)) Q 340 19 [.ref 65, w1, .int (nI to), .int (nI (stc Y q))] [] S I1 J r cu su := fun I1 f1 o1 cu su => by
    refine K340_19 hL ?_
    simp only [nI_add, pk_mul]
    rw [nI_clamp (by omega)]
    exact ⟨vp_in_nI (by omega) (by decide), K340_2 hL ⟨fun _ => ho I1 f1 o1, fun _ => yes (by rw [o1.1]; decide) (ho I1 f1 o1)⟩⟩
  refine K340_2 hL (no (by rw [nI_leI (by omega) (by omega)]; omega) (nno h.2.2.2.1 ?_))
  refine r341 (d := D + 10) (k := kv) hL hL6 h30 (by omega) h k1 (by omega) (by omega) a5 hd hf hR (fun I1 f1 o1 => over I1 f1 o1 _ _) (fun hdn m1 f1 hR1 => ?_)
  have x35 : up2 I 65 35 (nI (dn + 1)) 65 35 = nI (dn + 1) := up_e
  have x36 : up2 I 65 35 (nI (dn + 1)) 65 36 = ms := by rw [up_i (by decide)]; exact h.2.2.1
  have x33 : up2 I 65 35 (nI (dn + 1)) 65 33 = 0 := by rw [up_i (by decide)]; exact h.2.2.2.1
  have x40 : up2 I 65 35 (nI (dn + 1)) 65 40 = 0 := by rw [up_i (by decide)]; exact h.2.2.2.2
  have mr1 : MR (up2 I 65 35 (nI (dn + 1))) st (dn + 1) ms := ⟨m1, x35, x36, x33, x40⟩
  rw [d9] at hR1
  dsimp only at hR1
  rw [if_neg (show ¬ (1 : Int32) = 0 by decide)] at hR1
  have hR1 : yrun Y L (j - 1) (nl Y L q st.1) (if Y q 0 = nI 10 then ub G q (Y q 2) else G) (dn + 1) ms st = R := hR1
  -- the end's line
  have fin : ∀ (j2 dn2 : Nat) (G2 : Nat → Int32) (ms2 : Int32) (st2 : YL), yrun Y L (j2 + 1) e G2 dn2 ms2 st2 = R → (if Y q 0 = nI 10 then (if G2 q - nI 1 ≤ 0 then yrun Y L j2 (e + 1) (ub G2 q (G2 q - nI 1)) dn2 ms2 st2 else yrun Y L j2 (q + 1) (ub G2 q (G2 q - nI 1)) dn2 ms2 st2) else yrun Y L j2 (e + 1) G2 dn2 ms2 st2) = R := fun j2 dn2 G2 ms2 st2 hr => by
    rw [yrun, if_neg (by omega), if_pos b6, bn_of b7 (by omega)] at hr
    exact hr
  by_cases k12 : 12 ≤ kv
  · -- when
    have erk : rk9 kv = 8 := by unfold rk9; rw [if_neg (by omega), if_neg (by omega), if_neg (by omega)]
    have n10 : ¬ Y q 0 = nI 10 := fun e => by rw [k1, nI_eqI (by omega) (by decide)] at e; omega
    rw [if_neg n10, nlw k1 k12 k3, bn_of b5 (by omega)] at hR1
    rw [erk]
    refine yes (by decide) (nno rfl (r346 (d := D + 6) (k := kv) hL m1.1 w (by omega) (by omega) a5 k1 k12 k3 v5 (K341_88 hL ?_)))
    cases hq : hO st.1 (Y q)
    · rw [hq, if_neg (by decide)] at hR1
      refine yes rfl (yes (by decide) (yes (by decide) ?_))
      exact on _ (j - 1) (dn + 1) G ms st f1 mr1 ym va g8 hR1 (by omega) (by omega) (by omega) (fun _ _ => rfl) _ _
    · rw [hq, if_pos rfl] at hR1
      refine no (by decide) ?_
      simp only [nI_add]
      rw [nI_clamp (by omega), m1.1, g8]
      refine ⟨vp_in_nI (by omega) (by decide), E340 (d := D + 9) ?_⟩
      rw [← es]
      refine ih (D + 9) (stc Y e) _ S J r _ (j - 1) (dn + 1) G ms st _ 0 0 (by omega) hL (Nat.le_refl _) (by omega) mr1 ym va hR1 (by omega) (by omega) (fun I2 j2 dn2 G2 ms2 st2 cu su c1 c2 c3 c4 c5 c6 c7 c8 => ?_) (fun I2 c1 c2 => K341_107 (over I2 (f1.t c1) c2 _ _))
      have hj2 : 400 * (301 - dn2) + (200 - (e + 1)) + 1 ≤ j2 ∧ dn < dn2 := by
        rcases c6 with ⟨z1, z2, z3⟩ | ⟨z0, z1, z2⟩ <;> omega
      obtain ⟨j2, rfl⟩ : ∃ j0, j2 = j0 + 1 := ⟨j2 - 1, by omega⟩
      have hr2 := fin j2 dn2 G2 ms2 st2 c5
      rw [if_neg n10] at hr2
      have g8' : st2.1 (75 + 9 * stc Y q + 8) = nI (stc Y e) := by
        obtain ⟨k', a1, a2, a3, a4, a5, a6, a7⟩ := c3 q (by omega) hkE
        rw [k1, nI_eqI (by omega) (by omega)] at a4
        rcases a7 (by omega) with x | ⟨p, p1, p2, p3, p4⟩
        · rw [b5] at x; exact absurd x (nI_m1 (by omega))
        · rw [b5, nI_eqI (by omega) (by omega)] at p3
          rw [p3]; exact p4
      exact K340_2 hL ⟨fun _ => K341_107 (on I2 j2 dn2 G2 ms2 st2 (f1.t c1) c2 c3 c4 g8' hr2 hj2.2 c7 (by omega) (fun x hx => c8 x (by omega)) _ _), fun x => absurd (Int32.le_refl _) x⟩
  · -- loop
    have ekv : kv = 10 := by omega
    subst ekv
    have e10 : Y q 0 = nI 10 := k1
    obtain ⟨m, m1', m2, m3⟩ := v5.2.2.2.2.1 rfl
    rw [if_pos e10, nlo k1 (by decide) (by decide), m3] at hR1
    have loop : ∀ (t kk jj dd : Nat) (Ik : XI) (Gk : Nat → Int32) (msk : Int32) (sk : YL) (w3 : Value) (cv sv : Nat), kk + t = m → 0 < t → mr I Ik → MR Ik sk dd msk → YM sk.1 75 L Y → VA (bn sk.1 3) (ce sk.1) L Y → yrun Y L jj (q + 1) Gk dd msk sk = R → dn < dd → dd ≤ 300 → 400 * (301 - dd) + 139 ≤ jj → (q + 1 = e → 400 * (301 - dd) + (399 - kk) ≤ jj) → Gk q = nI t → (∀ x, x < q ∨ e + 1 ≤ x → Gk x = G x) → xrun z0 (xcall (D + 10)) (fun v S1 I1 J1 r1 => xrun z0 (xcall (D + 11)) Q 340 19 [.ref 65, w1, .int (nI to), .int (nI (stc Y q))] (v.toList ++ []) S1 I1 J1 r1 cu su) 341 119 [.ref 65, .int (nI (stc Y q)), .int (nI (75 + 9 * stc Y q)), w3, .int (nI kk)] [] S Ik J r cv sv := by
      intro t
      induction t with
      | zero => intro kk jj dd Ik Gk msk sk w3 cv sv h1 h2; omega
      | succ t iht =>
        intro kk jj dd Ik Gk msk sk w3 cv sv hkt ht0 fk hmr hym hva hRk hdd hdd3 hjj hje hGq hGo
        have g1 : sk.1 (75 + 9 * stc Y q + 1) = nI m := by
          obtain ⟨k', a1, a2, a3, a4, a5, a6, a7⟩ := hym q (by omega) hkE
          rw [k1, nI_eqI (by decide) (by omega)] at a4
          subst a4
          exact (a5.2.2.1 (by decide)).trans m3
        have g8' : ∀ sx : YL, YM sx.1 75 L Y → sx.1 (75 + 9 * stc Y q + 8) = nI (stc Y e) := fun sx hx => by
          obtain ⟨k', a1, a2, a3, a4, a5, a6, a7⟩ := hx q (by omega) hkE
          rw [k1, nI_eqI (by decide) (by omega)] at a4
          rcases a7 (by omega) with x | ⟨p, p1, p2, p3, p4⟩
          · rw [b5] at x; exact absurd x (nI_m1 (by omega))
          · rw [b5, nI_eqI (by omega) (by omega)] at p3
            rw [p3]; exact p4
        refine K341_119 hL ?_
        simp only [nI_add]
        rw [nI_clamp (by omega), nI_clamp (by omega), hmr.1.1, g1, nI_leI (by omega) (by omega), g8' sk hym]
        refine ⟨vp_in_nI (by omega) (by decide), no (by omega) (nno hmr.2.2.2.1 ⟨vp_in_nI (by omega) (by decide), E340 (d := D + 9) ?_⟩)⟩
        rw [← es]
        refine ih (D + 9) (stc Y e) _ S J r Ik jj dd Gk msk sk _ 0 0 (by omega) hL (Nat.le_refl _) (by omega) hmr hym hva hRk (by omega) hdd3 (fun I2 j2 dn2 G2 ms2 st2 cu2 su2 c1 c2 c3 c4 c5 c6 c7 c8 => ?_) (fun I2 c1 c2 => K341_155 (K341_119 hL ?_))
        · have hj2 : 400 * (301 - dn2) + 139 + 1 ≤ j2 ∧ dn < dn2 ∧ 400 * (301 - dn2) + (200 - (e + 1)) + 1 ≤ j2 ∧ (q + 1 = e → 400 * (301 - dn2) + (399 - (kk + 1)) + 1 ≤ j2) := by
            rcases c6 with ⟨z1, z2, z3⟩ | ⟨z0, z1, z2⟩
            · have := hje z1; omega
            · exact ⟨by omega, by omega, by omega, fun z => by omega⟩
          obtain ⟨j2, rfl⟩ : ∃ j0, j2 = j0 + 1 := ⟨j2 - 1, by omega⟩
          have hr2 := fin j2 dn2 G2 ms2 st2 c5
          have eG : G2 q = nI (t + 1) := (c8 q (by omega)).trans hGq
          rw [if_pos e10, eG, pk_sub (by omega), Nat.add_sub_cancel] at hr2
          refine K340_2 hL ⟨fun _ => K341_155 ?_, fun x => absurd (Int32.le_refl _) x⟩
          rw [nI_add]
          by_cases t0 : t = 0
          · subst t0
            rw [if_pos (by decide)] at hr2
            refine K341_119 hL ?_
            simp only [nI_add]
            have g1' : st2.1 (75 + 9 * stc Y q + 1) = nI m := by
              obtain ⟨k', a1, a2, a3, a4, a5, a6, a7⟩ := c3 q (by omega) hkE
              rw [k1, nI_eqI (by decide) (by omega)] at a4
              subst a4
              exact (a5.2.2.1 (by decide)).trans m3
            rw [nI_clamp (by omega), c2.1.1, g1', nI_leI (by omega) (by omega)]
            refine ⟨vp_in_nI (by omega) (by decide), yes (by omega) (on I2 j2 dn2 _ ms2 st2 (fk.t c1) c2 c3 c4 (g8' st2 c3) hr2 hj2.2.1 c7 (by omega) (fun x hx => ?_) _ _)⟩
            rw [ub_o (by omega), c8 x (by omega)]
            exact hGo x hx
          · rw [if_neg (by rw [show (0 : Int32) = nI 0 from rfl, nI_leI (by omega) (by decide)]; omega)] at hr2
            refine iht (kk + 1) j2 dn2 I2 _ ms2 st2 _ _ _ (by omega) (by omega) (fk.t c1) c2 c3 c4 hr2 hj2.2.1 c7 (by omega) (fun z => by have := hj2.2.2.2 z; omega) ub_e (fun x hx => ?_)
            rw [ub_o (by omega), c8 x (by omega)]
            exact hGo x hx
        · simp only [nI_add]
          rw [nI_clamp (by omega)]
          refine ⟨vp_in_nI (by omega) (by decide), ⟨fun _ => over I2 (fk.t c1) c2 _ _, fun _ => yes (by rw [c2.1]; decide) (over I2 (fk.t c1) c2 _ _)⟩⟩
    refine yes (by decide) (yes (by decide) (nno rfl ?_))
    exact loop m 0 (j - 1) (dn + 1) _ _ ms st _ 0 0 (by omega) (by omega) f1 mr1 ym va hR1 (by omega) (by omega) (by omega) (fun _ => by omega) ub_e (fun x hx => ub_o (by omega))
theorem ex_all {L f i e : Nat} {Y : YY} {R : YT} (hL6 : L ≤ 60) (h30 : stc Y L ≤ 30) (h : SG Y f i e) (he : e ≤ L) : EXP L Y R f i e := by
  refine (h (fun f i e => i ≤ e ∧ (e ≤ L → EXP L Y R f i e)) (fun f i => ⟨Nat.le_refl _, fun _ => ex_nil⟩) (fun f i e ih s => ⟨by omega, fun he => ?_⟩) (fun f i q e ih b ig => ⟨by have := b.1; omega, fun he => ?_⟩)).2 he
  · exact ex_app (ih.2 (by omega)) (ex_one hL6 h30 (by omega) s) ih.1 (by omega) (by omega)
  · have b1 := b.1
    exact ex_app (ih.2 (by omega)) (ex_blk hL6 h30 (by omega) b (ig.2 (by omega))) ih.1 (by omega) (by omega)
