/-! the reference's plays -/
theorem par_s (t : Nat) : decide ((t + 1) % 2 = 0) = !decide (t % 2 = 0) := by
  by_cases h : t % 2 = 0
  · rw [decide_eq_true h, decide_eq_false (by omega)]; rfl
  · rw [decide_eq_false h, decide_eq_true (by omega)]; rfl
theorem rem2 : ∀ t, t < 100 → ((nI t - nI t / nI 2 * nI 2 = 0) ↔ t % 2 = 0) := by decide +kernel
theorem e329 {d : Nat} {Q : XQ} {S : XS} {I : XI} {J : XJ} {r : XR} {t T j : Nat} (hL : LAY S r) (w : WF (I 70)) (ht : t < T) (hT : T < 100)
    (ih : ∀ I1, WF (I1 70) → (Q' : XQ) → Q' (some (.int (nI (gv j (decide ((t + 1) % 2 = 0)) (I1 70))))) S I1 J r → xcall d 329 [.ref 65, .int (nI (t + 1)), .int (nI T)] S I1 J r Q')
    (h1 : t ≠ 0 → Q (some (.int (nI (gv (j + 1) (decide (t % 2 = 0)) (I 70))))) S I J r)
    (h0 : t = 0 → Q (some (.int (nI (gv (j + 1) true (I 70))))) S (up2 I 65 29 (gI (rb true (gf j true (I 70)) (bn (I 70) 3 + 1)).2)) J r) :
    xcall (d + 2) 329 [.ref 65, .int (nI t), .int (nI T)] S I J r Q := by
  have hb := w.c.2
  rw [par_s] at ih
  obtain ⟨s, hs⟩ : ∃ s, s = decide (t % 2 = 0) := ⟨_, rfl⟩
  rw [← hs] at ih h1
  have run := k329 (Q := Q) (cu := 0) (su := 0) (s := s) hL w (by omega) hT hs ih (bn (I 70) 3 + 1) 0 (.float 0) (.float 0) (.float 0) (by omega) (fun w7 w8 w9 => by
    refine K329_31 hL (yes (by rw [w.c.1, nI_ltI (by omega) (by omega)]; omega) ?_)
    rw [rb_end]
    by_cases q : t = 0
    · subst q
      have : s = true := hs
      subst this
      exact nno rfl (h0 rfl)
    · exact yes (fun e => q ((nI_eqI (b := 0) (by omega) (by omega)).mp e)) (h1 q))
  refine E329 hL (yes (by rw [nI_eqI (by omega) (by omega)]; omega) ?_)
  rw [rem2 t (by omega)]
  by_cases q : t % 2 = 0
  · rw [decide_eq_true q] at hs
    subst hs
    exact nno q run
  · rw [decide_eq_false q] at hs
    subst hs
    exact yes q run
theorem r329 {S : XS} {J : XJ} {r : XR} {T : Nat} (hL : LAY S r) (hT : T < 100) : ∀ (j t d : Nat) (I : XI), t + j = T → 0 < t → WF (I 70) → (Q : XQ) → Q (some (.int (nI (gv j (decide (t % 2 = 0)) (I 70))))) S I J r → xcall (d + 5 + 2 * j) 329 [.ref 65, .int (nI t), .int (nI T)] S I J r Q
  | 0, t, d, I, ht, h0, w, Q, hQ => by
    have : t = T := by omega
    subst this
    exact E329 hL (nno rfl (r330 hL w (K329_9 hQ)))
  | j + 1, t, d, I, ht, h0, w, Q, hQ => e329 (d := d + 5 + 2 * j) hL w (by omega) hT (fun I1 w1 Q' h => r329 hL hT j (t + 1) d I1 (by omega) (by omega) w1 Q' h) (fun _ => hQ) (fun h => by omega)
theorem r329z {d : Nat} {Q : XQ} {S : XS} {I : XI} {J : XJ} {r : XR} {T : Nat} (hL : LAY S r) (hT : T < 4 + 1) (w : WF (I 70)) (h0 : T = 0 → Q (some (.int (nI (gend (I 70))))) S I J r)
    (h1 : ∀ j, T = j + 1 → Q (some (.int (nI (gv (j + 1) true (I 70))))) S (up2 I 65 29 (gI (rb true (gf j true (I 70)) (bn (I 70) 3 + 1)).2)) J r) : xcall (d + 16) 329 [.ref 65, .int (nI 0), .int (nI T)] S I J r Q := by
  match T, hT, h0, h1 with
  | 0, _, h0, _ => exact E329 hL (nno rfl (r330 (d := d + 11) hL w (K329_9 (h0 rfl))))
  | j + 1, hT, _, h1 =>
    exact e329 (t := 0) (d := d + 14) hL w (by omega) (by omega) (fun I1 w1 Q' h => xcall_imp (by omega) (r329 (T := j + 1) hL (by omega) j 1 d I1 (by omega) (by omega) w1 Q' h) (fun _ _ _ _ _ h => h)) (fun h => absurd rfl h) (fun _ => h1 j rfl)
theorem gf_mvo {B : Nat → Int32} {t : Nat} : (rb true (gf t true B) (bn B 3 + 1)).2 = some ((mvo B t).getD (bn B 3)) := by
  have e := rb_cg (s := true) (f := gf t true B) (g := gk t true B) (bn B 3) (fun k hk => gf_lt hk)
  unfold mvo
  cases h2 : (rb true (gk t true B) (bn B 3)).2 with
  | none => rw [rb_new gf_n (by rw [e]; exact h2)]; rfl
  | some w =>
    rw [rb_old gf_n (by rw [e]; exact h2), e]
    dsimp only
    by_cases q : gv t false B ≤ (rb true (gk t true B) (bn B 3)).1
    · rw [if_pos (c := wor true (gv t (!true) B) _ = true) (wor_t.mpr q), if_pos q]; exact h2
    · rw [if_neg (c := wor true (gv t (!true) B) _ = true) (fun h => q (wor_t.mp h)), if_neg q]; rfl
theorem mvo_lt {B : Nat → Int32} {t w : Nat} (h : mvo B t = some w) : w < bn B 3 := by
  unfold mvo at h
  have l := rb_w (s := true) (f := gk t true B) (bn B 3)
  cases h2 : (rb true (gk t true B) (bn B 3)).2 with
  | none => rw [h2] at h; cases h
  | some w' =>
    rw [h2] at h
    dsimp only at h
    by_cases q : gv t false B ≤ (rb true (gk t true B) (bn B 3)).1
    · rw [if_pos q] at h; cases h; exact l _ h2
    · rw [if_neg q] at h; cases h
theorem r328 {d : Nat} {Q : XQ} {S : XS} {I : XI} {J : XJ} {r : XR} {x : Int32} (hL : LAY S r) (w : WF (I 70)) (hQ : QM Q S I J r (q161 (I 70) x).1 (q161 (I 70) x).2) : xcall (d + 20) 328 [.ref 65, .int x] S I J r Q := by
  have z4 : (lN 4).toInt = 4 := rfl
  have z0' : (lN 0).toInt = 0 := rfl
  unfold q161 at hQ
  refine E328 hL (c221 (fun h1 h2 => K328_19 hL (no (by decide) ?_)) (fun h => K328_19 hL (yes rfl ?_)))
  · rw [i_l] at h1 h2
    have hx : okr x 0 4 := ⟨by omega, by omega⟩
    rw [if_pos hx] at hQ
    obtain ⟨p1, p2, p3⟩ := okr_cl (lo := 0) (hi := 4) hx (by decide)
    generalize cl x = t at *
    subst p3
    show xcall (d + 19) 329 _ S (m2 I) J r _
    refine xcall_imp (by omega) (r329z (d := d) hL (by omega) w (fun h => ?_) (fun j h => ?_)) (fun _ _ _ _ _ h => h)
    · subst h
      exact K328_28 (K328_36 hQ.z)
    · subst h
      exact K328_28 (K328_36 (hQ _ ((m2.ix I).u rfl) rfl rfl))
  · rw [i_l] at h
    rw [if_neg (by exact fun p => h ⟨by have := p.1; omega, by have := p.2; omega⟩)] at hQ
    show xcall (d + 19) 261 _ S (m2 I) J r _
    exact E261 hL (K328_36 hQ.r)
theorem r331 {d : Nat} {Q : XQ} {S : XS} {I : XI} {J : XJ} {r : XR} {x : Int32} (hL : LAY S r) (w : WF (I 70)) (hQ : QM Q S I J r (q165 (I 70) x).1 (q165 (I 70) x).2) : xcall (d + 20) 331 [.ref 65, .int x] S I J r Q := by
  have z4 : (lN 4).toInt = 4 := rfl
  have z1' : (lN 1).toInt = 1 := rfl
  have hb := w.c.2
  unfold q165 at hQ
  refine E331 hL (c221 (fun h1 h2 => K331_19 hL (yes (by decide) ?_)) (fun h => K331_19 hL (nno rfl ?_)))
  · rw [i_l] at h1 h2
    have hx : okr x 1 4 := ⟨by omega, by omega⟩
    rw [if_pos hx] at hQ
    obtain ⟨p1, p2, p3⟩ := okr_cl (lo := 1) (hi := 4) hx (by decide)
    generalize cl x = t at *
    subst p3
    show xcall (d + 19) 329 _ S (m2 I) J r _
    refine xcall_imp (by omega) (r329z (d := d) hL (by omega) w (fun h => by omega) (fun j h => K331_34 hL ?_)) (fun _ _ _ _ _ h => h)
    subst h
    rw [up_e, up_o (by decide), show m2 I 70 = I 70 from rfl, gf_mvo, w.c.1]
    cases hm : mvo (I 70) j with
    | none =>
      rw [Nat.add_sub_cancel, hm] at hQ
      exact nno rfl (E261 hL (K331_54 (hQ.e ((m2.ix I).u rfl) rfl)))
    | some v =>
      have := mvo_lt hm
      rw [Nat.add_sub_cancel, hm] at hQ
      exact yes (by show ¬ nI v = _; rw [nI_eqI (by omega) (by omega)]; omega) (hQ _ ((m2.ix I).u rfl) rfl rfl)
  · rw [i_l] at h
    rw [if_neg (by exact fun p => h ⟨by have := p.1; omega, by have := p.2; omega⟩)] at hQ
    show xcall (d + 19) 261 _ S (m2 I) J r _
    exact E261 hL (K331_27 hQ.r)
