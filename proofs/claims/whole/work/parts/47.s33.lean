/-! the reference's games -/
theorem k330 {d : Nat} {Q : XQ} {S : XS} {I : XI} {J : XJ} {r : XR} {cu su : Nat} (hL : LAY S r) (w : WF (I 70)) (hQ : Q (some (.int (nI (gend (I 70))))) S I J r) : ∀ j i, i + j = bn (I 70) 3 → xrun z0 (xcall (d + 3)) Q 330 4 [.ref 65, .int (orN (shown (I 70)) i), .int (nI i)] [] S I J r cu su
  | 0, i, hi => by
    have e : i = bn (I 70) 3 := by omega
    subst e
    exact K330_4 hL (yes (by rw [w.c.1]; exact Int32.le_refl _) (r263 hL w (K330_33 (c282 (K330_37 hQ)))))
  | j + 1, i, hi => by
    have hb := w.c.2
    have ih := k330 (d := d) (cu := cu) (su := su) hL w hQ j (i + 1) (by omega)
    rw [orN] at ih
    refine K330_4 hL (no (by rw [w.c.1, nI_leI (by omega) (by omega)]; omega) (r272 hL w (by omega) (K330_20 ?_)))
    rw [nI_add]
    exact ih
theorem r330 {d : Nat} {Q : XQ} {S : XS} {I : XI} {J : XJ} {r : XR} (hL : LAY S r) (w : WF (I 70)) (hQ : Q (some (.int (nI (gend (I 70))))) S I J r) : xcall (d + 4) 330 [.ref 65] S I J r Q :=
  E330 (k330 hL w hQ (bn (I 70) 3) 0 (by omega))
/-- all moves, nothing the last -/
def gf (j : Nat) (s : Bool) (B : Nat → Int32) (k : Nat) : Option Nat := if k = bn B 3 then some (gv j (!s) B) else gk j s B k
theorem gf_lt {j : Nat} {s : Bool} {B : Nat → Int32} {k : Nat} (h : k < bn B 3) : gf j s B k = gk j s B k := by unfold gf; rw [if_neg (by omega)]
theorem gf_n {j : Nat} {s : Bool} {B : Nat → Int32} : gf j s B (bn B 3) = some (gv j (!s) B) := by unfold gf; rw [if_pos rfl]
theorem rb_cg {s : Bool} {f g : Nat → Option Nat} : ∀ n, (∀ k, k < n → f k = g k) → rb s f n = rb s g n
  | 0, _ => rfl
  | n + 1, h => by rw [rb, rb, rb_cg n (fun k hk => h k (by omega)), h n (by omega)]
theorem rb_end {j : Nat} {s : Bool} {B : Nat → Int32} : (rb s (gf j s B) (bn B 3 + 1)).1 = gv (j + 1) s B := by
  have e := rb_cg (s := s) (f := gf j s B) (g := gk j s B) (bn B 3) (fun k hk => gf_lt hk)
  have g := gb_rb (s := s) (f := gk j s B) (v0 := gv j (!s) B) (bn B 3)
  rw [gv_s]
  cases h2 : (rb s (gk j s B) (bn B 3)).2 with
  | none => rw [rb_new gf_n (by rw [e]; exact h2), g.1 h2]
  | some w =>
    rw [rb_old gf_n (by rw [e]; exact h2), g.2 w h2, e]
    by_cases q : wor s (gv j (!s) B) (rb s (gk j s B) (bn B 3)).1 = true
    · rw [if_pos q]
      cases s
      · rw [wor_f] at q
        show (rb false (gk j false B) (bn B 3)).1 = min _ _
        omega
      · rw [wor_t] at q
        show (rb true (gk j true B) (bn B 3)).1 = max _ _
        omega
    · rw [if_neg q]
      cases s
      · rw [wor_f] at q
        show gv j (!false) B = min _ _
        omega
      · rw [wor_t] at q
        show gv j (!true) B = max _ _
        omega
theorem gf_le {j : Nat} {s : Bool} {B : Nat → Int32} (h : WF B) {k v : Nat} (hk : k ≤ bn B 3) (hv : gf j s B k = some v) : v ≤ 15 := by
  rcases Nat.lt_or_ge k (bn B 3) with q | q
  · rw [gf_lt q] at hv; exact gk_le h q hv
  · have : k = bn B 3 := by omega
    subst this
    rw [gf_n] at hv
    cases hv
    exact gv_le j _ B h
theorem k329 {d : Nat} {Q : XQ} {S : XS} {I : XI} {J : XJ} {r : XR} {cu su t T j : Nat} {s : Bool} (hL : LAY S r) (w : WF (I 70)) (ht : t < 100) (hT : T < 100) (hs : s = decide (t % 2 = 0))
    (ih : ∀ I1, WF (I1 70) → (Q' : XQ) → Q' (some (.int (nI (gv j (!s) (I1 70))))) S I1 J r → xcall d 329 [.ref 65, .int (nI (t + 1)), .int (nI T)] S I1 J r Q') :
    ∀ n k w7 w8 w9, k + n = bn (I 70) 3 + 1 → (∀ w7 w8 w9, xrun z0 (xcall (d + 1)) Q 329 31 [.ref 65, .int (nI t), .int (nI T), .int (bI s), .int (nI (rb s (gf j s (I 70)) (bn (I 70) 3 + 1)).1), .int (gI (rb s (gf j s (I 70)) (bn (I 70) 3 + 1)).2), .int (nI (bn (I 70) 3 + 1)), w7, w8, w9] [] S I J r cu su) → xrun z0 (xcall (d + 1)) Q 329 31 [.ref 65, .int (nI t), .int (nI T), .int (bI s), .int (nI (rb s (gf j s (I 70)) k).1), .int (gI (rb s (gf j s (I 70)) k).2), .int (nI k), w7, w8, w9] [] S I J r cu su
  | 0, k, w7, w8, w9, hk, hE => by
    have e : k = bn (I 70) 3 + 1 := by omega
    subst e
    exact hE _ _ _
  | n + 1, k, w7, w8, w9, hk, hE => by
    have hb := w.c.2
    have hkn : k ≤ bn (I 70) 3 := by omega
    have nx := fun w7 w8 w9 => k329 (d := d) (cu := cu) (su := su) hL w ht hT hs ih n (k + 1) w7 w8 w9 (by omega) hE
    have lb := rb_le (s := s) (f := gf j s (I 70)) (N := 15) k (fun k v hk hv => gf_le w (by omega) hv)
    have lw := rb_w (s := s) (f := gf j s (I 70)) k
    -- behind the play of a move of the value v
    have aft : ∀ v (y5 x7 : Int32) (x8 : Int32) (I1 : XI) w9, gf j s (I 70) k = some v → (x7 = nI 1 ∧ I1 = I ∨ x7 = nI 0 ∧ up2 I1 70 (55 + k) x8 = I) → xrun z0 (xcall (d + 1)) Q 329 168 [.ref 65, .int (nI t), .int (nI T), .int (bI s), .int (nI (rb s (gf j s (I 70)) k).1), .int (gI (rb s (gf j s (I 70)) k).2), .int (nI k), .int x7, .int x8, w9] [.int (nI v)] S I1 J r cu su := fun v y5 x7 x8 I1 w9 hv hx => by
      have l2 := gf_le w hkn hv
      have br : ∀ w7 w8 w9, (gI (rb s (gf j s (I 70)) k).2 < 0 → xrun z0 (xcall (d + 1)) Q 329 31 [.ref 65, .int (nI t), .int (nI T), .int (bI s), .int (nI v), .int (nI k), .int (nI k + nI 1), w7, w8, w9] [] S I J r cu su) ∧ (¬ gI (rb s (gf j s (I 70)) k).2 < 0 → (bI s = 0 → (nI v < nI (rb s (gf j s (I 70)) k).1 → xrun z0 (xcall (d + 1)) Q 329 31 [.ref 65, .int (nI t), .int (nI T), .int (bI s), .int (nI v), .int (nI k), .int (nI k + nI 1), w7, w8, w9] [] S I J r cu su) ∧ (¬ nI v < nI (rb s (gf j s (I 70)) k).1 → xrun z0 (xcall (d + 1)) Q 329 31 [.ref 65, .int (nI t), .int (nI T), .int (bI s), .int (nI (rb s (gf j s (I 70)) k).1), .int (gI (rb s (gf j s (I 70)) k).2), .int (nI k + nI 1), w7, w8, w9] [] S I J r cu su)) ∧ (¬ bI s = 0 → (nI (rb s (gf j s (I 70)) k).1 < nI v → xrun z0 (xcall (d + 1)) Q 329 31 [.ref 65, .int (nI t), .int (nI T), .int (bI s), .int (nI v), .int (nI k), .int (nI k + nI 1), w7, w8, w9] [] S I J r cu su) ∧ (¬ nI (rb s (gf j s (I 70)) k).1 < nI v → xrun z0 (xcall (d + 1)) Q 329 31 [.ref 65, .int (nI t), .int (nI T), .int (bI s), .int (nI (rb s (gf j s (I 70)) k).1), .int (gI (rb s (gf j s (I 70)) k).2), .int (nI k + nI 1), w7, w8, w9] [] S I J r cu su))) := fun w7 w8 w9 => by
        rw [nI_add]
        cases h2 : (rb s (gf j s (I 70)) k).2 with
        | none =>
          rw [rb_new hv h2] at nx
          exact yes (by decide) (nx _ _ _)
        | some q1 =>
          have := lw q1 h2
          rw [rb_old hv h2] at nx
          refine no (nI_pos (by omega)) ?_
          rw [nI_ltI (by omega) (by omega), nI_ltI (by omega) (by omega)]
          by_cases q : wor s v (rb s (gf j s (I 70)) k).1 = true
          · rw [if_pos q, h2] at nx
            cases s
            · rw [wor_f] at q
              exact yes rfl (no (by omega) (nx _ _ _))
            · rw [wor_t] at q
              exact no (by decide) (no (by omega) (nx _ _ _))
          · rw [if_neg q] at nx
            cases s
            · rw [wor_f] at q
              exact yes rfl (yes (by omega) (nx _ _ _))
            · rw [wor_t] at q
              exact no (by decide) (yes (by omega) (nx _ _ _))
      rcases hx with ⟨h1, h2⟩ | ⟨h1, h2⟩
      · subst h1 h2
        exact K329_168 hL (yes (by decide) (br _ _ _))
      · subst h1
        refine K329_168 hL (nno rfl ?_)
        rw [nI_add, nI_clamp (by omega), h2]
        exact ⟨vp_in_nI (by omega) (by decide), br _ _ _⟩
    refine K329_31 hL (no (by rw [w.c.1, nI_ltI (by omega) (by omega)]; omega) ?_)
    rw [w.c.1, nI_eqI (by omega) (by omega)]
    by_cases q : k = bn (I 70) 3
    · refine nno q (K329_58 hL (yes (by decide) (K329_105 hL (no (by decide) (yes (by decide) ?_)))))
      rw [nI_add]
      refine xcall_imp (Nat.le_succ _) (ih I w _ ?_) (fun _ _ _ _ _ h => h)
      exact aft _ 0 _ _ I _ (by rw [q]; exact gf_n) (Or.inl ⟨rfl, rfl⟩)
    · have hk3 : k < bn (I 70) 3 := by omega
      have htn := w.tn hk3
      have hgf := gf_lt (j := j) (s := s) hk3
      have skip : gk j s (I 70) k = none → ∀ w7 w8 w9, xrun z0 (xcall (d + 1)) Q 329 31 [.ref 65, .int (nI t), .int (nI T), .int (bI s), .int (nI (rb s (gf j s (I 70)) k).1), .int (gI (rb s (gf j s (I 70)) k).2), .int (nI (k + 1)), w7, w8, w9] [] S I J r cu su := fun h w7 w8 w9 => by
        have := nx w7 w8 w9
        rw [rb_no (hgf.trans h)] at this
        exact this
      refine yes q (K329_58 hL (nno rfl ?_))
      simp only [nI_add]
      rw [nI_clamp (by omega), nI_clamp (by omega), htn.1]
      refine ⟨vp_in_nI (by omega) (by decide), ?_⟩
      by_cases e : I 70 (61 + k) = 1
      · refine yes e (skip ?_ _ _ _)
        unfold gk can
        rw [if_neg (by rw [decide_eq_true_eq]; exact fun h => h.1 e)]
      · have hcan : can (I 70) k s = true ↔ bn (I 70) (55 + k) ≠ (if s = true then 9 else 0) := by
          unfold can
          rw [decide_eq_true_eq]
          exact ⟨fun h => h.2, fun h => ⟨e, h⟩⟩
        have pl : can (I 70) k s = true → ∀ w9, xrun z0 (xcall (d + 1)) Q 329 105 [.ref 65, .int (nI t), .int (nI T), .int (bI s), .int (nI (rb s (gf j s (I 70)) k).1), .int (gI (rb s (gf j s (I 70)) k).2), .int (nI k), .int (nI 0), w8, w9] [] S I J r cu su := fun hc w9 => by
          have hm := can_t w hk3 hc
          have hgk : gf j s (I 70) k = some (gv j (!s) (mvB (I 70) k s)) := by rw [hgf]; unfold gk; rw [if_pos hc]
          have fin : xrun z0 (xcall (d + 1)) Q 329 159 [.ref 65, .int (nI t), .int (nI T), .int (bI s), .int (nI (rb s (gf j s (I 70)) k).1), .int (gI (rb s (gf j s (I 70)) k).2), .int (nI k), .int (nI 0), .int (nI (bn (I 70) (55 + k))), w9] [.int (nI (mvt (I 70) k s)), .int (nI (55 + k)), .ref 70] S I J r cu su := by
            refine K329_159 hL ⟨vp_in_nI (by omega) (by decide), ?_⟩
            rw [nI_clamp (by omega), nI_add]
            refine xcall_imp (Nat.le_succ _) (ih _ (by rw [up70]; exact w.tan hk3 hm.1) _ ?_) (fun _ _ _ _ _ h => h)
            rw [up70]
            exact aft _ 0 _ _ _ _ hgk (Or.inr ⟨rfl, up_back htn.1⟩)
          refine K329_105 hL (yes rfl ?_)
          rw [nI_add, nI_clamp (by omega), htn.1]
          refine ⟨vp_in_nI (by omega) (by decide), nno rfl ?_⟩
          unfold mvt at fin
          cases s
          · rw [if_neg (by decide)] at fin
            refine yes rfl ?_
            rcases Nat.lt_or_ge (bn (I 70) (55 + k)) 2 with q2 | q2
            · refine xcall_imp (Nat.le_refl _) (E35 (no (fun h => ?_) ?_)) (fun _ _ _ _ _ h => h)
              · rw [i_lt, i_subI (by omega) (by omega)] at h
                have : (nI 0).toInt = 0 := rfl
                omega
              · rw [show bn (I 70) (55 + k) - 2 = 0 by omega] at fin
                exact fin
            · rw [pk_sub q2]
              refine c35 (by decide) (by omega) ?_
              rw [Nat.max_eq_right (by omega)]
              exact fin
          · rw [if_pos rfl] at fin
            refine no (by decide) ?_
            rw [nI_add]
            exact fin
        refine no e ⟨vp_in_nI (by omega) (by decide), ?_⟩
        have br2 : ∀ z, z = (if s = true then 9 else 0) → xrun z0 (xcall (d + 1)) Q 329 99 [.ref 65, .int (nI t), .int (nI T), .int (bI s), .int (nI (rb s (gf j s (I 70)) k).1), .int (gI (rb s (gf j s (I 70)) k).2), .int (nI k), .int (nI 0), w8, w9] [.int (nI z), .int (nI (bn (I 70) (55 + k)))] S I J r cu su := fun z hz => by
          have hz9 : z ≤ 9 := by rw [hz]; split <;> omega
          refine K329_99 ?_
          rw [nI_add, nI_eqI (by omega) (by omega)]
          by_cases hc : can (I 70) k s = true
          · exact yes (by rw [hz]; exact hcan.mp hc) (pl hc _)
          · refine nno (by rw [hz]; exact Decidable.byContradiction (fun h => hc (hcan.mpr h))) (skip ?_ _ _ _)
            unfold gk
            rw [if_neg hc]
        cases s
        · exact yes rfl (br2 0 rfl)
        · exact no (by decide) (br2 9 rfl)
