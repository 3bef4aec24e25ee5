/-! the class's reader, on -/
theorem c39 {d : Nat} {Q : XQ} {S : XS} {I : XI} {J : XJ} {r : XR} {a n s : Nat} {F : Nat → Int32} (h0 : LY5 S r a) (hn : n ≤ 900) (hs : s < n) (ht : TX I a n F) (h3 : I a 3 = nI s) (h2 : I a 2 = nI s)
    (hQ : ∀ I', rk a I I' → I' a 3 = nI s → I' a 2 = nI (s + 1) → I' a 4 = nI (if isS F s = true then 3 else 4) → I' a 7 = F s → Q none S I' J r) : xcall (d + 1) 39 [.ref a] S I J r Q := by
  have z59 : (nI 59).toInt = 59 := rfl
  have z60 : (nI 60).toInt = 60 := rfl
  have z61 : (nI 61).toInt = 61 := rfl
  have z62 : (nI 62).toInt = 62 := rfl
  refine E39 h0 (no (by rw [ht.1, h2, nI_leI (by omega) (by omega)]; omega) ⟨by rw [h2]; exact vp_in_nI (by omega) (by decide), ?_⟩)
  rw [h2, nI_clamp (by omega), ht.2 s hs]
  refine K39_25 h0 ?_
  rw [up_e]
  have f0 : rk a I (up2 I a 7 (F s)) := (rk.r a I).u (by omega)
  have y : isS F s = true → xrun z0 (xcall d) Q 39 69 [.ref a, .float 0] [.int (nI 1)] S (up2 I a 7 (F s)) J r 0 0 := fun h => by
    refine K39_69 h0 (no (by decide) ?_)
    rw [up_i (by decide), up_i (by decide), h2, nI_add]
    exact hQ _ ((f0.u (by omega)).u (by omega)) (by rw [up_i (by decide), up_i (by decide), up_i (by decide)]; exact h3) up_e (by rw [up_i (by decide), up_e, if_pos h]) (by rw [up_i (by decide), up_i (by decide), up_e])
  by_cases e1 : F s = nI 59
  · exact yes e1 (y (isS_t.mpr (Or.inl (by unfold bv; rw [e1]; rfl))))
  · refine no e1 ?_
    by_cases e2 : F s = nI 60
    · exact yes e2 (y (isS_t.mpr (Or.inr (Or.inl (by unfold bv; rw [e2]; rfl)))))
    · refine no e2 ?_
      by_cases e3 : F s = nI 62
      · exact yes e3 (y (isS_t.mpr (Or.inr (Or.inr (Or.inl (by unfold bv; rw [e3]; rfl))))))
      · refine no e3 ?_
        by_cases e4 : F s = nI 61
        · exact nno e4 (y (isS_t.mpr (Or.inr (Or.inr (Or.inr (by unfold bv; rw [e4]; rfl))))))
        · refine yes e4 (K39_69 h0 (yes rfl ?_))
          have hb : ¬ isS F s = true := fun h => by
            have h := isS_t.mp h
            unfold bv at h
            rcases h with h | h | h | h
            · exact e1 (Int32.toInt_inj.mp h)
            · exact e2 (Int32.toInt_inj.mp h)
            · exact e3 (Int32.toInt_inj.mp h)
            · exact e4 (Int32.toInt_inj.mp h)
          rw [up_i (by decide), up_i (by decide), h2, nI_add]
          exact hQ _ ((f0.u (by omega)).u (by omega)) (by rw [up_i (by decide), up_i (by decide), up_i (by decide)]; exact h3) up_e (by rw [up_i (by decide), up_e, if_neg hb]) (by rw [up_i (by decide), up_i (by decide), up_e])
/-- the reader stands at the token that begins at s -/
def RD (I : XI) (J : XJ) (a n : Nat) (F : Nat → Int32) (s : Nat) : Prop := TX I a n F ∧ I a 3 = nI s ∧ I a 2 = nI (ex F n s) ∧ I a 4 = nI (kd F n s) ∧ (kd F n s = 1 → J a 5 = lN (wc F n s)) ∧ (kd F n s = 2 → I a 6 = nI (nm F n s)) ∧ (kd F n s = 3 → I a 7 = F s)
theorem k36 {d : Nat} {Q : XQ} {S : XS} {J : XJ} {r : XR} {a n : Nat} {F : Nat → Int32} (h0 : LY5 S r a) (hn : n ≤ 900) : ∀ (j p cu su : Nat) (I : XI), p + j = n → TX I a n F → I a 2 = nI p →
    (∀ I' J', rk a I I' → jk a 5 J J' → RD I' J' a n F (run (isB F) j p) → Q none S I' J' r) → xrun z0 (xcall (d + 1)) Q 36 0 [.ref a] [] S I J r cu su := by
  intro j
  have z97 : (nI 97).toInt = 97 := rfl
  have z122 : (nI 122).toInt = 122 := rfl
  have z48 : (nI 48).toInt = 48 := rfl
  have z57 : (nI 57).toInt = 57 := rfl
  induction j with
  | zero =>
    intro p cu su I hj ht h2 hQ
    rw [run] at hQ
    have ekd : kd F n p = 0 := kd_0.mpr (by omega)
    refine K36_0 h0 (yes (by rw [ht.1, h2, nI_leI (by omega) (by omega)]; omega) ?_)
    rw [up_i (by decide), up_i (by decide), h2, ht.1]
    refine no (by rw [nI_ltI (by omega) (by omega)]; omega) (K36_153 (hQ _ _ (((rk.r a I).u (by omega)).u (by omega)) (jk.r _ _ _) ⟨ht.k (((rk.r a I).u (by omega)).u (by omega)), ?_, ?_, ?_, ?_, ?_, ?_⟩))
    · rw [up_i (by decide), up_e]
    · rw [up_i (by decide), up_i (by decide), h2]; unfold ex; rw [if_pos (by omega)]
    · rw [up_e, ekd]
    · rw [ekd]; intro h; cases h
    · rw [ekd]; intro h; cases h
    · rw [ekd]; intro h; cases h
  | succ j ih =>
    intro p cu su I hj ht h2 hQ
    refine K36_0 h0 (no (by rw [ht.1, h2, nI_leI (by omega) (by omega)]; omega) ⟨by rw [h2]; exact vp_in_nI (by omega) (by decide), ?_⟩)
    rw [h2, nI_clamp (by omega), ht.2 p (by omega), nI_add]
    have bl : isB F p = true → xrun z0 (xcall (d + 1)) Q 36 0 [.ref a] [] S (up2 I a 2 (nI (p + 1))) J r cu su := fun hb => by
      rw [run, if_pos hb] at hQ
      exact ih (p + 1) _ _ _ (by omega) (ht.k ((rk.r a I).u (by omega))) up_e (fun I' J' f1 f2 f3 => hQ I' J' (((rk.r a I).u (by omega)).t f1) f2 f3)
    by_cases e1 : F p = nI 32
    · exact yes e1 (bl (isB_t.mpr (Or.inl (by unfold bv; rw [e1]; rfl))))
    · refine no e1 ⟨vp_in_nI (by omega) (by decide), ?_⟩
      by_cases e2 : F p = nI 10
      · exact nno e2 (bl (isB_t.mpr (Or.inr (by unfold bv; rw [e2]; rfl))))
      · refine yes e2 ?_
        have hb : ¬ isB F p = true := fun h => by
          have h := isB_t.mp h
          unfold bv at h
          rcases h with h | h
          · exact e1 (Int32.toInt_inj.mp h)
          · exact e2 (Int32.toInt_inj.mp h)
        rw [run, if_neg hb] at hQ
        have f0 : rk a I (up2 I a 3 (nI p)) := (rk.r a I).u (by omega)
        have t0 : TX (up2 I a 3 (nI p)) a n F := ht.k f0
        have g3 : up2 I a 3 (nI p) a 3 = nI p := up_e
        have g2 : up2 I a 3 (nI p) a 2 = nI p := by rw [up_i (by decide)]; exact h2
        have gb := t0.2 p (by omega)
        have hq : ¬ n ≤ p := by omega
        rw [g2, t0.1, nI_clamp (by omega), gb]
        refine yes (by rw [nI_ltI (by omega) (by omega)]; omega) ⟨vp_in_nI (by omega) (by decide), ?_⟩
        have rest : isL F p ≠ true → vp_in (nI p) 900 ∧ ((F p < nI 48 → xcall (d + 1) 39 [.ref a] S (up2 I a 3 (nI p)) J r (fun v S1 I1 J1 r1 => xrun z0 (xcall (d + 1)) Q 36 153 [.ref a] (v.toList ++ []) S1 I1 J1 r1 cu su)) ∧ (¬ F p < nI 48 → vp_in (nI p) 900 ∧ ((nI 57 < F p → xcall (d + 1) 39 [.ref a] S (up2 I a 3 (nI p)) J r (fun v S1 I1 J1 r1 => xrun z0 (xcall (d + 1)) Q 36 153 [.ref a] (v.toList ++ []) S1 I1 J1 r1 cu su)) ∧ (¬ nI 57 < F p → xcall (d + 1) 38 [.ref a] S (up2 I a 3 (nI p)) J r (fun v S1 I1 J1 r1 => xrun z0 (xcall (d + 1)) Q 36 146 [.ref a] (v.toList ++ []) S1 I1 J1 r1 cu su))))) := fun hl => by
          have sg : isD F p ≠ true → xcall (d + 1) 39 [.ref a] S (up2 I a 3 (nI p)) J r (fun v S1 I1 J1 r1 => xrun z0 (xcall (d + 1)) Q 36 153 [.ref a] (v.toList ++ []) S1 I1 J1 r1 cu su) := fun hd => by
            refine c39 h0 hn (by omega) t0 g3 g2 (fun I' f1 f2 f3 f4 f5 => K36_153 (hQ _ _ (f0.t f1) (jk.r _ _ _) ⟨t0.k f1, f2, ?_, ?_, ?_, ?_, fun _ => f5⟩))
            · rw [f3]; unfold ex; rw [if_neg hq, if_neg hl, if_neg hd]
            · rw [f4]; unfold kd; rw [if_neg hq, if_neg hl, if_neg hd]
            · intro h; exact absurd (kd_1 h).2.1 hl
            · intro h; unfold kd at h; rw [if_neg hq, if_neg hl, if_neg hd] at h; split at h <;> cases h
          refine ⟨vp_in_nI (by omega) (by decide), ?_⟩
          by_cases q1 : F p < nI 48
          · refine yes q1 (sg (fun h => ?_))
            have := isD_t.mp h
            unfold bv at this
            rw [i_lt] at q1
            omega
          · refine no q1 ⟨vp_in_nI (by omega) (by decide), ?_⟩
            by_cases q2 : nI 57 < F p
            · refine yes q2 (sg (fun h => ?_))
              have := isD_t.mp h
              unfold bv at this
              rw [i_lt] at q2
              omega
            · refine no q2 ?_
              have hd : isD F p = true := isD_t.mpr (by rw [i_lt] at q1 q2; unfold bv; omega)
              have eex : ex F n p = run (isD F) (n - p) p := by unfold ex; rw [if_neg hq, if_neg hl, if_pos hd]
              refine c38 h0 hn (by omega) t0 g3 g2 (fun I' f1 f2 f3 f4 f5 => K36_146 (K36_153 (hQ _ _ (f0.t f1) (jk.r _ _ _) ⟨t0.k f1, f2, f3.trans (by rw [eex]), ?_, ?_, ?_, ?_⟩)))
              · rw [f4]; unfold kd; rw [if_neg hq, if_neg hl, if_pos hd, eex]
              · intro h; exact absurd (kd_1 h).2.1 hl
              · intro h
                have := kd_2 h
                unfold nm
                rw [eex] at this ⊢
                exact f5 this.2.2
              · intro h; unfold kd at h; rw [if_neg hq, if_neg hl, if_pos hd] at h; split at h <;> cases h
        by_cases q1 : F p < nI 97
        · refine yes q1 (rest (fun h => ?_))
          have := isL_t.mp h
          unfold bv at this
          rw [i_lt] at q1
          omega
        · refine no q1 ⟨vp_in_nI (by omega) (by decide), ?_⟩
          by_cases q2 : nI 122 < F p
          · refine yes q2 (rest (fun h => ?_))
            have := isL_t.mp h
            unfold bv at this
            rw [i_lt] at q2
            omega
          · refine no q2 ?_
            have hl : isL F p = true := isL_t.mpr (by rw [i_lt] at q1 q2; unfold bv; omega)
            have eex : ex F n p = run (isL F) (n - p) p := by unfold ex; rw [if_neg hq, if_pos hl]
            have ekd : kd F n p = 1 := by unfold kd; rw [if_neg hq, if_pos hl]
            refine c37 h0 hn (by omega) t0 g3 g2 (fun I' J' f1 f2 f3 f4 f5 f6 => K36_111 (K36_153 (hQ _ _ (f0.t f1) f2 ⟨t0.k f1, f3, f5.trans (by rw [eex]), by rw [f4, ekd], ?_, ?_, ?_⟩)))
            · intro _; rw [f6]; unfold wc; rw [eex]
            · rw [ekd]; intro h; cases h
            · rw [ekd]; intro h; cases h
theorem c36p {d : Nat} {Q : XQ} {S : XS} {I : XI} {J : XJ} {r : XR} {a n p : Nat} {F : Nat → Int32} (h0 : LY5 S r a) (hn : n ≤ 900) (hp : p ≤ n) (ht : TX I a n F) (h2 : I a 2 = nI p)
    (hQ : ∀ I' J', rk a I I' → jk a 5 J J' → RD I' J' a n F (skp F n p) → Q none S I' J' r) : xcall (d + 2) 36 [.ref a] S I J r Q :=
  xc_b [.ref a] rfl rfl rfl (k36 h0 hn (n - p) p 0 0 I (by omega) ht h2 hQ)
theorem c36 {d : Nat} {Q : XQ} {S : XS} {I : XI} {J : XJ} {r : XR} {a n s : Nat} {F : Nat → Int32} (h0 : LY5 S r a) (hn : n ≤ 900) (hs : s ≤ n) (h : RD I J a n F s)
    (hQ : ∀ I' J', rk a I I' → jk a 5 J J' → RD I' J' a n F (nxt F n s) → Q none S I' J' r) : xcall (d + 2) 36 [.ref a] S I J r Q :=
  c36p h0 hn (ex_le hs).2.1 h.1 h.2.2.1 hQ
