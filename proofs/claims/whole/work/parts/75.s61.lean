/-! the reference: blocks emptied, copied -/
theorem k253w {d : Nat} {Q : XQ} {S : XS} {I : XI} {r : XR} {a b : Nat} (hL : LAY S r) (ha : a ≤ 4) (hb : b ≤ 4) (hab : a ≠ b) : ∀ (j i cu su : Nat) (J : XJ), i + j = 6 → (∀ J', (∀ x k, ¬ (x = 72 ∧ 6 * b + i ≤ k ∧ k < 6 * b + 6) → J' x k = J x k) → (∀ k, i ≤ k → k < 6 → J' 72 (6 * b + k) = J 72 (6 * a + k)) → Q none S I J' r) → xrun z0 (xcall d) Q 253 41 [.ref 65, .int (nI a), .int (nI b), .int (nI i)] [] S I J r cu su
  | 0, i, cu, su, J, hi, hQ => by
    have : i = 6 := by omega
    subst this
    exact K253_41 hL (yes (by decide) (hQ J (fun _ _ _ => rfl) (fun k h1 h2 => by omega)))
  | j + 1, i, cu, su, J, hi, hQ => by
    refine K253_41 hL (no (by rw [nI_leI (by decide) (by omega)]; omega) ?_)
    simp only [pk_mul, nI_add]
    rw [nI_clamp (by omega), nI_clamp (by omega)]
    refine ⟨vp_in_nI (by omega) (by decide), vp_in_nI (by omega) (by decide), ?_⟩
    refine k253w hL ha hb hab j (i + 1) cu su _ (by omega) (fun J' f1 f2 => hQ J' (fun x k hx => ?_) (fun k h1 h2 => ?_))
    · rw [f1 x k (by omega)]
      by_cases e : x = 72
      · subst e; rw [up_i (by omega)]
      · rw [up_o e]
    · rcases Nat.lt_or_ge i k with q | q
      · rw [f2 k q h2, up_i (by omega)]
      · have : k = i := by omega
        subst this
        rw [f1 72 _ (by omega), up_e]
theorem r253 {d : Nat} {Q : XQ} {S : XS} {I : XI} {J : XJ} {r : XR} {a b : Nat} (hL : LAY S r) (ha : a ≤ 4) (hb : b ≤ 4) (hab : a ≠ b)
    (hQ : ∀ I' J', (∀ x k, ¬ (x = 70 ∧ 345 * b ≤ k ∧ k < 345 * b + 345) → I' x k = I x k) → (∀ k, k < 345 → I' 70 (345 * b + k) = I 70 (345 * a + k)) → (∀ x k, ¬ (x = 72 ∧ 6 * b ≤ k ∧ k < 6 * b + 6) → J' x k = J x k) → (∀ k, k < 6 → J' 72 (6 * b + k) = J 72 (6 * a + k)) → Q none S I' J' r) : xcall (d + 1) 253 [.ref 65, .int (nI a), .int (nI b)] S I J r Q := by
  have loop : ∀ (j i cu su : Nat) (I : XI), i + j = 345 → (∀ I', (∀ x k, ¬ (x = 70 ∧ 345 * b + i ≤ k ∧ k < 345 * b + 345) → I' x k = I x k) → (∀ k, i ≤ k → k < 345 → I' 70 (345 * b + k) = I 70 (345 * a + k)) → ∀ cu su, xrun z0 (xcall d) Q 253 41 [.ref 65, .int (nI a), .int (nI b), .int (nI 0)] [] S I' J r cu su) → xrun z0 (xcall d) Q 253 2 [.ref 65, .int (nI a), .int (nI b), .int (nI i)] [] S I J r cu su := by
    intro j
    induction j with
    | zero =>
      intro i cu su I hi hQ
      have : i = 345 := by omega
      subst this
      exact K253_2 hL (yes (by decide) (hQ I (fun _ _ _ => rfl) (fun k h1 h2 => by omega) _ _))
    | succ j ih =>
      intro i cu su I hi hQ
      refine K253_2 hL (no (by rw [nI_leI (by decide) (by omega)]; omega) ?_)
      simp only [pk_mul, nI_add]
      rw [nI_clamp (by omega), nI_clamp (by omega)]
      refine ⟨vp_in_nI (by omega) (by decide), vp_in_nI (by omega) (by decide), ?_⟩
      refine ih (i + 1) cu su _ (by omega) (fun I' f1 f2 => hQ I' (fun x k hx => ?_) (fun k h1 h2 => ?_))
      · rw [f1 x k (by omega)]
        by_cases e : x = 70
        · subst e; rw [up_i (by omega)]
        · rw [up_o e]
      · rcases Nat.lt_or_ge i k with q | q
        · rw [f2 k q h2, up_i (by omega)]
        · have : k = i := by omega
          subst this
          rw [f1 70 _ (by omega), up_e]
  refine E253 (loop 345 0 0 0 I rfl (fun I' f1 f2 cu su => k253w hL ha hb hab 6 0 cu su J rfl (fun J' g1 g2 => hQ I' J' (fun x k hx => f1 x k (by omega)) (fun k hk => f2 k (by omega) hk) (fun x k hx => g1 x k (by omega)) (fun k hk => g2 k (by omega) hk))))
