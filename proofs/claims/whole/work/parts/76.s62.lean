theorem k190 {d : Nat} {Q : XQ} {S : XS} {J : XJ} {r : XR} {w1 : Value} (hL : LAY S r) : ∀ (j i cu su : Nat) (I : XI), i + j = 345 → (∀ I', (∀ x k, ¬ (x = 70 ∧ 1380 + i ≤ k) → I' x k = I x k) → (∀ k, i ≤ k → k < 345 → I' 70 (1380 + k) = 0) → Q none S (up2 (up2 (up2 I' 70 1380 (nI 5)) 70 1381 (nI 4)) 70 1384 (nI 8)) J r) → xrun z0 (xcall d) Q 190 8 [.ref 65, w1, .int (nI 1380), .int (nI i)] [] S I J r cu su
  | 0, i, cu, su, I, hi, hQ => by
    have : i = 345 := by omega
    subst this
    refine K190_8 hL (yes (by decide) ⟨vp_in_nI (by decide) (by decide), by rw [nI_add]; exact vp_in_nI (by decide) (by decide), by rw [nI_add]; exact vp_in_nI (by decide) (by decide), ?_⟩)
    rw [nI_add, nI_add, nI_clamp (by decide), nI_clamp (by decide), nI_clamp (by decide)]
    exact hQ I (fun _ _ _ => rfl) (fun k h1 h2 => by omega)
  | j + 1, i, cu, su, I, hi, hQ => by
    refine K190_8 hL (no (by rw [nI_leI (by decide) (by omega)]; omega) ?_)
    simp only [nI_add]
    rw [nI_clamp (by omega)]
    refine ⟨vp_in_nI (by omega) (by decide), k190 hL j (i + 1) cu su _ (by omega) (fun I' f1 f2 => hQ I' (fun x k hx => ?_) (fun k h1 h2 => ?_))⟩
    · rw [f1 x k (by omega)]
      by_cases e : x = 70
      · subst e; rw [up_i (by omega)]
      · rw [up_o e]
    · rcases Nat.lt_or_ge i k with q | q
      · exact f2 k q h2
      · have : k = i := by omega
        subst this
        rw [f1 70 _ (by omega), up_e]; rfl
theorem r190 {d : Nat} {Q : XQ} {S : XS} {I : XI} {J : XJ} {r : XR} (hL : LAY S r) (hQ : ∀ I', (∀ x k, ¬ (x = 70 ∧ 1380 ≤ k) → I' x k = I x k) → (∀ k, k < 345 → I' 70 (1380 + k) = B0 k) → Q none S I' J r) : xcall (d + 1) 190 [.ref 65, .int (nI 4)] S I J r Q := by
  refine E190 ?_
  rw [show nI 345 * nI 4 = nI 1380 from by decide]
  refine k190 hL 345 0 0 0 I rfl (fun I' f1 f2 => hQ _ (fun x k hx => ?_) (fun k hk => ?_))
  · have := f1 x k (by omega)
    by_cases e : x = 70
    · subst e
      rw [up_i (by omega), up_i (by omega), up_i (by omega)]; exact this
    · rw [up_o e, up_o e, up_o e]; exact this
  · by_cases e4 : k = 4
    · subst e4; rw [up_e]; rfl
    · rw [up_i (by omega)]
      by_cases e1 : k = 1
      · subst e1; rw [up_e]; rfl
      · rw [up_i (by omega)]
        by_cases e0 : k = 0
        · subst e0; rw [up_e]; rfl
        · rw [up_i (by omega), f2 k (by omega) hk, B0_z ⟨e0, e1, e4⟩]
/-- a text begins -/
theorem r206 {d : Nat} {Q : XQ} {S : XS} {I : XI} {J : XJ} {r : XR} {N M : Nat} {x : Int32} {F : Nat → Int32} (hL : LAY S r) (t : TP I 65 8 69 N F) (hN : N ≤ 900) (hM : M ≤ 900) (hb : ∀ i, i < N → -128 ≤ (F i).toInt ∧ (F i).toInt ≤ 127)
    (hB : ¬ (0 ≤ x.toInt ∧ x.toInt ≤ N ∧ x.toInt ≤ M) → Q (some (.int (nI 0))) S (up2 I 65 0 (nI 5)) J r)
    (hO : ∀ n : Nat, x = nI n → n ≤ N → n ≤ M → ∀ I' J', (∀ y k, ¬ (y = 65 ∧ (k = 8 ∨ k = 9 ∨ 12 ≤ k ∧ k ≤ 18)) → I' y k = I y k) → jk 65 19 J J' → I' 65 8 = nI 0 → GM I' → RM I' J' n F (skp F n 0) → Q (some (.int (nI 1))) S I' J' r) : xcall (d + 3) 206 [.ref 65, .int x, .int (nI M)] S I J r Q := by
  have bad : ¬ (0 ≤ x.toInt ∧ x.toInt ≤ N ∧ x.toInt ≤ M) → xcall (d + 2) 195 [.ref 65, .int (nI 5)] S I J r (fun v S1 I1 J1 r1 => xrun z0 (xcall (d + 2)) Q 206 22 [.ref 65, .int x, .int (nI M)] (v.toList ++ []) S1 I1 J1 r1 0 0) := fun h => E195 (d := d + 1) hL (K206_22 ⟨Or.inl rfl, hB h⟩)
  refine E206 hL ?_
  rcases nI_cases x with q | ⟨n, h1, h2, h3⟩
  · exact yes (by rw [i_lt, i_z]; exact q) (bad (by omega))
  refine no (by rw [i_lt, i_z]; omega) ?_
  rw [t.1]
  by_cases q2 : n ≤ N
  case neg => exact yes (by rw [i_lt, h3, i_toI (by omega)]; omega) (bad (by omega))
  refine no (by rw [i_lt, h3, i_toI (by omega)]; omega) ?_
  by_cases q3 : n ≤ M
  case neg => exact no (by rw [i_le, h3, i_toI (by omega)]; omega) (bad (by omega))
  refine yes (by rw [i_le, h3, i_toI (by omega)]; omega) ?_
  rw [h2]
  refine r207p (d := d) (n := n) (p := 0) (F := F) hL (by omega) (Nat.zero_le n) ⟨?_, fun i hi => ?_, fun i hi => hb i (by omega)⟩ ?_ (fun I' J' f1 f2 f3 => K206_47 (hO n h2 q2 q3 I' J' (fun y k hy => ?_) f2 ?_ ?_ f3))
  · rw [up_i (by decide), up_i (by decide), up_i (by decide), up_e]
  · rw [up_o (by decide), up_o (by decide), up_o (by decide), up_o (by decide)]; exact t.2 i (by omega)
  · rw [up_i (by decide), up_e]
  · rw [f1 y k (by omega)]
    by_cases e : y = 65
    · subst e; rw [up_i (by omega), up_i (by omega), up_i (by omega), up_i (by omega)]
    · rw [up_o e, up_o e, up_o e, up_o e]
  · rw [f1 65 8 (by omega), up_i (by decide), up_i (by decide), up_e]
  · unfold GM; rw [f1 65 12 (by omega), up_e]
