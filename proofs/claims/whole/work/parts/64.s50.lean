def B0 : Nat → Int32 := fun i => if i = 0 then nI 5 else if i = 1 then nI 4 else if i = 4 then nI 8 else 0
theorem B0_z {i : Nat} (h : i ≠ 0 ∧ i ≠ 1 ∧ i ≠ 4) : B0 i = 0 := by unfold B0; rw [if_neg h.1, if_neg h.2.1, if_neg h.2.2]
theorem B0_wf : WF B0 := by
  refine ⟨rg_nI (n := 5) (by decide) (by decide) (by decide), rg_nI (n := 4) (by decide) (by decide) (by decide), ?_, ?_, rg_nI (n := 8) (by decide) (by decide) (by decide), fun q hq => ?_, fun p q _ hq => ?_, fun k hk => ?_⟩
  · exact rg_nI (n := 0) (by decide) (by decide) (by decide)
  · exact rg_nI (n := 0) (by decide) (by decide) (by decide)
  · have : bn B0 2 = 0 := rfl
    omega
  · have : bn B0 2 = 0 := rfl
    omega
  · have : bn B0 3 = 0 := rfl
    omega
/-- a coast is emptied -/
theorem k11 {d : Nat} {Q : XQ} {S : XS} {J : XJ} {r : XR} {a : Nat} (h0 : LY0 S r a) : ∀ (j i cu su : Nat) (I : XI), i + j = 11 → (∀ I', (∀ x, x ≠ a + 3 → I' x = I x) → (∀ t, t < i → I' (a + 3) t = I (a + 3) t) → (∀ t, i ≤ t → t < 11 → I' (a + 3) t = 0) → ∀ cu su, xrun z0 (xcall d) Q 11 23 [.ref a, .int (nI 11)] [] S I' J r cu su) → xrun z0 (xcall d) Q 11 23 [.ref a, .int (nI i)] [] S I J r cu su
  | 0, i, cu, su, I, hi, hQ => by
    have : i = 11 := by omega
    subst this
    exact hQ I (fun _ _ => rfl) (fun _ _ => rfl) (fun t h1 h2 => by omega) _ _
  | j + 1, i, cu, su, I, hi, hQ => by
    refine K11_23 h0 (no (by rw [nI_leI (by decide) (by omega)]; omega) ⟨vp_in_nI (by omega) (by decide), ?_⟩)
    rw [nI_add, nI_clamp (by omega)]
    refine k11 h0 j (i + 1) cu su _ (by omega) (fun I' f1 f2 f3 => hQ I' (fun x hx => (f1 x hx).trans (up_o hx)) (fun t ht => (f2 t (by omega)).trans (up_i (by omega))) (fun t h1 h2 => ?_))
    rcases Nat.lt_or_ge i t with q | q
    · exact f3 t q h2
    · have : t = i := by omega
      subst this
      rw [f2 t (by omega), up_e]; rfl
theorem c11 {d : Nat} {Q : XQ} {S : XS} {I : XI} {J : XJ} {r : XR} {a : Nat} {W : Nat → Int64} (h0 : LY0 S r a) (hQ : ∀ I', (∀ x, x ≠ a → x ≠ a + 3 → x ≠ a + 11 → I' x = I x) → CR I' J a B0 W → I' (a + 11) 0 = 0 → I' (a + 11) 1 = 0 → I' (a + 11) 2 = 0 → Q none S I' J r) : xcall (d + 2) 11 [.ref a] S I J r Q := by
  refine E11 h0 (k11 h0 11 0 _ _ _ rfl (fun I' f1 f2 f3 cu su => K11_23 h0 (yes (by decide) (E12 (LY0.l18 h0) (K11_72 (hQ _ (fun x h1 h2 h3 => ?_) ?_ ?_ ?_ ?_))))))
  · rw [up_o h3, up_o h3, up_o h3, up_o h1, up_o h1, up_o h1, up_o h1, f1 x h2, up_o h1, up_o h1, up_o h1, up_o h1]
  · have g : ∀ i, i ≠ 7 → i ≠ 15 → i ≠ 16 → i ≠ 17 → (up2 (up2 (up2 (up2 (up2 (up2 (up2 I' a 7 (nI 0)) a 15 (nI 0)) a 16 (nI 0)) a 17 (nI 0)) (a + 11) 0 (nI 0)) (a + 11) 1 (nI 0)) (a + 11) 2 (nI 0)) a i = up2 (up2 (up2 (up2 I a 0 (nI 5)) a 1 (nI 4)) a 2 (nI 8)) a 3 (nI 0) a i := fun i h1 h2 h3 h4 => by
      rw [up_o (by omega), up_o (by omega), up_o (by omega), up_i h4, up_i h3, up_i h2, up_i h1, f1 a (by omega)]
    refine ⟨B0_wf, ⟨?_, ?_, ?_, ?_, ?_, ?_, ?_, ?_⟩, fun i hi => ?_, fun t ht => ?_, fun k hk => ?_⟩
    · rw [g 0 (by decide) (by decide) (by decide) (by decide), up_i (by decide), up_i (by decide), up_i (by decide), up_e]; rfl
    · rw [g 1 (by decide) (by decide) (by decide) (by decide), up_i (by decide), up_i (by decide), up_e]; rfl
    · rw [g 2 (by decide) (by decide) (by decide) (by decide), up_i (by decide), up_e]; rfl
    · rw [g 3 (by decide) (by decide) (by decide) (by decide), up_e]; rfl
    · rw [up_o (by omega), up_o (by omega), up_o (by omega), up_i (by decide), up_i (by decide), up_i (by decide), up_e]; rfl
    · rw [up_o (by omega), up_o (by omega), up_o (by omega), up_i (by decide), up_i (by decide), up_e]; rfl
    · rw [up_o (by omega), up_o (by omega), up_o (by omega), up_i (by decide), up_e]; rfl
    · rw [up_o (by omega), up_o (by omega), up_o (by omega), up_e]; rfl
    · have : bn B0 2 = 0 := rfl
      omega
    · rw [up_o (by omega), up_o (by omega), up_o (by omega), up_o (by omega), up_o (by omega), up_o (by omega), up_o (by omega), f3 t (by omega) ht]; rfl
    · have : bn B0 3 = 0 := rfl
      omega
  · rw [up_i (by decide), up_i (by decide), up_e]; rfl
  · rw [up_i (by decide), up_e]; rfl
  · rw [up_e]; rfl
/-- the text is laid before the reader -/
theorem c33 {d : Nat} {Q : XQ} {S : XS} {I : XI} {J : XJ} {r : XR} {a t N n : Nat} {F : Nat → Int32} (h0 : LY5 S r a) (ht : S[t]? = some (102, 900)) (hne : t ≠ a ∧ t ≠ a + 1) (hN : N ≤ 900) (hn : n ≤ N) (hF : ∀ i, i < N → I t i = F i)
    (hQ : ∀ I' J', (∀ x, x ≠ a → x ≠ a + 1 → I' x = I x) → jk a 5 J J' → RD I' J' a n F (skp F n 0) → I' a 8 = nI 0 → I' a 9 = -1 → Q none S I' J' r) : xcall (d + 3) 33 [.ref a, .ref t, .int (nI n)] S I J r Q := by
  refine E33 h0 ht (c34 (by decide) (by decide) (K33_13 (c34 (by omega) (by decide) (K33_16 (c35 (by decide) (by omega) (K33_19 h0 ht ?_))))))
  rw [show min 900 900 = 900 from rfl, Nat.min_eq_left (by omega : n ≤ 900), Nat.max_eq_right (Nat.zero_le n), up_e, nI_clamp (by omega), Nat.zero_add]
  refine ⟨⟨by decide, by decide, by rw [show (0 : Int32) = nI 0 from rfl, nI_leI (by decide) (by omega)]; omega, by omega, by omega⟩, ?_⟩
  refine c36p (n := n) (p := 0) (F := F) h0 (by omega) (Nat.zero_le n) ⟨?_, fun i hi => ?_⟩ ?_ (fun I' J' f1 f2 f3 => K33_55 (hQ I' J' (fun x h1 h2 => ?_) f2 f3 ?_ ?_))
  · rw [up_i (by decide), up_i (by decide), up_i (by decide), cp_o (by omega), up_e]
  · rw [up_o (by omega), up_o (by omega), up_o (by omega), cp_e hi, up_o hne.1]
    exact hF i (by omega)
  · rw [up_i (by decide), up_i (by decide), up_e]
  · funext i
    rw [f1 x i (by omega), up_o h1, up_o h1, up_o h1, cp_o h2, up_o h1]
  · rw [f1 a 8 (by omega), up_i (by decide), up_e]
  · rw [f1 a 9 (by omega), up_e]
