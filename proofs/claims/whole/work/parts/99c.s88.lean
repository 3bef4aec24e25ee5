/-! small calls -/
theorem c13 {d : Nat} {Q : XQ} {S : XS} {I : XI} {J : XJ} {r : XR} (hL : LAY S r) (hQ : Q (some (.int (I 0 13))) S I J r) : xcall (d + 1) 13 [.ref 0] S I J r Q := E13 hL hQ
theorem r191 {d : Nat} {Q : XQ} {S : XS} {I : XI} {J : XJ} {r : XR} (hL : LAY S r) (hQ : Q (some (.int (I 65 0))) S (up2 I 65 1 (nI 0)) J r) : xcall (d + 1) 191 [.ref 65] S I J r Q := E191 hL (by rw [up_i (by decide)]; exact hQ)
def f97 (a b x : Int32) : Int32 := if x = 0 then a else if x = nI 1 then b else -1
theorem c97 {d : Nat} {Q : XQ} {S : XS} {I : XI} {J : XJ} {r : XR} {x : Int32} (hL : LAY S r) (hQ : Q (some (.int (f97 (I 0 14) (I 0 15) x))) S I J r) : xcall (d + 1) 97 [.ref 0, .int x] S I J r Q := by
  unfold f97 at hQ
  refine E97 hL ⟨fun h => ⟨fun h2 => ?_, fun h2 => ?_⟩, fun h => ?_⟩
  · rw [if_neg h, if_neg h2] at hQ; exact hQ
  · rw [if_neg h, if_pos (Decidable.not_not.mp h2)] at hQ; exact hQ
  · rw [if_pos (Decidable.not_not.mp h)] at hQ; exact hQ
theorem r204 {d : Nat} {Q : XQ} {S : XS} {I : XI} {J : XJ} {r : XR} {x : Int32} (hL : LAY S r) (hQ : Q (some (.int (f97 (I 65 10) (I 65 11) x))) S (up2 I 65 1 (nI 0)) J r) : xcall (d + 1) 204 [.ref 65, .int x] S I J r Q := by
  unfold f97 at hQ
  refine E204 hL ⟨fun h => ⟨fun h2 => ?_, fun h2 => ?_⟩, fun h => ?_⟩
  · rw [if_neg h, if_neg h2] at hQ; exact hQ
  · rw [if_neg h, if_pos (Decidable.not_not.mp h2)] at hQ; rw [up_i (by decide)]; exact hQ
  · rw [if_pos (Decidable.not_not.mp h)] at hQ; rw [up_i (by decide)]; exact hQ
/-- what was lived -/
def f184 (b : Int32) (g : Nat → Int32) (x : Int32) : Nat × Int32 := if okr x 0 4 then (if b = 0 then (8, -1) else (0, g (cl x))) else (5, -1)
theorem c184 {d : Nat} {Q : XQ} {S : XS} {I : XI} {J : XJ} {r : XR} {x : Int32} (hL : LAY S r) (hQ : Q (some (.int (f184 (I 0 16) (I 27) x).2)) S (up2 I 0 13 (nI (f184 (I 0 16) (I 27) x).1)) J r) : xcall (d + 2) 184 [.ref 0, .int x] S I J r Q := by
  have z4 : (nI 5 - nI 1).toInt = 4 := rfl
  have z0' : (nI 0).toInt = 0 := rfl
  unfold f184 at hQ
  refine E184 hL (c101 (d := d) (fun h1 h2 => ?_) (fun h => ?_))
  · rw [z0'] at h1
    rw [z4] at h2
    have hx : okr x 0 4 := ⟨h1, h2⟩
    rw [if_pos hx] at hQ
    obtain ⟨x1, x2, x3⟩ := okr_cl (lo := 0) (hi := 4) hx (by decide)
    refine K184_12 hL ⟨fun _ => ⟨fun e => ?_, fun e => ?_⟩, fun g => absurd (by decide) g⟩
    · rw [if_pos e] at hQ
      exact E31 (d := d) hL (K184_47 hQ)
    · rw [if_neg e] at hQ
      exact ⟨by rw [x3]; exact vp_in_nI (by omega) (by decide), E83 (d := d) hL (K184_38 (K184_47 hQ))⟩
  · rw [z0', z4] at h
    rw [if_neg (fun q => h q)] at hQ
    exact K184_12 hL (nno rfl (E31 (d := d) hL (K184_20 hQ)))
theorem r347 {d : Nat} {Q : XQ} {S : XS} {I : XI} {J : XJ} {r : XR} {x : Int32} (hL : LAY S r) (hQ : QM Q S I J r (f184 (I 65 32) (I 75) x).1 (f184 (I 65 32) (I 75) x).2) : xcall (d + 2) 347 [.ref 65, .int x] S I J r Q := by
  have z4 : (lN 4).toInt = 4 := rfl
  have z0' : (lN 0).toInt = 0 := rfl
  unfold f184 at hQ
  refine E347 hL (c221 (d := d) (fun h1 h2 => ?_) (fun h => ?_))
  · rw [z0', i_l] at h1
    rw [z4, i_l] at h2
    have hx : okr x 0 4 := ⟨h1, h2⟩
    rw [if_pos hx] at hQ
    obtain ⟨x1, x2, x3⟩ := okr_cl (lo := 0) (hi := 4) hx (by decide)
    refine K347_19 hL ⟨fun _ => ⟨fun e => ?_, fun e => ?_⟩, fun g => absurd (by decide) g⟩
    · rw [up_i (by decide), up_i (by decide)] at e
      rw [if_pos e] at hQ
      exact E261 (d := d) hL (K347_50 hQ.r)
    · rw [up_i (by decide), up_i (by decide)] at e
      rw [if_neg e] at hQ
      exact ⟨by rw [x3]; exact vp_in_nI (by omega) (by decide), K347_50 (by
        rw [up_o (by decide), up_o (by decide)]
        exact hQ.z)⟩
  · rw [z0', z4, i_l] at h
    rw [if_neg (fun q => h q)] at hQ
    exact K347_19 hL (nno rfl (E261 (d := d) hL (K347_27 hQ.r)))
/-- back -/
theorem c188n {d : Nat} {Q : XQ} {S : XS} {I : XI} {J : XJ} {r : XR} (hL : LAY S r) (h : I 0 11 = nI 0) (hQ : Q (some (.int (-1))) S (up2 I 0 13 (nI 8)) J r) : xcall (d + 2) 188 [.ref 0] S I J r Q := by
  refine E188 hL ?_
  rw [h]
  exact c101 (d := d) (fun h1 h2 => absurd h1 (by decide)) (fun _ => K188_13 hL (yes rfl (E31 (d := d) hL (K188_42 hQ))))
theorem c188 {d : Nat} {Q : XQ} {S : XS} {I : XI} {J : XJ} {r : XR} {m am : Nat} (hL : LAY S r) (h : I 0 11 = nI (m + 1)) (hm : m < 3) (hr : r 64 m = some am) (hA : LY0 S r am) (h01 : I (am + 11) 0 = 0 ∨ I (am + 11) 0 = 1) (ha : 45 < am) (hQ : ∀ I' J', CP I J I' J' 28 am → Q (some (.int (nI m))) S (up2 (up2 I' 0 11 (nI m)) 0 13 (nI 0)) J' r) : xcall (d + 4) 188 [.ref 0] S I J r Q := by
  have z3 : (nI 3).toInt = 3 := rfl
  have z1 : (nI 1).toInt = 1 := rfl
  have zm : (nI (m + 1)).toInt = (m + 1 : Nat) := nI_toInt (by omega)
  refine E188 hL ?_
  rw [h]
  refine c101 (d := d + 2) (fun _ _ => K188_13 hL (no (by decide) ?_)) (fun g => absurd ⟨by rw [z1, zm]; omega, by rw [z3, zm]; omega⟩ g)
  rw [h, show nI (m + 1) - nI 1 = nI m from by rw [pk_sub (by omega)]; rfl, nI_clamp (by omega), hr]
  refine ⟨vp_in_nI (by omega) (by decide), K188_27R hA hL (c80 (d := d) (lay0_28 hL) hA (Or.inl (by omega)) h01 (fun I' J' cp => K188_51 hL ?_))⟩
  have e : I' 0 11 = nI (m + 1) := by rw [cp.1 0 (by omega)]; exact h
  rw [up_e, e, show nI (m + 1) - nI 1 = nI m from by rw [pk_sub (by omega)]; rfl]
  exact E83 (d := d + 2) hL (K188_69 (hQ I' J' cp))
theorem r350n {d : Nat} {Q : XQ} {S : XS} {I : XI} {J : XJ} {r : XR} (hL : LAY S r) (h : I 65 23 = nI 0) (hQ : Q (some (.int (-1))) S (up2 (m2 I) 65 0 (nI 8)) J r) : xcall (d + 2) 350 [.ref 65] S I J r Q := by
  have e : up2 (up2 I 65 1 (nI 0)) 65 0 (nI 0) 65 23 = nI 0 := h
  refine E350 hL ?_
  rw [e]
  exact nno rfl (E261 (d := d) hL (K350_23 hQ))
theorem r350 {d : Nat} {Q : XQ} {S : XS} {I : XI} {J : XJ} {r : XR} {m : Nat} (hL : LAY S r) (h : I 65 23 = nI (m + 1)) (hm : m < 3)
    (hQ : ∀ I' J', (∀ x k, ¬ (x = 70 ∧ k < 345) → I' x k = m2 I x k) → (∀ k, k < 345 → I' 70 k = I 70 (345 * (m + 1) + k)) → (∀ x k, ¬ (x = 72 ∧ k < 6) → J' x k = J x k) → (∀ k, k < 6 → J' 72 k = J 72 (6 * (m + 1) + k)) → Q (some (.int (nI m))) S (up2 I' 65 23 (nI m)) J' r) : xcall (d + 2) 350 [.ref 65] S I J r Q := by
  have e : up2 (up2 I 65 1 (nI 0)) 65 0 (nI 0) 65 23 = nI (m + 1) := h
  refine E350 hL ?_
  rw [e]
  refine ⟨fun _ => r253 (d := d) hL (by omega) (by decide) (by omega) (fun I' J' f1 f2 f3 f4 => K350_33 hL ?_), fun g => absurd (fun q => absurd ((nI_eqI (b := 0) (by omega) (by decide)).mp q) (by omega)) g⟩
  have e2 : I' 65 23 = nI (m + 1) := by rw [f1 65 23 (by omega)]; exact h
  rw [up_e, e2, show nI (m + 1) - nI 1 = nI m from by rw [pk_sub (by omega)]; rfl]
  refine hQ I' J' (fun x k hx => f1 x k (by omega)) (fun k hk => ?_) (fun x k hx => f3 x k (by omega)) (fun k hk => ?_)
  · have := f2 k hk
    rw [Nat.mul_zero, Nat.zero_add] at this
    rw [this]
    rfl
  · have := f4 k hk
    rw [Nat.mul_zero, Nat.zero_add] at this
    exact this
/-- mark, the reference's -/
theorem r349n {d : Nat} {Q : XQ} {S : XS} {I : XI} {J : XJ} {r : XR} (hL : LAY S r) (h : I 65 23 = nI 3) (hQ : Q (some (.int (-1))) S (up2 (m2 I) 65 0 (nI 7)) J r) : xcall (d + 2) 349 [.ref 65] S I J r Q := by
  have e : up2 (up2 I 65 1 (nI 0)) 65 0 (nI 0) 65 23 = nI 3 := h
  refine E349 hL ?_
  rw [e]
  exact nno rfl (E261 (d := d) hL (K349_24 hQ))
theorem r349 {d : Nat} {Q : XQ} {S : XS} {I : XI} {J : XJ} {r : XR} {m : Nat} (hL : LAY S r) (h : I 65 23 = nI m) (hm : m < 3)
    (hQ : ∀ I' J', (∀ x k, ¬ (x = 70 ∧ 345 * (m + 1) ≤ k ∧ k < 345 * (m + 1) + 345) → I' x k = up2 (m2 I) 65 23 (nI (m + 1)) x k) → (∀ k, k < 345 → I' 70 (345 * (m + 1) + k) = I 70 k) → (∀ x k, ¬ (x = 72 ∧ 6 * (m + 1) ≤ k ∧ k < 6 * (m + 1) + 6) → J' x k = J x k) → (∀ k, k < 6 → J' 72 (6 * (m + 1) + k) = J 72 k) → Q (some (.int (nI (m + 1)))) S I' J' r) : xcall (d + 2) 349 [.ref 65] S I J r Q := by
  have e : up2 (up2 I 65 1 (nI 0)) 65 0 (nI 0) 65 23 = nI m := h
  refine E349 hL ?_
  rw [e, nI_add, up_e]
  refine ⟨fun _ => r253 (d := d) (a := 0) hL (by decide) (by omega) (by omega) (fun I' J' f1 f2 f3 f4 => K349_44 hL ?_), fun g => absurd (fun q => ?_) g⟩
  · have e2 : I' 65 23 = nI (m + 1) := by rw [f1 65 23 (by omega), up_e]
    rw [e2]
    refine hQ I' J' (fun x k hx => f1 x k (by omega)) (fun k hk => ?_) (fun x k hx => f3 x k (by omega)) (fun k hk => ?_)
    · rw [f2 k hk, Nat.mul_zero, Nat.zero_add]
      rfl
    · rw [f4 k hk, Nat.mul_zero, Nat.zero_add]
  · have := (nI_eqI (by omega) (by omega)).mp q
    omega
