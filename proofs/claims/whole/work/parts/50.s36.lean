/-! the class's reader -/
def rk (a : Nat) (I I' : XI) : Prop := ∀ x i, ¬ (x = a ∧ (i = 2 ∨ i = 3 ∨ i = 4 ∨ i = 6 ∨ i = 7)) → I' x i = I x i
def jk (a k : Nat) (J J' : XJ) : Prop := ∀ x i, ¬ (x = a ∧ i = k) → J' x i = J x i
theorem rk.r (a : Nat) (I : XI) : rk a I I := fun _ _ _ => rfl
theorem jk.r (a k : Nat) (J : XJ) : jk a k J J := fun _ _ _ => rfl
theorem rk.t {a : Nat} {I I' I2 : XI} (h : rk a I I') (h2 : rk a I' I2) : rk a I I2 := fun x i q => (h2 x i q).trans (h x i q)
theorem jk.t {a k : Nat} {J J' J2 : XJ} (h : jk a k J J') (h2 : jk a k J' J2) : jk a k J J2 := fun x i q => (h2 x i q).trans (h x i q)
theorem rk.u {a i : Nat} {v : Int32} {I I' : XI} (h : rk a I I') (hi : i = 2 ∨ i = 3 ∨ i = 4 ∨ i = 6 ∨ i = 7) : rk a I (up2 I' a i v) := fun x k q => by
  unfold up2
  by_cases e : x = a
  · rw [if_pos e, if_neg (fun e2 => q ⟨e, by rw [e2]; exact hi⟩)]; exact h x k q
  · rw [if_neg e]; exact h x k q
theorem jk.u {a k : Nat} {v : Int64} {J J' : XJ} (h : jk a k J J') : jk a k J (up2 J' a k v) := fun x i q => by
  unfold up2
  by_cases e : x = a
  · rw [if_pos e, if_neg (fun e2 => q ⟨e, e2⟩)]; exact h x i q
  · rw [if_neg e]; exact h x i q
/-- the text: n bytes of F -/
def TX (I : XI) (a n : Nat) (F : Nat → Int32) : Prop := I a 1 = nI n ∧ ∀ i, i < n → I (a + 1) i = F i
theorem TX.k {I I' : XI} {a n : Nat} {F : Nat → Int32} (h : TX I a n F) (k : rk a I I') : TX I' a n F := ⟨(k a 1 (by omega)).trans h.1, fun i hi => (k (a + 1) i (by omega)).trans (h.2 i hi)⟩
theorem sh5 {c e : Nat} (hc : c < 34359738368) (he : e < 32) : ((lN c) <<< ((nI 5).toInt64 &&& 63)) ||| lN e = lN (32 * c + e) := by
  apply Int64.toBitVec_inj.mp
  rw [Int64.toBitVec_or, Int64.toBitVec_shiftLeft]
  show ((lN c).toBitVec <<< (((nI 5).toInt64 &&& 63).toBitVec.smod 64).toNat) ||| (lN e).toBitVec = _
  rw [show ((((nI 5).toInt64 &&& 63).toBitVec.smod 64).toNat) = 5 from by decide]
  show (BitVec.ofNat 64 c <<< 5 ||| BitVec.ofNat 64 e) = BitVec.ofNat 64 (32 * c + e)
  apply BitVec.eq_of_toNat_eq
  rw [BitVec.toNat_or, BitVec.toNat_shiftLeft, BitVec.toNat_ofNat, BitVec.toNat_ofNat, BitVec.toNat_ofNat, Nat.mod_eq_of_lt (by omega : c < 2 ^ 64), Nat.mod_eq_of_lt (by omega : e < 2 ^ 64), Nat.mod_eq_of_lt (by omega : 32 * c + e < 2 ^ 64), Nat.mod_eq_of_lt (by rw [Nat.shiftLeft_eq]; omega), ← Nat.shiftLeft_add_eq_or_of_lt (by omega), Nat.shiftLeft_eq]
  omega
theorem let_l : ∀ x, x < 123 → 97 ≤ x → (nI x &&& nI 31).toInt64 = lN (x - 96) := by decide +kernel
theorem k37 {d : Nat} {Q : XQ} {S : XS} {r : XR} {cu su a n s : Nat} {F : Nat → Int32} (h0 : LY5 S r a) (hn : n ≤ 900) : ∀ (j m : Nat) (I : XI) (J : XJ), s + m + j = n → (∀ i, i < m → isL F (s + i) = true) → TX I a n F → I a 3 = nI s → I a 2 = nI (s + m) → J a 5 = lN (wcd F s (min m 8)) →
    (∀ I' J', rk a I I' → jk a 5 J J' → I' a 3 = nI s → I' a 4 = I a 4 → I' a 2 = nI (run (isL F) j (s + m)) → J' a 5 = lN (if 8 < run (isL F) j (s + m) - s then 0 else wcd F s (run (isL F) j (s + m) - s)) → Q none S I' J' r) → xrun z0 (xcall d) Q 37 10 [.ref a] [] S I J r cu su := by
  intro j
  induction j with
  | zero =>
    intro m I J hj hl ht h3 h2 h5 hQ
    rw [run] at hQ
    refine K37_10 h0 (yes (by rw [ht.1, h2, nI_leI (by omega) (by omega)]; omega) ?_)
    rw [h2, h3, pk_sub (by omega), show s + m - s = m by omega]
    rw [show s + m - s = m by omega] at hQ
    by_cases q : m ≤ 8
    · exact yes (by rw [nI_leI (by omega) (by omega)]; exact q) (hQ _ _ (rk.r _ _) (jk.r _ _ _) h3 rfl h2 (by rw [h5, if_neg (by omega), Nat.min_eq_left q]))
    · exact no (by rw [nI_leI (by omega) (by omega)]; exact q) (hQ _ _ (rk.r _ _) (jk.r _ _ _).u h3 rfl h2 (by rw [up_e, if_pos (by omega)]))
  | succ j ih =>
    intro m I J hj hl ht h3 h2 h5 hQ
    have fin : isL F (s + m) ≠ true → (nI m ≤ nI 8 → Q none S I J r) ∧ (¬ nI m ≤ nI 8 → Q none S I (up2 J a 5 (lN 0)) r) := fun hb => by
      rw [run, if_neg hb, show s + m - s = m by omega] at hQ
      by_cases q : m ≤ 8
      · exact yes (by rw [nI_leI (by omega) (by omega)]; exact q) (hQ _ _ (rk.r _ _) (jk.r _ _ _) h3 rfl h2 (by rw [h5, if_neg (by omega), Nat.min_eq_left q]))
      · exact no (by rw [nI_leI (by omega) (by omega)]; exact q) (hQ _ _ (rk.r _ _) (jk.r _ _ _).u h3 rfl h2 (by rw [up_e, if_pos (by omega)]))
    have z97 : (nI 97).toInt = 97 := rfl
    have z122 : (nI 122).toInt = 122 := rfl
    refine K37_10 h0 (no (by rw [ht.1, h2, nI_leI (by omega) (by omega)]; omega) ?_)
    rw [h2, h3, pk_sub (by omega), show s + m - s = m by omega, nI_clamp (by omega), ht.2 (s + m) (by omega)]
    refine ⟨vp_in_nI (by omega) (by decide), ?_⟩
    by_cases q1 : F (s + m) < nI 97
    · refine yes q1 (fin (fun h => ?_))
      have := isL_t.mp h
      unfold bv at this
      rw [i_lt] at q1
      omega
    · refine no q1 ⟨vp_in_nI (by omega) (by decide), ?_⟩
      by_cases q2 : nI 122 < F (s + m)
      · refine yes q2 (fin (fun h => ?_))
        have := isL_t.mp h
        unfold bv at this
        rw [i_lt] at q2
        omega
      · have hl1 : isL F (s + m) = true := isL_t.mpr (by rw [i_lt] at q1 q2; unfold bv; omega)
        have lv1 := lv_L hl1
        rw [run, if_pos hl1] at hQ
        refine no q2 ?_
        rw [nI_add]
        have go : ∀ J1, jk a 5 J J1 → J1 a 5 = lN (wcd F s (min (m + 1) 8)) → xrun z0 (xcall d) Q 37 10 [.ref a] [] S (up2 I a 2 (nI (s + m + 1))) J1 r cu su := fun J1 hj1 hj2 => by
          refine ih (m + 1) _ _ (by omega) (fun i hi => ?_) (ht.k ((rk.r a I).u (Or.inl rfl))) (by rw [up_i (by decide)]; exact h3) up_e hj2 (fun I' J' f1 f2 f3 f4 f5 f6 => hQ I' J' (((rk.r a I).u (Or.inl rfl)).t f1) (hj1.t f2) f3 (by rw [f4, up_i (by decide)]) f5 f6)
          rcases Nat.lt_or_ge i m with q | q
          · exact hl i q
          · have : i = m := by omega
            subst this; exact hl1
        by_cases q3 : 8 ≤ m
        · exact yes (by rw [nI_leI (by omega) (by omega)]; exact q3) (go J (jk.r _ _ _) (by rw [h5, Nat.min_eq_right q3, Nat.min_eq_right (by omega)]))
        · refine no (by rw [nI_leI (by omega) (by omega)]; exact q3) ⟨vp_in_nI (by omega) (by decide), go _ (jk.r _ _ _).u ?_⟩
          have hc := (wcd_lt (F := F) (s := s) m hl).1
          have : 32 ^ m ≤ 32 ^ 7 := Nat.pow_le_pow_right (by decide) (by omega)
          have e7 : 32 ^ 7 = 34359738368 := rfl
          rw [up_e, h5, Nat.min_eq_left (by omega), Nat.min_eq_left (by omega), lv1.2.2, let_l _ (by omega) lv1.1, sh5 (by omega) (by omega)]
          rfl
theorem c37 {d : Nat} {Q : XQ} {S : XS} {I : XI} {J : XJ} {r : XR} {a n s : Nat} {F : Nat → Int32} (h0 : LY5 S r a) (hn : n ≤ 900) (hs : s < n) (ht : TX I a n F) (h3 : I a 3 = nI s) (h2 : I a 2 = nI s)
    (hQ : ∀ I' J', rk a I I' → jk a 5 J J' → I' a 3 = nI s → I' a 4 = nI 1 → I' a 2 = nI (run (isL F) (n - s) s) → J' a 5 = lN (if 8 < run (isL F) (n - s) s - s then 0 else wcd F s (run (isL F) (n - s) s - s)) → Q none S I' J' r) : xcall (d + 1) 37 [.ref a] S I J r Q :=
  E37 h0 (k37 (F := F) (s := s) h0 hn (n - s) 0 _ _ (by omega) (fun i hi => absurd hi (by omega)) (ht.k ((rk.r a I).u (Or.inr (Or.inr (Or.inl rfl))))) (by rw [up_i (by decide)]; exact h3) (by rw [up_i (by decide)]; exact h2) (by rw [up_e]; rfl) (fun I' J' f1 f2 f3 f4 f5 f6 => hQ I' J' (((rk.r a I).u (Or.inr (Or.inr (Or.inl rfl)))).t f1) ((jk.r _ _ _).u.t f2) f3 (by rw [f4, up_e]) f5 f6))
theorem k38 {d : Nat} {Q : XQ} {S : XS} {J : XJ} {r : XR} {cu su a n s : Nat} {F : Nat → Int32} (h0 : LY5 S r a) (hn : n ≤ 900) : ∀ (j m : Nat) (I : XI), s + m + j = n → (∀ i, i < m → isD F (s + i) = true) → TX I a n F → I a 3 = nI s → I a 2 = nI (s + m) → I a 6 = nI (ncd F s (min m 4)) →
    (∀ I', rk a I I' → I' a 3 = nI s → I' a 2 = nI (run (isD F) j (s + m)) → I' a 4 = nI (if 4 < run (isD F) j (s + m) - s then 4 else 2) → (run (isD F) j (s + m) - s ≤ 4 → I' a 6 = nI (ncd F s (run (isD F) j (s + m) - s))) → Q none S I' J r) → xrun z0 (xcall d) Q 38 5 [.ref a] [] S I J r cu su := by
  intro j
  have fin : ∀ (m : Nat) (I : XI), m ≤ 900 → I a 3 = nI s → I a 2 = nI (s + m) → I a 6 = nI (ncd F s (min m 4)) → (∀ I', rk a I I' → I' a 3 = nI s → I' a 2 = nI (s + m) → I' a 4 = nI (if 4 < m then 4 else 2) → (m ≤ 4 → I' a 6 = nI (ncd F s m)) → Q none S I' J r) →
      (nI m ≤ nI 4 → xrun z0 (xcall d) Q 38 113 [.ref a] [.int (nI 2), .ref a] S I J r cu su) ∧ (¬ nI m ≤ nI 4 → xrun z0 (xcall d) Q 38 113 [.ref a] [.int (nI 4), .ref a] S I J r cu su) := fun m I h9 h3 h2 h6 hQ => by
    by_cases q : m ≤ 4
    · exact yes (by rw [nI_leI (by omega) (by omega)]; exact q) (K38_113 h0 (hQ _ ((rk.r _ _).u (Or.inr (Or.inr (Or.inl rfl)))) (by rw [up_i (by decide)]; exact h3) (by rw [up_i (by decide)]; exact h2) (by rw [up_e, if_neg (by omega)]) (fun _ => by rw [up_i (by decide), h6, Nat.min_eq_left q])))
    · exact no (by rw [nI_leI (by omega) (by omega)]; exact q) (K38_113 h0 (hQ _ ((rk.r _ _).u (Or.inr (Or.inr (Or.inl rfl)))) (by rw [up_i (by decide)]; exact h3) (by rw [up_i (by decide)]; exact h2) (by rw [up_e, if_pos (by omega)]) (fun h => absurd h q)))
  induction j with
  | zero =>
    intro m I hj hl ht h3 h2 h6 hQ
    rw [run, show s + m - s = m by omega] at hQ
    refine K38_5 h0 (yes (by rw [ht.1, h2, nI_leI (by omega) (by omega)]; omega) ?_)
    rw [h2, h3, pk_sub (by omega), show s + m - s = m by omega]
    exact fin m I (by omega) h3 h2 h6 hQ
  | succ j ih =>
    intro m I hj hl ht h3 h2 h6 hQ
    have z48 : (nI 48).toInt = 48 := rfl
    have z57 : (nI 57).toInt = 57 := rfl
    have stop : isD F (s + m) ≠ true → (nI m ≤ nI 4 → xrun z0 (xcall d) Q 38 113 [.ref a] [.int (nI 2), .ref a] S I J r cu su) ∧ (¬ nI m ≤ nI 4 → xrun z0 (xcall d) Q 38 113 [.ref a] [.int (nI 4), .ref a] S I J r cu su) := fun hb => by
      rw [run, if_neg hb, show s + m - s = m by omega] at hQ
      exact fin m I (by omega) h3 h2 h6 hQ
    refine K38_5 h0 (no (by rw [ht.1, h2, nI_leI (by omega) (by omega)]; omega) ?_)
    rw [h2, h3, pk_sub (by omega), show s + m - s = m by omega, nI_clamp (by omega), ht.2 (s + m) (by omega)]
    refine ⟨vp_in_nI (by omega) (by decide), ?_⟩
    by_cases q1 : F (s + m) < nI 48
    · refine yes q1 (stop (fun h => ?_))
      have := isD_t.mp h
      unfold bv at this
      rw [i_lt] at q1
      omega
    · refine no q1 ⟨vp_in_nI (by omega) (by decide), ?_⟩
      by_cases q2 : nI 57 < F (s + m)
      · refine yes q2 (stop (fun h => ?_))
        have := isD_t.mp h
        unfold bv at this
        rw [i_lt] at q2
        omega
      · have hl1 : isD F (s + m) = true := isD_t.mpr (by rw [i_lt] at q1 q2; unfold bv; omega)
        have lv1 := lv_D hl1
        rw [run, if_pos hl1] at hQ
        refine no q2 ?_
        have all : ∀ i, i < m + 1 → isD F (s + i) = true := fun i hi => by
          rcases Nat.lt_or_ge i m with q | q
          · exact hl i q
          · have : i = m := by omega
            subst this; exact hl1
        by_cases q3 : 4 ≤ m
        · refine yes (by rw [nI_leI (by omega) (by omega)]; exact q3) ?_
          rw [nI_add]
          exact ih (m + 1) _ (by omega) all (ht.k ((rk.r a I).u (Or.inl rfl))) (by rw [up_i (by decide)]; exact h3) up_e (by rw [up_i (by decide), h6, Nat.min_eq_right q3, Nat.min_eq_right (by omega)]) (fun I' f1 f2 f3 f4 f5 => hQ I' (((rk.r a I).u (Or.inl rfl)).t f1) f2 f3 f4 f5)
        · refine no (by rw [nI_leI (by omega) (by omega)]; exact q3) ⟨vp_in_nI (by omega) (by decide), ?_⟩
          rw [up_i (by decide), h2, h6, Nat.min_eq_left (by omega), lv1.2.2, pk_sub lv1.1, pk_mul, nI_add, nI_add]
          have f0 : rk a I (up2 (up2 I a 6 (nI (ncd F s m * 10 + (lv F (s + m) - 48)))) a 2 (nI (s + m + 1))) := ((rk.r a I).u (by omega)).u (Or.inl rfl)
          exact ih (m + 1) _ (by omega) all (ht.k f0) (by rw [up_i (by decide), up_i (by decide)]; exact h3) up_e (by rw [up_i (by decide), up_e, Nat.min_eq_left (by omega), ncd, Nat.mul_comm]) (fun I' f1 f2 f3 f4 f5 => hQ I' (f0.t f1) f2 f3 f4 f5)
theorem c38 {d : Nat} {Q : XQ} {S : XS} {I : XI} {J : XJ} {r : XR} {a n s : Nat} {F : Nat → Int32} (h0 : LY5 S r a) (hn : n ≤ 900) (hs : s < n) (ht : TX I a n F) (h3 : I a 3 = nI s) (h2 : I a 2 = nI s)
    (hQ : ∀ I', rk a I I' → I' a 3 = nI s → I' a 2 = nI (run (isD F) (n - s) s) → I' a 4 = nI (if 4 < run (isD F) (n - s) s - s then 4 else 2) → (run (isD F) (n - s) s - s ≤ 4 → I' a 6 = nI (ncd F s (run (isD F) (n - s) s - s))) → Q none S I' J r) : xcall (d + 1) 38 [.ref a] S I J r Q :=
  E38 h0 (k38 (F := F) (s := s) h0 hn (n - s) 0 _ (by omega) (fun i hi => absurd hi (by omega)) (ht.k ((rk.r a I).u (by omega))) (by rw [up_i (by decide)]; exact h3) (by rw [up_i (by decide)]; exact h2) (by rw [up_e]; rfl) (fun I' f1 f2 f3 f4 f5 => hQ I' (((rk.r a I).u (by omega)).t f1) f2 f3 f4 f5))
