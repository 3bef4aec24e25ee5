/-! words, names, numbers: the class -/
theorem cmp_e {x y : Int64} : lg_cmp x y = 0 ↔ x = y := by
  unfold lg_cmp
  by_cases q : x > y
  · rw [if_pos q]
    exact ⟨fun h => absurd h (by decide), fun h => by rw [i_gt] at q; rw [h] at q; omega⟩
  · rw [if_neg q]
    by_cases q2 : x = y
    · rw [if_pos q2]; exact ⟨fun _ => q2, fun _ => rfl⟩
    · rw [if_neg q2]; exact ⟨fun h => absurd h (by decide), fun h => absurd h q2⟩
theorem lN_inj {a b : Nat} (ha : a < 9223372036854775808) (hb : b < 9223372036854775808) : lN a = lN b ↔ a = b := by
  refine ⟨fun h => ?_, fun h => by rw [h]⟩
  have := congrArg Int64.toInt h
  rw [l_i ha, l_i hb] at this
  omega
def sch (s i : Nat) : Nat := (xstb.getD s []).getD i 0
def swd (s : Nat) : Nat → Nat
  | 0 => 0
  | i + 1 => 32 * swd s i + sch s i % 32
theorem sch_e : ∀ s, s < 29 → ∀ i, i < strLen s → ((((strAt s i &&& nI 255).toUInt32 % 65536).toInt32).toUInt32.toUInt16.toUInt32.toInt32 = (((strAt s i &&& nI 255).toUInt32 % 65536).toInt32)) ∧ (((strAt s i &&& nI 255).toUInt32 % 65536).toInt32) = nI (sch s i) ∧ (nI (sch s i)).toUInt32.toUInt16.toUInt32.toInt32 = nI (sch s i) ∧ sch s i < 128 ∧ strLen s < 1000 := by decide +kernel
theorem len_e : ∀ s, s < 29 → (nI (strLen s)) >>> (nI 0 &&& nI 31) = nI (strLen s) ∧ strLen s < 1000 := by decide +kernel
theorem c41 {d : Nat} {Q : XQ} {S : XS} {I : XI} {J : XJ} {r : XR} {s : Nat} (hs : s < 29) (hQ : Q (some (.int (nI (strLen s)))) S I J r) : xcall (d + 2) 41 [.retAddr s] S I J r Q := by
  refine E41 hs (E42 hs (no (by decide) ⟨by decide, K41_9 ?_⟩))
  have := (len_e s hs).1
  rw [show (31 : Int32) = nI 31 from rfl]
  rw [this]
  exact hQ
theorem c43 {d : Nat} {Q : XQ} {S : XS} {I : XI} {J : XJ} {r : XR} {s i : Nat} (hs : s < 29) (hi : i < strLen s) (hQ : Q (some (.int (nI (sch s i)))) S I J r) : xcall (d + 4) 43 [.retAddr s, .int (nI i)] S I J r Q := by
  have e := sch_e s hs i hi
  refine E43 hs (E44 hs (no (by decide) (nno rfl (K43_4 hs (no (by decide) (E45 hs (E46 (E47 (no (nI_pos (by omega)) (yes (by rw [nI_ltI (by omega) (by omega)]; exact hi) (K46_8 (K45_6 hs ⟨vp_in_nI hi (by omega), ?_⟩))))))))))))
  rw [nI_clamp (by omega)]
  refine ⟨e.1, ?_⟩
  rw [e.2.1]
  exact K43_15 ⟨e.2.2.1, hQ⟩
theorem let_31 : ∀ x, x < 128 → (nI x &&& nI 31).toInt64 = lN (x % 32) := by decide +kernel
def isW (F : Nat → Int32) (n s K : Nat) : Bool := decide (kd F n s = 1 ∧ wc F n s = K)
theorem isW_t {F : Nat → Int32} {n s K : Nat} : isW F n s K = true ↔ kd F n s = 1 ∧ wc F n s = K := decide_eq_true_iff
theorem kd_le {F : Nat → Int32} {n s : Nat} : kd F n s ≤ 4 := by
  unfold kd
  split
  · omega
  · split
    · omega
    · split
      · split <;> omega
      · split <;> omega
theorem k40 {d : Nat} {Q : XQ} {S : XS} {I : XI} {J : XJ} {r : XR} {cu su a n s k : Nat} {F : Nat → Int32} (h0 : LY5 S r a) (h : RD I J a n F s) (hk : k < 29) (hb : ∀ i, i < strLen k → swd k i < 34359738368) (hK : swd k (strLen k) < 1099511627776)
    (hT : isW F n s (swd k (strLen k)) = true → Q (some (.int (nI 1))) S I J r) (hF : isW F n s (swd k (strLen k)) = false → Q (some (.int (nI 0))) S I J r) : ∀ j i w3, i + j = strLen k → xrun z0 (xcall (d + 4)) Q 40 5 [.ref a, .retAddr k, .long (lN (swd k i)), w3, .int (nI i)] [] S I J r cu su
  | 0, i, w3, hi => by
    have l := (len_e k hk).2
    have e : i = strLen k := by omega
    subst e
    refine K40_5 hk (c41 hk (K40_11 h0 hk (yes (Int32.le_refl _) ?_)))
    rw [h.2.2.2.1, nI_eqI (by have := kd_le (F := F) (n := n) (s := s); omega) (by decide)]
    by_cases q : kd F n s = 1
    · refine nno q ?_
      have hw := wc_lt q
      rw [h.2.2.2.2.1 q, cmp_e, lN_inj (by omega) (by omega)]
      by_cases q2 : wc F n s = swd k (strLen k)
      · exact nno q2 (hT (isW_t.mpr ⟨q, q2⟩))
      · exact yes q2 (hF (Bool.eq_false_iff.mpr (fun h => q2 (isW_t.mp h).2)))
    · exact yes q (hF (Bool.eq_false_iff.mpr (fun h => q (isW_t.mp h).1)))
  | j + 1, i, w3, hi => by
    have l := (len_e k hk).2
    have e := sch_e k hk i (by omega)
    refine K40_5 hk (c41 hk (K40_11 h0 hk (no (by rw [nI_leI (by omega) (by omega)]; omega) (c43 hk (by omega) (K40_23 ?_)))))
    have e2 := let_31 _ e.2.2.2.1
    rw [e2, sh5 (hb i (by omega)) (Nat.mod_lt _ (by decide)), nI_add]
    exact k40 h0 h hk hb hK hT hF j (i + 1) _ (by omega)
theorem c40 {d : Nat} {Q : XQ} {S : XS} {I : XI} {J : XJ} {r : XR} {a n s k : Nat} {F : Nat → Int32} (h0 : LY5 S r a) (h : RD I J a n F s) (hk : k < 29) (hb : ∀ i, i < strLen k → swd k i < 34359738368) (hK : swd k (strLen k) < 1099511627776)
    (hT : isW F n s (swd k (strLen k)) = true → Q (some (.int (nI 1))) S I J r) (hF : isW F n s (swd k (strLen k)) = false → Q (some (.int (nI 0))) S I J r) : xcall (d + 5) 40 [.ref a, .retAddr k] S I J r Q :=
  E40 (k40 h0 h hk hb hK hT hF (strLen k) 0 _ (by omega))
def am (F : Nat → Int32) (n s : Nat) : Nat := if kd F n s = 4 then 1 else 2
def FA (Q : XQ) (S : XS) (I : XI) (J : XJ) (r : XR) (a k s : Nat) : Prop := Q (some (.int (nI 0))) S (up2 (up2 I a 8 (nI k)) a 9 (nI s)) J r
theorem c53 {d : Nat} {Q : XQ} {S : XS} {I : XI} {J : XJ} {r : XR} {a n s k : Nat} {F : Nat → Int32} (h0 : LY5 S r a) (h : RD I J a n F s) (hQ : FA Q S I J r a k s) : xcall (d + 1) 53 [.ref a, .int (nI k)] S I J r Q := by
  refine E53 h0 ?_
  rw [up_i (by decide), h.2.1]
  exact hQ
theorem c55 {d : Nat} {Q : XQ} {S : XS} {I : XI} {J : XJ} {r : XR} {a n s : Nat} {F : Nat → Int32} (h0 : LY5 S r a) (h : RD I J a n F s) (hQ : FA Q S I J r a (am F n s) s) : xcall (d + 1) 55 [.ref a] S I J r Q := by
  refine E55 h0 ?_
  rw [h.2.2.2.1, nI_eqI (by have := kd_le (F := F) (n := n) (s := s); omega) (by decide)]
  unfold am FA at hQ
  by_cases q : kd F n s = 4
  · rw [if_pos q] at hQ
    refine nno q ?_
    rw [up_i (by decide), h.2.1]
    exact hQ
  · rw [if_neg q] at hQ
    refine yes q ?_
    rw [up_i (by decide), h.2.1]
    exact hQ
/-- whether a number stands that can: 0, or the fault -/
def sN (F : Nat → Int32) (n s lo hi : Nat) : Nat := if kd F n s = 2 then (if lo ≤ nm F n s ∧ nm F n s ≤ hi then 0 else 4) else am F n s
theorem c54 {d : Nat} {Q : XQ} {S : XS} {I : XI} {J : XJ} {r : XR} {a n s lo hi : Nat} {F : Nat → Int32} (h0 : LY5 S r a) (h : RD I J a n F s) (hl : lo < 1000000) (hh : hi < 1000000) (hT : sN F n s lo hi = 0 → kd F n s = 2 → I a 6 = nI (nm F n s) → lo ≤ nm F n s → nm F n s ≤ hi → Q (some (.int (nI 1))) S I J r) (hF : sN F n s lo hi ≠ 0 → FA Q S I J r a (sN F n s lo hi) s) : xcall (d + 2) 54 [.ref a, .int (nI lo), .int (nI hi)] S I J r Q := by
  refine E54 h0 ?_
  rw [h.2.2.2.1, nI_eqI (by have := kd_le (F := F) (n := n) (s := s); omega) (by decide)]
  unfold sN at hT hF
  by_cases q : kd F n s = 2
  · have hm := nm_lt q
    rw [if_pos q] at hT hF
    refine yes q ?_
    rw [h.2.2.2.2.2.1 q, nI_ltI (by omega) (by omega), nI_leI (by omega) (by omega)]
    by_cases q1 : nm F n s < lo
    · rw [if_neg (c := lo ≤ nm F n s ∧ nm F n s ≤ hi) (by omega)] at hF
      refine yes q1 (c53 (d := d) h0 h ?_)
      unfold FA
      exact K54_34 (yes rfl (hF (by decide)))
    · refine no q1 ?_
      by_cases q2 : nm F n s ≤ hi
      · exact yes q2 (hT (by rw [if_pos ⟨by omega, q2⟩]) q (h.2.2.2.2.2.1 q) (by omega) q2)
      · rw [if_neg (c := lo ≤ nm F n s ∧ nm F n s ≤ hi) (by omega)] at hF
        refine no q2 (c53 (d := d) h0 h ?_)
        unfold FA
        exact K54_34 (yes rfl (hF (by decide)))
  · rw [if_neg q] at hF
    refine no q (c55 (d := d) h0 h ?_)
    unfold FA
    exact K54_12 ⟨Or.inl rfl, hF (by unfold am; split <;> decide)⟩
theorem c56 {d : Nat} {Q : XQ} {S : XS} {I : XI} {J : XJ} {r : XR} {a n s k : Nat} {F : Nat → Int32} (h0 : LY5 S r a) (hn : n ≤ 900) (hs : s ≤ n) (h : RD I J a n F s) (hk : k < 29) (hb : ∀ i, i < strLen k → swd k i < 34359738368) (hK : swd k (strLen k) < 1099511627776)
    (hT : isW F n s (swd k (strLen k)) = true → ∀ I' J', rk a I I' → jk a 5 J J' → RD I' J' a n F (nxt F n s) → Q (some (.int (nI 1))) S I' J' r) (hF : isW F n s (swd k (strLen k)) = false → FA Q S I J r a (am F n s) s) : xcall (d + 6) 56 [.ref a, .retAddr k] S I J r Q := by
  refine E56 h0 (c40 h0 h hk hb hK (fun q => K56_5 h0 (yes (by decide) (c36 h0 hn hs h (fun I' J' f1 f2 f3 => K56_17 (hT q I' J' f1 f2 f3))))) (fun q => K56_5 h0 (nno rfl (c55 h0 h ?_))))
  unfold FA
  exact K56_12 ⟨Or.inl rfl, hF q⟩
def isC (F : Nat → Int32) (n s : Nat) : Bool := decide (kd F n s = 3 ∧ F s = nI 59)
theorem isC_t {F : Nat → Int32} {n s : Nat} : isC F n s = true ↔ kd F n s = 3 ∧ F s = nI 59 := decide_eq_true_iff
theorem c57 {d : Nat} {Q : XQ} {S : XS} {I : XI} {J : XJ} {r : XR} {a n s : Nat} {F : Nat → Int32} (h0 : LY5 S r a) (hn : n ≤ 900) (hs : s ≤ n) (h : RD I J a n F s)
    (hT : isC F n s = true → ∀ I' J', rk a I I' → jk a 5 J J' → RD I' J' a n F (nxt F n s) → Q (some (.int (nI 1))) S I' J' r) (hF : isC F n s = false → FA Q S I J r a (am F n s) s) : xcall (d + 3) 57 [.ref a] S I J r Q := by
  have bad : isC F n s = false → xcall (d + 2) 55 [.ref a] S I J r (fun v S1 I1 J1 r1 => xrun z0 (xcall (d + 2)) Q 57 21 [.ref a] (v.toList ++ []) S1 I1 J1 r1 0 0) := fun q => by
    refine c55 h0 h ?_
    unfold FA
    exact K57_21 ⟨Or.inl rfl, hF q⟩
  refine E57 h0 ?_
  rw [h.2.2.2.1, nI_eqI (by have := kd_le (F := F) (n := n) (s := s); omega) (by decide)]
  by_cases q : kd F n s = 3
  · refine nno q ?_
    rw [h.2.2.2.2.2.2 q]
    by_cases q2 : F s = nI 59
    · exact yes q2 (c36 h0 hn hs h (fun I' J' f1 f2 f3 => K57_26 (hT (isC_t.mpr ⟨q, q2⟩) I' J' f1 f2 f3)))
    · exact no q2 (bad (Bool.eq_false_iff.mpr (fun h => q2 (isC_t.mp h).2)))
  · exact yes q (bad (Bool.eq_false_iff.mpr (fun h => q (isC_t.mp h).1)))
